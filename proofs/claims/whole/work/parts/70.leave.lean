/-! one leaves -/
theorem z_leave {σ τ : m_M} {D N m w a d i : Nat} {L K R H : Nat → Nat} {x y : Int32} (hT : q_T σ D N m w a d L K R H) (hi : i < m) (hxy : (x = 0 ∧ y = -1000000) ∨ (0 < x ∧ y = x))
    (hf : ∀ j, j < 309 → τ.1 13 3 j = if j = 8 then nI (m - 1) else if j = 72 + 4 * L i then y else if 9 + i ≤ j ∧ j < 9 + (m - 1) then σ.1 13 3 (j + 1) else σ.1 13 3 j)
    (h0 : τ.1 12 0 = σ.1 12 0) (h1 : τ.1 12 1 = σ.1 12 1) (h2 : τ.1 12 2 = σ.1 12 2) (h3 : ∀ q, τ.1 12 3 q = if q = L i then x else σ.1 12 3 q) (h4 : ∀ t, t < m - 1 → τ.1 12 4 t = if t < i then σ.1 12 4 t else σ.1 12 4 (t + 1)) (h5 : ∀ j, τ.1 5 0 j = if j = 9 then nI (m - 1) else σ.1 5 0 j) :
    q_T τ D N (m - 1) w a d (fun t => if t < i then L t else L (t + 1)) K R H := by
  obtain ⟨⟨w0, w1, w2, w3, w4, w5, w6, w7, w8, w9, wa, wb, wc⟩, c1, c2, c3⟩ := hT
  have lo : ∀ j, j < 8 → τ.1 13 3 j = σ.1 13 3 j := fun j hj => by
    rw [hf j (by omega), if_neg (by omega), if_neg (by omega), if_neg (by omega)]
  have hp := (wa i hi).2
  have fl : ∀ t, t < m - 1 → τ.1 13 3 (9 + t) = if t < i then σ.1 13 3 (9 + t) else σ.1 13 3 (9 + (t + 1)) := fun t ht => by
    rw [hf _ (by omega), if_neg (by omega), if_neg (by omega)]
    by_cases e : t < i
    · rw [if_neg (by omega), if_pos e]
    · rw [if_pos (by omega), if_neg e]
      exact congrArg (σ.1 13 3) (by omega)
  have old : ∀ q k, q < N → k < 3 → τ.1 13 3 (69 + k + 4 * q) = σ.1 13 3 (69 + k + 4 * q) := fun q k hq hk => by
    rw [hf _ (by omega), if_neg (by omega), if_neg (by omega), if_neg (by omega)]
  have f3 : ∀ q, q < N → τ.1 13 3 (72 + 4 * q) = if q = L i then y else σ.1 13 3 (72 + 4 * q) := fun q hq => by
    rw [hf _ (by omega), if_neg (by omega)]
    by_cases e : q = L i
    · rw [if_pos (by omega), if_pos e]
    · rw [if_neg (by omega), if_neg (by omega), if_neg e]
  refine ⟨⟨(lo 0 (by omega)).trans w0, w1, (lo 3 (by omega)).trans w2, w3, (lo 4 (by omega)).trans w4, w5, (lo 7 (by omega)).trans w6, w7, ?_, by omega, fun t ht => ⟨?_, ?_⟩, fun s t hs ht q => ?_, fun q hq => ?_⟩, fun j hj => ?_, fun t ht => ?_, fun q hq => ?_⟩
  · rw [hf _ (by omega), if_pos rfl]
  · show τ.1 13 3 (9 + t) = nI (if t < i then L t else L (t + 1))
    rw [fl t ht]
    by_cases e : t < i
    · rw [if_pos e, if_pos e]; exact (wa t (by omega)).1
    · rw [if_neg e, if_neg e]; exact (wa (t + 1) (by omega)).1
  · show (if t < i then L t else L (t + 1)) < N
    by_cases e : t < i
    · rw [if_pos e]; exact (wa t (by omega)).2
    · rw [if_neg e]; exact (wa (t + 1) (by omega)).2
  · have q : (if s < i then L s else L (s + 1)) = (if t < i then L t else L (t + 1)) := q
    by_cases e : s < i <;> by_cases e' : t < i
    · rw [if_pos e, if_pos e'] at q; exact wb s t (by omega) (by omega) q
    · rw [if_pos e, if_neg e'] at q
      have := wb s (t + 1) (by omega) (by omega) q
      omega
    · rw [if_neg e, if_pos e'] at q
      have := wb (s + 1) t (by omega) (by omega) q
      omega
    · rw [if_neg e, if_neg e'] at q
      have := wb (s + 1) (t + 1) (by omega) (by omega) q
      omega
  · obtain ⟨x1, x2, x3, x4, x5, x6, x7, x8⟩ := wc q hq
    refine ⟨(old q 0 hq (by omega)).trans x1, x2, x3, (old q 1 hq (by omega)).trans x4, x5, (old q 2 hq (by omega)).trans x6, x7, fun hh => ?_⟩
    obtain ⟨t, ht, hl⟩ := hh
    have hl : (if t < i then L t else L (t + 1)) = q := hl
    have key : ∃ u, u < m ∧ L u = q ∧ ¬ u = i := by
      by_cases e : t < i
      · rw [if_pos e] at hl; exact ⟨t, by omega, hl, by omega⟩
      · rw [if_neg e] at hl; exact ⟨t + 1, by omega, hl, by omega⟩
    obtain ⟨u, hu, hl2, hne⟩ := key
    rw [f3 q hq, if_neg (fun g => hne (wb u i hu hi (hl2.trans g)))]
    exact x8 ⟨u, hu, hl2⟩
  · show τ.1 5 0 (1 + j) = τ.1 13 3 j
    by_cases e1 : j = 8
    · subst e1
      rw [h5, if_pos (by omega), hf _ (by omega), if_pos rfl]
    · rw [h5, if_neg (by omega), lo j (by omega)]
      exact c1 j hj
  · show τ.1 12 4 t = τ.1 13 3 (9 + t)
    rw [h4 t ht, fl t ht]
    by_cases e : t < i
    · rw [if_pos e, if_pos e]; exact c2 t (by omega)
    · rw [if_neg e, if_neg e]; exact c2 (t + 1) (by omega)
  · obtain ⟨y1, y2, y3, y4⟩ := c3 q hq
    have g0 := old q 0 hq (by omega)
    have g1 := old q 1 hq (by omega)
    have g2 := old q 2 hq (by omega)
    show τ.1 12 0 q = τ.1 13 3 (69 + 4 * q) ∧ τ.1 12 1 q = τ.1 13 3 (70 + 4 * q) ∧ τ.1 12 2 q = τ.1 13 3 (71 + 4 * q) ∧ ((τ.1 12 3 q = 0 ∧ τ.1 13 3 (72 + 4 * q) = -1000000) ∨ (0 < τ.1 12 3 q ∧ τ.1 13 3 (72 + 4 * q) = τ.1 12 3 q))
    rw [h0, h1, h2, h3, f3 q hq, g0, g1, g2]
    refine ⟨y1, y2, y3, ?_⟩
    by_cases e : q = L i
    · rw [if_pos e, if_pos e]; exact hxy
    · rw [if_neg e, if_neg e]; exact y4
