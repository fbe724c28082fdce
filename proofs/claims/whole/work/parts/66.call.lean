/-! pair call -/
theorem z_call {σ τ : m_M} {D N m w a d : Nat} {L K R H : Nat → Nat} (hT : q_T σ D N m w a d L K R H) (p : Nat) (hp : p < N) (hn : ∀ i, i < m → ¬ L i = p)
    (hf : ∀ j, τ.1 13 3 j = if j = 8 then nI (m + 1) else if j = 9 + m then nI p else if j = 72 + 4 * p then -1000000 else if j = 69 + 4 * p then nI 3 else σ.1 13 3 j)
    (h0 : ∀ q, τ.1 12 0 q = if q = p then nI 3 else σ.1 12 0 q) (h1 : τ.1 12 1 = σ.1 12 1) (h2 : τ.1 12 2 = σ.1 12 2) (h3 : ∀ q, τ.1 12 3 q = if q = p then 0 else σ.1 12 3 q) (h4 : ∀ i, τ.1 12 4 i = if i = m then nI p else σ.1 12 4 i) (h5 : ∀ j, τ.1 5 0 j = if j = 9 then nI (m + 1) else σ.1 5 0 j) :
    q_T τ D N (m + 1) w a d (fun i => if i = m then p else L i) (fun q => if q = p then 3 else K q) R H := by
  obtain ⟨⟨w0, w1, w2, w3, w4, w5, w6, w7, w8, w9, wa, wb, wc⟩, c1, c2, c3⟩ := hT
  have lo : ∀ j, j < 8 → τ.1 13 3 j = σ.1 13 3 j := fun j hj => by
    rw [hf, if_neg (by omega), if_neg (by omega), if_neg (by omega), if_neg (by omega)]
  have inj : ∀ i j, i < m + 1 → j < m + 1 → (if i = m then p else L i) = (if j = m then p else L j) → i = j := fun i j hi hj q => by
    by_cases e1 : i = m <;> by_cases e2 : j = m
    · omega
    · rw [if_pos e1, if_neg e2] at q
      exact absurd q.symm (hn j (by omega))
    · rw [if_neg e1, if_pos e2] at q
      exact absurd q (hn i (by omega))
    · rw [if_neg e1, if_neg e2] at q
      exact wb i j (by omega) (by omega) q
  have bd : ∀ i, i < m + 1 → (if i = m then p else L i) < N := fun i hi => by
    by_cases e1 : i = m
    · rw [if_pos e1]; exact hp
    · rw [if_neg e1]; exact (wa i (by omega)).2
  have mN : m + 1 ≤ N := k_pig N (m + 1) _ bd inj
  refine ⟨⟨(lo 0 (by omega)).trans w0, w1, (lo 3 (by omega)).trans w2, w3, (lo 4 (by omega)).trans w4, w5, (lo 7 (by omega)).trans w6, w7, ?_, mN, fun i hi => ⟨?_, bd i hi⟩, inj, fun q hq => ?_⟩, fun j hj => ?_, fun i hi => ?_, fun q hq => ?_⟩
  · rw [hf, if_pos rfl]
  · rw [hf, if_neg (by omega)]
    by_cases e1 : i = m
    · rw [if_pos (by omega)]
      exact congrArg nI (if_pos e1).symm
    · rw [if_neg (by omega), if_neg (by omega), if_neg (by omega), show nI ((fun i => if i = m then p else L i) i) = nI (L i) from congrArg nI (if_neg e1)]
      exact (wa i (by omega)).1
  · obtain ⟨x1, x2, x3, x4, x5, x6, x7, x8⟩ := wc q hq
    refine ⟨?_, ?_, ?_, ?_, x5, ?_, x7, fun hh => ?_⟩
    · rw [hf, if_neg (by omega), if_neg (by omega), if_neg (by omega)]
      by_cases e1 : q = p
      · rw [if_pos (by omega)]
        exact congrArg nI (if_pos e1).symm
      · rw [if_neg (by omega)]
        exact x1.trans (congrArg nI (if_neg e1).symm)
    · show 1 ≤ (if q = p then 3 else K q)
      by_cases e1 : q = p
      · rw [if_pos e1]; omega
      · rw [if_neg e1]; exact x2
    · show (if q = p then 3 else K q) ≤ 5
      by_cases e1 : q = p
      · rw [if_pos e1]; omega
      · rw [if_neg e1]; exact x3
    · rw [hf, if_neg (by omega), if_neg (by omega), if_neg (by omega), if_neg (by omega)]; exact x4
    · rw [hf, if_neg (by omega), if_neg (by omega), if_neg (by omega), if_neg (by omega)]; exact x6
    · by_cases e1 : q = p
      · rw [hf, if_neg (by omega), if_neg (by omega), if_pos (by omega)]
      · rw [hf, if_neg (by omega), if_neg (by omega), if_neg (by omega), if_neg (by omega)]
        obtain ⟨i, hi, hl⟩ := hh
        have hl : (if i = m then p else L i) = q := hl
        by_cases e2 : i = m
        · rw [if_pos e2] at hl
          exact absurd hl.symm e1
        · rw [if_neg e2] at hl
          exact x8 ⟨i, by omega, hl⟩
  · rw [h5]
    by_cases e1 : j = 8
    · subst e1
      rw [if_pos (by omega), hf, if_pos rfl]
    · rw [if_neg (by omega), lo j (by omega)]
      exact c1 j hj
  · show τ.1 12 4 i = τ.1 13 3 (9 + i)
    by_cases e1 : i = m
    · rw [h4, if_pos e1, hf, if_neg (by omega), if_pos (by omega)]
    · rw [h4, if_neg e1, hf, if_neg (by omega), if_neg (by omega), if_neg (by omega), if_neg (by omega)]
      exact c2 i (by omega)
  · obtain ⟨y1, y2, y3, y4⟩ := c3 q hq
    have y1 : σ.1 12 0 q = σ.1 13 3 (69 + 4 * q) := y1
    have y2 : σ.1 12 1 q = σ.1 13 3 (70 + 4 * q) := y2
    have y3 : σ.1 12 2 q = σ.1 13 3 (71 + 4 * q) := y3
    show τ.1 12 0 q = _ ∧ τ.1 12 1 q = _ ∧ τ.1 12 2 q = _ ∧ ((τ.1 12 3 q = 0 ∧ _) ∨ (0 < τ.1 12 3 q ∧ _ = τ.1 12 3 q))
    refine ⟨?_, ?_, ?_, ?_⟩
    · by_cases e1 : q = p
      · rw [h0, if_pos e1, hf, if_neg (by omega), if_neg (by omega), if_neg (by omega), if_pos (by omega)]
      · rw [h0, if_neg e1, hf, if_neg (by omega), if_neg (by omega), if_neg (by omega), if_neg (by omega)]; exact y1
    · rw [h1, hf, if_neg (by omega), if_neg (by omega), if_neg (by omega), if_neg (by omega)]; exact y2
    · rw [h2, hf, if_neg (by omega), if_neg (by omega), if_neg (by omega), if_neg (by omega)]; exact y3
    · by_cases e1 : q = p
      · refine Or.inl ⟨by rw [h3, if_pos e1], ?_⟩
        show τ.1 13 3 (72 + 4 * q) = -1000000
        rw [hf, if_neg (by omega), if_neg (by omega), if_pos (by omega)]
      · show (τ.1 12 3 q = 0 ∧ τ.1 13 3 (72 + 4 * q) = -1000000) ∨ (0 < τ.1 12 3 q ∧ τ.1 13 3 (72 + 4 * q) = τ.1 12 3 q)
        rw [show τ.1 12 3 q = σ.1 12 3 q by rw [h3, if_neg e1], show τ.1 13 3 (72 + 4 * q) = σ.1 13 3 (72 + 4 * q) by rw [hf, if_neg (by omega), if_neg (by omega), if_neg (by omega), if_neg (by omega)]]
        exact y4
