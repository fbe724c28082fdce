/-! pair born -/
theorem z_born {σ τ : m_M} {D N m w a d : Nat} {L K R H : Nat → Nat} (hT : q_T σ D N m w a d L K R H) (hN : N < 60)
    (hf : ∀ j, τ.1 13 3 j = if j = 8 then nI (m + 1) else if j = 9 + m then nI N else if j = 7 then nI (N + 1) else if j = 72 + 4 * N then -1000000 else if j = 71 + 4 * N then 0 else if j = 70 + 4 * N then 0 else if j = 69 + 4 * N then nI 4 else σ.1 13 3 j)
    (h0 : ∀ q, τ.1 12 0 q = if q = N then nI 4 else σ.1 12 0 q) (h1 : ∀ q, τ.1 12 1 q = if q = N then 0 else σ.1 12 1 q) (h2 : ∀ q, τ.1 12 2 q = if q = N then 0 else σ.1 12 2 q) (h3 : ∀ q, τ.1 12 3 q = if q = N then 0 else σ.1 12 3 q) (h4 : ∀ i, τ.1 12 4 i = if i = m then nI N else σ.1 12 4 i) (h5 : ∀ j, τ.1 5 0 j = if j = 9 then nI (m + 1) else if j = 8 then nI (N + 1) else σ.1 5 0 j) :
    q_T τ D (N + 1) (m + 1) w a d (fun i => if i = m then N else L i) (fun q => if q = N then 4 else K q) (fun q => if q = N then 0 else R q) (fun q => if q = N then 0 else H q) := by
  obtain ⟨⟨w0, w1, w2, w3, w4, w5, w6, w7, w8, w9, wa, wb, wc⟩, c1, c2, c3⟩ := hT
  have lo : ∀ j, j < 7 → τ.1 13 3 j = σ.1 13 3 j := fun j hj => by
    rw [hf, if_neg (by omega), if_neg (by omega), if_neg (by omega), if_neg (by omega), if_neg (by omega), if_neg (by omega), if_neg (by omega)]
  have old : ∀ q k, q < N → k < 4 → τ.1 13 3 (69 + k + 4 * q) = σ.1 13 3 (69 + k + 4 * q) := fun q k hq hk => by
    rw [hf, if_neg (by omega), if_neg (by omega), if_neg (by omega), if_neg (by omega), if_neg (by omega), if_neg (by omega), if_neg (by omega)]
  have f0 : τ.1 13 3 (69 + 4 * N) = nI 4 := by rw [hf, if_neg (by omega), if_neg (by omega), if_neg (by omega), if_neg (by omega), if_neg (by omega), if_neg (by omega), if_pos (by omega)]
  have f1 : τ.1 13 3 (70 + 4 * N) = 0 := by rw [hf, if_neg (by omega), if_neg (by omega), if_neg (by omega), if_neg (by omega), if_neg (by omega), if_pos (by omega)]
  have f2 : τ.1 13 3 (71 + 4 * N) = 0 := by rw [hf, if_neg (by omega), if_neg (by omega), if_neg (by omega), if_neg (by omega), if_pos (by omega)]
  have f3 : τ.1 13 3 (72 + 4 * N) = -1000000 := by rw [hf, if_neg (by omega), if_neg (by omega), if_neg (by omega), if_pos (by omega)]
  refine ⟨⟨(lo 0 (by omega)).trans w0, w1, (lo 3 (by omega)).trans w2, w3, (lo 4 (by omega)).trans w4, w5, ?_, by omega, ?_, by omega, fun i hi => ⟨?_, ?_⟩, fun i j hi hj q => ?_, fun q hq => ?_⟩, fun j hj => ?_, fun i hi => ?_, fun q hq => ?_⟩
  · rw [hf, if_neg (by omega), if_neg (by omega), if_pos rfl]
  · rw [hf, if_pos rfl]
  · show τ.1 13 3 (9 + i) = nI (if i = m then N else L i)
    by_cases e1 : i = m
    · rw [if_pos e1, hf, if_neg (by omega), if_pos (by omega)]
    · rw [if_neg e1, hf, if_neg (by omega), if_neg (by omega), if_neg (by omega), if_neg (by omega), if_neg (by omega), if_neg (by omega), if_neg (by omega)]
      exact (wa i (by omega)).1
  · show (if i = m then N else L i) < N + 1
    by_cases e1 : i = m
    · rw [if_pos e1]; omega
    · rw [if_neg e1]
      have := (wa i (by omega)).2
      omega
  · have q : (if i = m then N else L i) = (if j = m then N else L j) := q
    by_cases e1 : i = m <;> by_cases e2 : j = m
    · omega
    · rw [if_pos e1, if_neg e2] at q
      have := (wa j (by omega)).2
      omega
    · rw [if_neg e1, if_pos e2] at q
      have := (wa i (by omega)).2
      omega
    · rw [if_neg e1, if_neg e2] at q
      exact wb i j (by omega) (by omega) q
  · show τ.1 13 3 (69 + 4 * q) = nI (if q = N then 4 else K q) ∧ 1 ≤ (if q = N then 4 else K q) ∧ (if q = N then 4 else K q) ≤ 5 ∧ τ.1 13 3 (70 + 4 * q) = nI (if q = N then 0 else R q) ∧ (if q = N then 0 else R q) ≤ 9 ∧ τ.1 13 3 (71 + 4 * q) = nI (if q = N then 0 else H q) ∧ (if q = N then 0 else H q) ≤ 99 ∧ ((∃ i, i < m + 1 ∧ (if i = m then N else L i) = q) → τ.1 13 3 (72 + 4 * q) = -1000000)
    by_cases e1 : q = N
    · subst e1
      rw [if_pos rfl, if_pos rfl, if_pos rfl]
      exact ⟨f0, by omega, by omega, f1, by omega, f2, by omega, fun _ => f3⟩
    · rw [if_neg e1, if_neg e1, if_neg e1]
      obtain ⟨x1, x2, x3, x4, x5, x6, x7, x8⟩ := wc q (by omega)
      exact ⟨(old q 0 (by omega) (by omega)).trans x1, x2, x3, (old q 1 (by omega) (by omega)).trans x4, x5, (old q 2 (by omega) (by omega)).trans x6, x7, fun hh => by
        obtain ⟨i, hi, hl⟩ := hh
        by_cases e2 : i = m
        · rw [if_pos e2] at hl
          exact absurd hl.symm e1
        · rw [if_neg e2] at hl
          exact (old q 3 (by omega) (by omega)).trans (x8 ⟨i, by omega, hl⟩)⟩
  · show τ.1 5 0 (1 + j) = τ.1 13 3 j
    by_cases e1 : j = 8
    · subst e1
      rw [h5, if_pos (by omega), hf, if_pos rfl]
    · by_cases e2 : j = 7
      · subst e2
        rw [h5, if_neg (by omega), if_pos (by omega), hf, if_neg (by omega), if_neg (by omega), if_pos rfl]
      · rw [h5, if_neg (by omega), if_neg (by omega), lo j (by omega)]
        exact c1 j hj
  · show τ.1 12 4 i = τ.1 13 3 (9 + i)
    by_cases e1 : i = m
    · rw [h4, if_pos e1, hf, if_neg (by omega), if_pos (by omega)]
    · rw [h4, if_neg e1, hf, if_neg (by omega), if_neg (by omega), if_neg (by omega), if_neg (by omega), if_neg (by omega), if_neg (by omega), if_neg (by omega)]
      exact c2 i (by omega)
  · show τ.1 12 0 q = τ.1 13 3 (69 + 4 * q) ∧ τ.1 12 1 q = τ.1 13 3 (70 + 4 * q) ∧ τ.1 12 2 q = τ.1 13 3 (71 + 4 * q) ∧ ((τ.1 12 3 q = 0 ∧ τ.1 13 3 (72 + 4 * q) = -1000000) ∨ (0 < τ.1 12 3 q ∧ τ.1 13 3 (72 + 4 * q) = τ.1 12 3 q))
    by_cases e1 : q = N
    · subst e1
      rw [h0, h1, h2, h3, f0, f1, f2, f3]
      simp
    · obtain ⟨y1, y2, y3, y4⟩ := c3 q (by omega)
      have g0 := old q 0 (by omega) (by omega)
      have g1 := old q 1 (by omega) (by omega)
      have g2 := old q 2 (by omega) (by omega)
      have g3 := old q 3 (by omega) (by omega)
      rw [h0, h1, h2, h3, if_neg e1, if_neg e1, if_neg e1, if_neg e1, g0, g1, g2, g3]
      exact ⟨y1, y2, y3, y4⟩
