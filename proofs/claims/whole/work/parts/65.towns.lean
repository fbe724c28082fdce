/-! the town changed -/
theorem k_pig : ∀ (N m : Nat) (L : Nat → Nat), (∀ i, i < m → L i < N) → (∀ i j, i < m → j < m → L i = L j → i = j) → m ≤ N
  | 0, m, L, h, _ => by
    by_cases h0 : m = 0
    · omega
    · exact absurd (h 0 (by omega)) (by omega)
  | N + 1, m, L, h, hi => by
    by_cases hx : ∃ i, i < m ∧ L i = N
    · obtain ⟨i, hm, e⟩ := hx
      have := k_pig N (m - 1) (fun j => if j < i then L j else L (j + 1)) (fun j hj => by
        show (if j < i then L j else L (j + 1)) < N
        by_cases g : j < i
        · rw [if_pos g]
          have h1 := h j (by omega)
          have h2 : ¬ L j = N := fun q => by have := hi j i (by omega) hm (q.trans e.symm); omega
          omega
        · rw [if_neg g]
          have h1 := h (j + 1) (by omega)
          have h2 : ¬ L (j + 1) = N := fun q => by have := hi (j + 1) i (by omega) hm (q.trans e.symm); omega
          omega) (fun j k hj hk q => by
        have q : (if j < i then L j else L (j + 1)) = (if k < i then L k else L (k + 1)) := q
        by_cases g : j < i <;> by_cases g' : k < i
        · rw [if_pos g, if_pos g'] at q
          exact hi j k (by omega) (by omega) q
        · rw [if_pos g, if_neg g'] at q
          have := hi j (k + 1) (by omega) (by omega) q
          omega
        · rw [if_neg g, if_pos g'] at q
          have := hi (j + 1) k (by omega) (by omega) q
          omega
        · rw [if_neg g, if_neg g'] at q
          have := hi (j + 1) (k + 1) (by omega) (by omega) q
          omega)
      omega
    · have := k_pig N m L (fun i hm => by
        have h1 := h i hm
        have h2 : ¬ L i = N := fun q => hx ⟨i, hm, q⟩
        omega) hi
      omega
/-- the town alone has changed (and what is free) -/
theorem q_sim_town {D : Nat} {σ τ : m_M} (hc : ∀ c v, ¬ (c = 5 ∧ v = 0) → ¬ c = 6 → ¬ (c = 12 ∧ v < 5) → ¬ (c = 12 ∧ v = 30) → ¬ (c = 13 ∧ v = 3) → ¬ (c = 13 ∧ v = 4) → τ.1 c v = σ.1 c v) (h0 : τ.1 5 0 0 = σ.1 5 0 0) (h1 : τ.1 6 0 1 = σ.1 6 0 1) (h7 : τ.1 6 0 7 = σ.1 6 0 7) (h9 : τ.1 6 0 9 = σ.1 6 0 9) (ha : τ.1 6 0 10 = σ.1 6 0 10) (hm : τ.1 6 0 22 = σ.1 6 0 22) (ht : q_town τ D 0 3 0) (h : q_sim D σ) : q_sim D τ := by
  obtain ⟨a1, a2, a3, a4, a5, a6, a7, a8⟩ := h
  have g : ∀ c v, ¬ (c = 5 ∧ v = 0) → ¬ c = 6 → ¬ (c = 12 ∧ v < 5) → ¬ (c = 12 ∧ v = 30) → ¬ (c = 13 ∧ v = 3) → ¬ (c = 13 ∧ v = 4) → τ.1 c v = σ.1 c v := hc
  refine ⟨fun r hr => q_row_eq (g _ _ (by omega) (by omega) (by omega) (by omega) (by omega) (by omega)) (g _ _ (by omega) (by omega) (by omega) (by omega) (by omega) (by omega)) (g _ _ (by omega) (by omega) (by omega) (by omega) (by omega) (by omega)) (g _ _ (by omega) (by omega) (by omega) (by omega) (by omega) (by omega)) (g _ _ (by omega) (by omega) (by omega) (by omega) (by omega) (by omega)) (a1 r hr), ?_, ?_, q_tape_eq (by rw [g 4 0 (by omega) (by omega) (by omega) (by omega) (by omega) (by omega)]) h9 (g _ _ (by omega) (by omega) (by omega) (by omega) (by omega) (by omega)) (g _ _ (by omega) (by omega) (by omega) (by omega) (by omega) (by omega)) a4, ?_, ht, ?_, q_trace_eq (by rw [g 1 0 (by omega) (by omega) (by omega) (by omega) (by omega) (by omega)]) hm (g _ _ (by omega) (by omega) (by omega) (by omega) (by omega) (by omega)) (g _ _ (by omega) (by omega) (by omega) (by omega) (by omega) (by omega)) a8⟩
  · rw [g 0 0 (by omega) (by omega) (by omega) (by omega) (by omega) (by omega), h1]; exact a2
  · rw [g 0 0 (by omega) (by omega) (by omega) (by omega) (by omega) (by omega), ha]; exact a3
  · rw [h0, h7]; exact a5
  · intro k hk
    rw [g 5 (2 + k) (by omega) (by omega) (by omega) (by omega) (by omega) (by omega), g 15 0 (by omega) (by omega) (by omega) (by omega) (by omega) (by omega)]
    obtain ⟨b1, b2, b3⟩ := a7 k hk
    exact ⟨b1, b2, fun q => ⟨by rw [h7]; exact (b3 q).1, q_town_eq (fun j _ => by rw [g 5 (2 + k) (by omega) (by omega) (by omega) (by omega) (by omega) (by omega)]) (fun i _ => g _ _ (by omega) (by omega) (by omega) (by omega) (by omega) (by omega)) (g _ _ (by omega) (by omega) (by omega) (by omega) (by omega) (by omega)) (b3 q).2⟩⟩
theorem q_town_of {σ : m_M} {D N m w a d : Nat} {L K R H : Nat → Nat} (h : q_T σ D N m w a d L K R H) : q_town σ D 0 3 0 := by
  have e : (fun j => σ.1 13 3 (0 + j)) = σ.1 13 3 := by funext j; rw [Nat.zero_add]
  refine ⟨N, m, w, a, d, L, K, R, H, ?_, ?_⟩
  · rw [e]; exact h.1
  · rw [e]; exact h.2
