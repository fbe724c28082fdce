/-! the two sides side by side: what holds between calls -/
/-- a row of both -/
def q_row (σ : m_M) (r : Nat) : Prop := ∃ n : Nat, n ≤ 40 ∧ σ.1 3 r 3 = nI n ∧ σ.1 13 1 r = nI n ∧ ((σ.1 3 r 1 = 0 ∧ σ.1 13 0 r = -1) ∨ (σ.1 3 r 1 = 1 ∧ ∃ d : Nat, d ≤ 2 ∧ σ.1 3 r 2 = nI d ∧ σ.1 13 0 r = nI d)) ∧ ∀ j, j < 40 → σ.1 12 (20 + r) j = σ.1 13 2 (40 * r + j)
def q_tape (σ : m_M) : Prop := ∃ n : Nat, n ≤ 500 ∧ σ.1 4 0 1 = nI n ∧ σ.1 6 0 9 = nI n ∧ ∀ j, j < n → σ.1 12 28 j = σ.1 13 5 j ∧ ∃ b : Nat, b < 256 ∧ σ.1 13 5 j = nI b
/-- a town in a row of numbers: N people so far, m on the list L; kinds, ranks, hastes; law, came; days below D -/
def q_wf (f : Nat → Int32) (D N m w a d : Nat) (L K R H : Nat → Nat) : Prop :=
  f 0 = nI w ∧ w ≤ 2 ∧ f 3 = nI a ∧ a ≤ 20 ∧ f 4 = nI d ∧ d ≤ D ∧ f 7 = nI N ∧ N ≤ 60 ∧ f 8 = nI m ∧ m ≤ N ∧ (∀ i, i < m → f (9 + i) = nI (L i) ∧ L i < N) ∧ (∀ i j, i < m → j < m → L i = L j → i = j) ∧
  (∀ p, p < N → f (69 + 4 * p) = nI (K p) ∧ 1 ≤ K p ∧ K p ≤ 5 ∧ f (70 + 4 * p) = nI (R p) ∧ R p ≤ 9 ∧ f (71 + 4 * p) = nI (H p) ∧ H p ≤ 99 ∧ ((∃ i, i < m ∧ L i = p) → f (72 + 4 * p) = -1000000))
/-- town v of the class shows the same -/
def q_ct (σ : m_M) (v : Nat) (f : Nat → Int32) (N m : Nat) : Prop :=
  (∀ j, j < 9 → σ.1 5 v (1 + j) = f j) ∧ (∀ i, i < m → σ.1 12 (5 * v + 4) i = f (9 + i)) ∧
  (∀ p, p < N → σ.1 12 (5 * v) p = f (69 + 4 * p) ∧ σ.1 12 (5 * v + 1) p = f (70 + 4 * p) ∧ σ.1 12 (5 * v + 2) p = f (71 + 4 * p) ∧ ((σ.1 12 (5 * v + 3) p = 0 ∧ f (72 + 4 * p) = -1000000) ∨ (0 < σ.1 12 (5 * v + 3) p ∧ f (72 + 4 * p) = σ.1 12 (5 * v + 3) p)))
def q_town (σ : m_M) (D v a off : Nat) : Prop := ∃ (N m w c d : Nat) (L K R H : Nat → Nat), q_wf (fun j => σ.1 13 a (off + j)) D N m w c d L K R H ∧ q_ct σ v (fun j => σ.1 13 a (off + j)) N m
def q_bit (x : Int32) : Prop := x = 0 ∨ x = 1
def q_trace (σ : m_M) : Prop := ∃ n : Nat, n ≤ 16 ∧ σ.1 1 0 1 = nI n ∧ σ.1 6 0 22 = nI n ∧ ∀ j, j < n → σ.1 12 29 j = σ.1 13 7 j
def q_sim (D : Nat) (σ : m_M) : Prop :=
  (∀ r, r < 8 → q_row σ r) ∧ σ.1 0 0 8 = σ.1 6 0 1 ∧ σ.1 0 0 7 = σ.1 6 0 10 ∧ q_tape σ ∧ (σ.1 5 0 0 = σ.1 6 0 7 ∧ q_bit (σ.1 6 0 7)) ∧ q_town σ D 0 3 0 ∧
  (∀ k, k < 2 → σ.1 5 (2 + k) 0 = σ.1 15 0 k ∧ q_bit (σ.1 15 0 k) ∧ (σ.1 15 0 k = 1 → σ.1 6 0 7 = 1 ∧ q_town σ D (2 + k) 6 (309 * k))) ∧ q_trace σ
/-- the same rows, the same objects: what is said of them stays -/
def q_eq (σ τ : m_M) (P : Nat → Nat → Bool) : Prop := ∀ c v, P c v = true → τ.1 c v = σ.1 c v
theorem q_row_eq {σ τ : m_M} {r : Nat} (h1 : τ.1 3 r = σ.1 3 r) (h2 : τ.1 12 (20 + r) = σ.1 12 (20 + r)) (h3 : τ.1 13 0 = σ.1 13 0) (h4 : τ.1 13 1 = σ.1 13 1) (h5 : τ.1 13 2 = σ.1 13 2) (h : q_row σ r) : q_row τ r := by
  unfold q_row at h ⊢
  rw [h1, h2, h3, h4, h5]
  exact h
theorem q_tape_eq {σ τ : m_M} (h1 : τ.1 4 0 1 = σ.1 4 0 1) (h2 : τ.1 6 0 9 = σ.1 6 0 9) (h3 : τ.1 12 28 = σ.1 12 28) (h4 : τ.1 13 5 = σ.1 13 5) (h : q_tape σ) : q_tape τ := by
  unfold q_tape at h ⊢
  rw [h1, h2, h3, h4]
  exact h
theorem q_town_eq {σ τ : m_M} {D v a off : Nat} (h1 : ∀ j, j < 9 → τ.1 5 v (1 + j) = σ.1 5 v (1 + j)) (h2 : ∀ k, k < 5 → τ.1 12 (5 * v + k) = σ.1 12 (5 * v + k)) (h3 : τ.1 13 a = σ.1 13 a) (h : q_town σ D v a off) : q_town τ D v a off := by
  obtain ⟨N, m, w, c, d, L, K, R, H, hw, hc1, hc2, hc3⟩ := h
  refine ⟨N, m, w, c, d, L, K, R, H, ?_, ?_, ?_, ?_⟩
  · rw [h3]; exact hw
  · intro j hj
    rw [h1 j hj, h3]
    exact hc1 j hj
  · rw [h2 4 (by omega), h3]; exact hc2
  · have e0 := h2 0 (by omega)
    rw [Nat.add_zero] at e0
    rw [e0, h2 1 (by omega), h2 2 (by omega), h2 3 (by omega), h3]
    exact hc3
theorem q_town_more {σ : m_M} {D D' v a off : Nat} (hD : D ≤ D') (h : q_town σ D v a off) : q_town σ D' v a off := by
  obtain ⟨N, m, w, c, d, L, K, R, H, ⟨a1, a2, a3, a4, a5, a6, a7⟩, hc⟩ := h
  exact ⟨N, m, w, c, d, L, K, R, H, ⟨a1, a2, a3, a4, a5, Nat.le_trans a6 hD, a7⟩, hc⟩
theorem q_trace_eq {σ τ : m_M} (h1 : τ.1 1 0 1 = σ.1 1 0 1) (h2 : τ.1 6 0 22 = σ.1 6 0 22) (h3 : τ.1 12 29 = σ.1 12 29) (h4 : τ.1 13 7 = σ.1 13 7) (h : q_trace σ) : q_trace τ := by
  unfold q_trace at h ⊢
  rw [h1, h2, h3, h4]
  exact h
/-- what the model notes for itself (thrown, the tape's reading) is free -/
theorem q_sim_free {D : Nat} {σ τ : m_M} (hc : ∀ c v, ¬ c = 6 → ¬ (c = 13 ∧ v = 4) → τ.1 c v = σ.1 c v) (h1 : τ.1 6 0 1 = σ.1 6 0 1) (h7 : τ.1 6 0 7 = σ.1 6 0 7) (h9 : τ.1 6 0 9 = σ.1 6 0 9) (ha : τ.1 6 0 10 = σ.1 6 0 10) (hm : τ.1 6 0 22 = σ.1 6 0 22) (h : q_sim D σ) : q_sim D τ := by
  obtain ⟨a1, a2, a3, a4, a5, a6, a7, a8⟩ := h
  refine ⟨fun r hr => q_row_eq (hc _ _ (by omega) (by omega)) (hc _ _ (by omega) (by omega)) (hc _ _ (by omega) (by omega)) (hc _ _ (by omega) (by omega)) (hc _ _ (by omega) (by omega)) (a1 r hr), ?_, ?_, q_tape_eq (by rw [hc 4 0 (by omega) (by omega)]) h9 (hc _ _ (by omega) (by omega)) (hc _ _ (by omega) (by omega)) a4, ?_, q_town_eq (fun j _ => by rw [hc 5 0 (by omega) (by omega)]) (fun k _ => hc _ _ (by omega) (by omega)) (hc _ _ (by omega) (by omega)) a6, ?_, q_trace_eq (by rw [hc 1 0 (by omega) (by omega)]) hm (hc _ _ (by omega) (by omega)) (hc _ _ (by omega) (by omega)) a8⟩
  · rw [hc 0 0 (by omega) (by omega), h1]; exact a2
  · rw [hc 0 0 (by omega) (by omega), ha]; exact a3
  · rw [hc 5 0 (by omega) (by omega), h7]; exact a5
  · intro k hk
    rw [hc 5 (2 + k) (by omega) (by omega), hc 15 0 (by omega) (by omega)]
    obtain ⟨b1, b2, b3⟩ := a7 k hk
    exact ⟨b1, b2, fun q => ⟨by rw [h7]; exact (b3 q).1, q_town_eq (fun j _ => by rw [hc 5 (2 + k) (by omega) (by omega)]) (fun i _ => hc _ _ (by omega) (by omega)) (hc _ _ (by omega) (by omega)) (b3 q).2⟩⟩
theorem q_sim_more {D D' : Nat} {σ : m_M} (hD : D ≤ D') (h : q_sim D σ) : q_sim D' σ := by
  obtain ⟨a1, a2, a3, a4, a5, a6, a7, a8⟩ := h
  exact ⟨a1, a2, a3, a4, a5, q_town_more hD a6, fun k hk => ⟨(a7 k hk).1, (a7 k hk).2.1, fun q => ⟨((a7 k hk).2.2 q).1, q_town_more hD ((a7 k hk).2.2 q).2⟩⟩, a8⟩
