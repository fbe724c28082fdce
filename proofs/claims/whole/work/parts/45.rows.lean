/-! pairs of rows: drop, set -/
theorem q_sim_rows {D : Nat} {σ τ : m_M} (hc : ∀ c v, ¬ c = 0 → ¬ c = 3 → ¬ c = 6 → ¬ (c = 12 ∧ 20 ≤ v ∧ v < 28) → ¬ (c = 12 ∧ v = 30) → ¬ (c = 13 ∧ v < 3) → ¬ (c = 13 ∧ v = 4) → τ.1 c v = σ.1 c v) (h07 : τ.1 0 0 7 = σ.1 0 0 7) (h8 : τ.1 0 0 8 = τ.1 6 0 1) (h7 : τ.1 6 0 7 = σ.1 6 0 7) (h9 : τ.1 6 0 9 = σ.1 6 0 9) (ha : τ.1 6 0 10 = σ.1 6 0 10) (hm : τ.1 6 0 22 = σ.1 6 0 22) (hr : ∀ r, r < 8 → q_row τ r) (h : q_sim D σ) : q_sim D τ := by
  obtain ⟨a1, a2, a3, a4, a5, a6, a7, a8⟩ := h
  have g : ∀ c v, ¬ c = 0 → ¬ c = 3 → ¬ c = 6 → ¬ (c = 12 ∧ 20 ≤ v ∧ v < 28) → ¬ (c = 12 ∧ v = 30) → ¬ (c = 13 ∧ v < 3) → ¬ (c = 13 ∧ v = 4) → τ.1 c v = σ.1 c v := hc
  refine ⟨hr, h8, ?_, ?_, ?_, ?_, ?_, ?_⟩
  · rw [h07, ha]; exact a3
  · exact q_tape_eq (by rw [g 4 0 (by omega) (by omega) (by omega) (by omega) (by omega) (by omega) (by omega)]) h9 (g _ _ (by omega) (by omega) (by omega) (by omega) (by omega) (by omega) (by omega)) (g _ _ (by omega) (by omega) (by omega) (by omega) (by omega) (by omega) (by omega)) a4
  · rw [g 5 0 (by omega) (by omega) (by omega) (by omega) (by omega) (by omega) (by omega), h7]; exact a5
  · exact q_town_eq (fun j _ => by rw [g 5 0 (by omega) (by omega) (by omega) (by omega) (by omega) (by omega) (by omega)]) (fun k hk => g _ _ (by omega) (by omega) (by omega) (by omega) (by omega) (by omega) (by omega)) (g _ _ (by omega) (by omega) (by omega) (by omega) (by omega) (by omega) (by omega)) a6
  · intro k hk
    rw [g 5 (2 + k) (by omega) (by omega) (by omega) (by omega) (by omega) (by omega) (by omega), g 15 0 (by omega) (by omega) (by omega) (by omega) (by omega) (by omega) (by omega)]
    obtain ⟨b1, b2, b3⟩ := a7 k hk
    exact ⟨b1, b2, fun q => ⟨by rw [h7]; exact (b3 q).1, q_town_eq (fun j _ => by rw [g 5 (2 + k) (by omega) (by omega) (by omega) (by omega) (by omega) (by omega) (by omega)]) (fun i hi => g _ _ (by omega) (by omega) (by omega) (by omega) (by omega) (by omega) (by omega)) (g _ _ (by omega) (by omega) (by omega) (by omega) (by omega) (by omega) (by omega)) (b3 q).2⟩⟩
  · exact q_trace_eq (by rw [g 1 0 (by omega) (by omega) (by omega) (by omega) (by omega) (by omega) (by omega)]) hm (g _ _ (by omega) (by omega) (by omega) (by omega) (by omega) (by omega) (by omega)) (g _ _ (by omega) (by omega) (by omega) (by omega) (by omega) (by omega) (by omega)) a8
theorem q_sim_st {D : Nat} {σ τ : m_M} (hc : ∀ c v, ¬ c = 0 → ¬ c = 6 → ¬ (c = 12 ∧ v = 30) → ¬ (c = 13 ∧ v = 4) → τ.1 c v = σ.1 c v) (h07 : τ.1 0 0 7 = σ.1 0 0 7) (h8 : τ.1 0 0 8 = τ.1 6 0 1) (h7 : τ.1 6 0 7 = σ.1 6 0 7) (h9 : τ.1 6 0 9 = σ.1 6 0 9) (ha : τ.1 6 0 10 = σ.1 6 0 10) (hm : τ.1 6 0 22 = σ.1 6 0 22) (h : q_sim D σ) : q_sim D τ :=
  q_sim_rows (fun c v h1 _ h3 _ h5 _ h7 => hc c v h1 h3 h5 h7) h07 h8 h7 h9 ha hm (fun r hr => q_row_eq (hc _ _ (by omega) (by omega) (by omega) (by omega)) (hc _ _ (by omega) (by omega) (by omega) (by omega)) (hc _ _ (by omega) (by omega) (by omega) (by omega)) (hc _ _ (by omega) (by omega) (by omega) (by omega)) (hc _ _ (by omega) (by omega) (by omega) (by omega)) (h.1 r hr)) h
theorem q_row_pw {σ τ : m_M} {r : Nat} (h3 : ∀ j, 1 ≤ j → τ.1 3 r j = σ.1 3 r j) (h0 : τ.1 13 0 r = σ.1 13 0 r) (h1 : τ.1 13 1 r = σ.1 13 1 r) (hj : ∀ j, j < 40 → τ.1 12 (20 + r) j = τ.1 13 2 (40 * r + j)) (h : q_row σ r) : q_row τ r := by
  obtain ⟨n, a1, a2, a3, a4, -⟩ := h
  refine ⟨n, a1, by rw [h3 3 (by omega)]; exact a2, by rw [h1]; exact a3, ?_, hj⟩
  rw [h3 1 (by omega), h3 2 (by omega), h0]
  exact a4
/-- a finding on both sides -/
theorem z_find {D : Nat} {σ : m_M} {x y z : Int32} (h : q_sim D σ) : q_sim D (m_up (m_up (m_up (m_up σ 0 0 8 x) 6 0 0 y) 6 0 1 z) 6 0 1 x) := by
  refine q_sim_st (σ := σ) (fun c v h1 h2 _ _ => ?_) rfl rfl rfl rfl rfl rfl h
  rw [m_up_other (by omega), m_up_other (by omega), m_up_other (by omega), m_up_other (by omega)]
theorem z_nof {D : Nat} {σ : m_M} {x y : Int32} (h : q_sim D σ) : q_sim D (m_up (m_up (m_up σ 0 0 8 x) 6 0 0 y) 6 0 1 x) := by
  refine q_sim_st (σ := σ) (fun c v h1 h2 _ _ => ?_) rfl rfl rfl rfl rfl rfl h
  rw [m_up_other (by omega), m_up_other (by omega), m_up_other (by omega)]
theorem k_not {x : Int32} (h : ¬ (0 ≤ x.toInt ∧ x.toInt < (8 : Nat))) : x.toInt < 0 ∨ 8 ≤ x.toInt := by omega
theorem p_drop {E : m_E} {D : Nat} {σ : m_M} (hD : D < 512) (hs : q_sim D σ) (a : Int32) : q_pair E D 7 91 [vI a] σ := by
  have hs1 : q_sim (D + 1) σ := q_sim_more (Nat.le_succ D) hs
  have hs2 : q_sim (D + 1) (m_up σ 6 0 0 (Int32.ofInt 0)) := z_thr hs1
  by_cases hr : 0 ≤ a.toInt ∧ a.toInt < (8 : Nat)
  · obtain ⟨r, hr8, rfl⟩ := k_of hr.1 hr.2
    have x0 : (nI r).toNatClampNeg = r := k_cl (by omega)
    obtain ⟨n, n40, e1, e2, e3, e4⟩ := hs1.1 r hr8
    refine m_T_un 60 (fun y _ => Nat.beq y 1) ?_
    refine s_rowAt1 r hr8 rfl ?_
    rcases e3 with ⟨t0, t1⟩ | ⟨t0, d, d2, t1, t2⟩
    · refine ⟨fun c => absurd t0 c, fun _ => ?_⟩
      refine ⟨_, rfl, ?_⟩
      refine m_T_un 60 (fun y _ => Nat.beq y 86) ?_
      refine s_isRow1 hr.1 (by omega) ⟨fun _ => ?_, fun q => absurd q k_no1⟩
      refine ⟨k_in (n := 8) hr8 (by decide), fun c => ?_, fun _ => ⟨rfl, z_find hs1⟩⟩
      have c : (0 : Int32) ≤ σ.1 13 0 (nI r).toNatClampNeg := c
      rw [x0, t1] at c
      exact absurd c (by decide)
    · have nz : ¬ σ.1 3 r 1 = 0 := fun c => by rw [t0] at c; exact absurd c (by decide)
      refine ⟨fun _ => ⟨Or.inl rfl, ?_⟩, fun c => absurd c nz⟩
      refine ⟨nI n, z_v (show (m_up σ 3 r 1 (Int32.ofInt 0)).1 3 r 3 = nI n from ?_), ?_⟩
      · show (if 3 = 3 ∧ r = r ∧ 3 = 1 then Int32.ofInt 0 else σ.1 3 r 3) = nI n
        rw [if_neg (by omega)]; exact e1
      refine m_T_un 60 (fun y _ => Nat.beq y 86) ?_
      refine s_isRow1 hr.1 (by omega) ⟨fun _ => ?_, fun q => absurd q k_no1⟩
      refine ⟨k_in (n := 8) hr8 (by decide), fun _ => ?_, fun c => ?_⟩
      · refine ⟨k_in (n := 8) hr8 (by decide), ⟨k_in (n := 8) hr8 (by decide), ?_⟩⟩
        refine ⟨z_v ?_, ?_⟩
        · show σ.1 13 1 (nI r).toNatClampNeg = nI n
          rw [x0]; exact e2
        · show q_sim (D + 1) (m_up (m_up (m_up (m_up (m_up σ 3 r 1 (Int32.ofInt 0)) 0 0 8 (Int32.ofInt 0)) 6 0 0 (Int32.ofInt 0)) 6 0 1 (Int32.ofInt 0)) 13 0 (nI r).toNatClampNeg (Int32.ofInt (-1)))
          rw [x0]
          refine q_sim_rows (σ := σ) (fun c v h1 h2 h3 h4 h5 h6 h7 => ?_) rfl rfl rfl rfl rfl rfl (fun q hq => ?_) hs1
          · rw [m_up_other (by omega), m_up_other (by omega), m_up_other (by omega), m_up_other (by omega), m_up_other (by omega)]
          · by_cases hqr : q = r
            · subst hqr
              refine ⟨n, n40, ?_, e2, Or.inl ⟨?_, ?_⟩, e4⟩
              · show (if 3 = 3 ∧ q = q ∧ 3 = 1 then Int32.ofInt 0 else σ.1 3 q 3) = nI n
                rw [if_neg (by omega)]; exact e1
              · show (if 3 = 3 ∧ q = q ∧ 1 = 1 then Int32.ofInt 0 else σ.1 3 q 1) = 0
                rw [if_pos ⟨rfl, rfl, rfl⟩]; rfl
              · show (if 13 = 13 ∧ 0 = 0 ∧ q = q then Int32.ofInt (-1) else σ.1 13 0 q) = -1
                rw [if_pos ⟨rfl, rfl, rfl⟩]; rfl
            · refine q_row_pw (σ := σ) (fun j hj => ?_) ?_ rfl (fun j hj => ?_) (hs1.1 q hq)
              · show (if 3 = 3 ∧ q = r ∧ j = 1 then Int32.ofInt 0 else σ.1 3 q j) = _
                rw [if_neg (by omega)]
              · show (if 13 = 13 ∧ 0 = 0 ∧ q = r then Int32.ofInt (-1) else σ.1 13 0 q) = _
                rw [if_neg (by omega)]
              · obtain ⟨_, -, -, -, -, f⟩ := hs1.1 q hq
                exact f j hj
      · have c : ¬ (0 : Int32) ≤ σ.1 13 0 (nI r).toNatClampNeg := c
        rw [x0, t2] at c
        exact absurd (nI_pos' (by omega)) c
  · refine m_T_un 60 (fun y _ => Nat.beq y 1) ?_
    refine s_rowAt0 (k_not hr) ?_
    refine ⟨-1000001, rfl, ?_⟩
    refine m_T_un 60 (fun y _ => Nat.beq y 86) ?_
    refine s_isRow0 (k_not hr) ⟨fun q => absurd rfl q, fun _ => ⟨rfl, hs2⟩⟩
