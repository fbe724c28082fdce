/-! pairs of rows: row -/
theorem k_40 : ((Int8.ofInt 40).toInt32).toInt = 40 := by decide
theorem k_2 : (Int32.ofInt 2).toInt = 2 := by decide
theorem k_l2 : (m_nth m_kL 1 0).toInt = 2 := by decide
theorem k_40n (r t : Nat) : (Int8.ofInt 40).toInt32 * nI r + nI t = nI (40 * r + t) := by
  rw [show (Int8.ofInt 40).toInt32 = nI 40 from rfl, pk_mul, nI_add]
theorem k_z32 : (0 : Int32).toInt = 0 := by decide
/-- the first n items of row r of the model are 0 -/
def m_rz (σ : m_M) (r n : Nat) : m_M := (fun c v j => if c = 13 ∧ v = 2 ∧ 40 * r ≤ j ∧ j < 40 * r + n then 0 else σ.1 c v j, σ.2)
theorem m_rz_0 {σ : m_M} {r : Nat} : m_rz σ r 0 = σ := by
  refine Prod.ext ?_ rfl
  funext c v j
  simp only [m_rz]
  rw [if_neg (by omega)]
theorem m_rz_up {σ : m_M} {r n : Nat} : m_up (m_rz σ r n) 13 2 (40 * r + n) 0 = m_rz σ r (n + 1) := by
  refine Prod.ext ?_ rfl
  funext c v j
  simp only [m_up, m_rz]
  by_cases h1 : c = 13 ∧ v = 2
  · obtain ⟨rfl, rfl⟩ := h1
    by_cases h2 : j = 40 * r + n
    · rw [if_pos ⟨rfl, rfl, h2⟩, if_pos ⟨rfl, rfl, by omega, by omega⟩]
    · rw [if_neg (by omega)]
      by_cases h3 : 40 * r ≤ j ∧ j < 40 * r + n
      · rw [if_pos ⟨rfl, rfl, h3⟩, if_pos ⟨rfl, rfl, by omega, by omega⟩]
      · rw [if_neg (by omega), if_neg (by omega)]
  · rw [if_neg (by omega), if_neg (by omega), if_neg (by omega)]
theorem m_rz_other {σ : m_M} {r n c v : Nat} (h : ¬ (c = 13 ∧ v = 2)) : (m_rz σ r n).1 c v = σ.1 c v := by
  funext j
  simp only [m_rz]
  rw [if_neg (by omega)]
theorem m_zero_other {σ : m_M} {w n c v : Nat} (h : ¬ (c = 12 ∧ v = w)) : (m_zero σ w n).1 c v = σ.1 c v := by
  funext j
  simp only [m_zero]
  rw [if_neg (by omega)]
theorem m_lenR {r : Nat} (hr : r < 8) : m_lenN (20 + r) = 40 := by
  obtain rfl | rfl | rfl | rfl | rfl | rfl | rfl | rfl : r = 0 ∨ r = 1 ∨ r = 2 ∨ r = 3 ∨ r = 4 ∨ r = 5 ∨ r = 6 ∨ r = 7 := by omega
  all_goals rfl
theorem s_mrow {E : m_E} {x r : Nat} {σ : m_M} {Q : m_F → Prop} {b c : Int32} (hr : r < 8) (hq : Q (0, [], [vI c], m_rz σ r 40)) : m_T E 65535 x 85 (65, [some (vR 6 0), some (vI (nI r)), some (vI b), some (vI c), some (vI (nI 0))], [], σ) Q := by
  have key : ∀ n t, t + n = 40 → m_T E 65535 x 85 (65, [some (vR 6 0), some (vI (nI r)), some (vI b), some (vI c), some (vI (nI t))], [], m_rz σ r t) Q := by
    intro n
    induction n with
    | zero =>
      intro t ht
      refine m_T_un 40 (fun y pc => Nat.beq y 85 && Nat.beq pc 65) ?_
      refine ⟨fun c1 => ?_, fun c1 => absurd (nI_le (show 40 ≤ t by omega) (by omega)) c1⟩
      obtain rfl : t = 40 := by omega
      exact hq
    | succ n ih =>
      intro t ht
      refine m_T_un 40 (fun y pc => Nat.beq y 85 && Nat.beq pc 65) ?_
      refine ⟨fun c1 => absurd c1 (nI_ge (show t < 40 by omega) (by decide)), fun c1 => ⟨show vp_in ((Int8.ofInt 40).toInt32 * nI r + nI t) 320 by rw [k_40n]; exact k_in (by omega) (by decide), ?_⟩⟩
      have e := ih (t + 1) (by omega)
      rw [← m_rz_up, nI_succ] at e
      have e2 : m_T E 65535 x 85 (65, [some (vR 6 0), some (vI (nI r)), some (vI b), some (vI c), some (vI (nI t + 1))], [], m_up (m_rz σ r t) 13 2 ((Int8.ofInt 40).toInt32 * nI r + nI t).toNatClampNeg 0) Q := by rw [k_40n, k_cl (by omega)]; exact e
      exact e2
  have e := key 40 0 (by omega)
  rw [m_rz_0] at e
  exact e
theorem p_row {E : m_E} {D : Nat} {σ : m_M} (hD : D < 512) (hs : q_sim D σ) (a : Int32) (b : Int32) (c : Int32) : q_pair E D 0 85 [vI a, vI b, vI c] σ := by
  have hs1 : q_sim (D + 1) σ := q_sim_more (Nat.le_succ D) hs
  have hs2 : q_sim (D + 1) (m_up σ 6 0 0 (Int32.ofInt 0)) := z_thr hs1
  by_cases hr : 0 ≤ a.toInt ∧ a.toInt < (8 : Nat)
  · obtain ⟨r, hr8, rfl⟩ := k_of hr.1 hr.2
    have x0 : (nI r).toNatClampNeg = r := k_cl (by omega)
    refine m_T_un 60 (fun y _ => Nat.beq y 1 || Nat.beq y 2 || Nat.beq y 47) ?_
    refine s_rowAt1 r hr8 rfl ?_
    by_cases hb : 0 ≤ b.toInt ∧ b.toInt ≤ 2
    · refine s_outA0 0 2 k_0 k_2 hb.1 hb.2 ?_
      refine ⟨fun q => absurd rfl q, fun _ => ⟨fun h40 => ?_, fun h40 => ?_⟩⟩
      · have h40 : c ≤ (Int8.ofInt 40).toInt32 := h40
        rw [k_le, k_40] at h40
        refine ⟨fun hc0 => ?_, fun hc0 => ?_⟩
        · have hc0 : (0 : Int32) ≤ c := hc0
          rw [k_le, k_z32] at hc0
          obtain ⟨n, n41, rfl⟩ := k_of (n := 41) hc0 (by omega)
          obtain ⟨d, d3, rfl⟩ := k_of (n := 3) hb.1 (by omega)
          refine ⟨Or.inr rfl, ?_⟩
          refine s_clear ?_
          refine ⟨nI n, rfl, ?_⟩
          refine m_T_un 60 (fun y pc => Nat.beq y 86 || Nat.beq y 87 || (Nat.beq y 85 && Nat.beq pc 65)) ?_
          refine s_isRow1 hr.1 (by omega) ⟨fun q => absurd q k_no1, fun _ => ?_⟩
          refine s_inA1 0 2 k_L0 k_l2 hb.1 hb.2 ⟨fun q => absurd q k_no1, fun _ => ?_⟩
          refine ⟨fun _ => ?_, fun q => ?_⟩
          · refine ⟨fun _ => ?_, fun q => absurd (nI_pos' (by omega)) q⟩
            refine ⟨k_in (n := 8) hr8 (by decide), k_in (n := 8) hr8 (by decide), ?_⟩
            refine s_mrow hr8 ⟨rfl, ?_⟩
            rw [x0]
            refine q_sim_rows (σ := σ) (fun c v h1 h2 h3 h4 h5 h6 h7 => ?_) rfl rfl rfl rfl rfl rfl (fun q hq => ?_) hs1
            · rw [m_rz_other (by omega), m_up_other (by omega), m_up_other (by omega), m_up_other (by omega), m_up_other (by omega), m_up_other (by omega), m_zero_other (by omega), m_up_other (by omega), m_up_other (by omega), m_up_other (by omega)]
            · by_cases hqr : q = r
              · subst hqr
                refine ⟨n, by omega, ?_, ?_, Or.inr ⟨?_, d, by omega, ?_, ?_⟩, fun j hj => ?_⟩
                · show (if 3 = 3 ∧ q = q ∧ 3 = 3 then nI n else _) = nI n
                  rw [if_pos ⟨rfl, rfl, rfl⟩]
                · show (if 13 = 13 ∧ 1 = 1 ∧ q = q then nI n else _) = nI n
                  rw [if_pos ⟨rfl, rfl, rfl⟩]
                · simp [m_up, m_rz, m_zero]
                · simp [m_up, m_rz, m_zero]
                · show (if 13 = 13 ∧ 0 = 0 ∧ q = q then nI d else _) = nI d
                  rw [if_pos ⟨rfl, rfl, rfl⟩]
                · have e1 : m_lenN (20 + q) = 40 := m_lenR hr8
                  show (if 12 = 12 ∧ 20 + q = 20 + q ∧ j < m_lenN (20 + q) then 0 else _) = (if 13 = 13 ∧ 2 = 2 ∧ 40 * q ≤ 40 * q + j ∧ 40 * q + j < 40 * q + 40 then 0 else _)
                  rw [e1, if_pos ⟨rfl, rfl, hj⟩, if_pos ⟨rfl, rfl, by omega, by omega⟩]
              · refine q_row_pw (σ := σ) (fun j hj => ?_) ?_ ?_ (fun j hj => ?_) (hs1.1 q hq)
                · rw [m_rz_other (by omega), m_up_other (by omega), m_up_other (by omega), m_up_other (by omega), m_up_other (by omega), m_up_other (by omega), m_zero_other (by omega), m_up_other (by omega), m_up_other (by omega), m_up_other (by omega)]
                · show (if 13 = 13 ∧ 0 = 0 ∧ q = r then nI d else σ.1 13 0 q) = _
                  rw [if_neg (by omega)]
                · show (if 13 = 13 ∧ 1 = 1 ∧ q = r then nI n else σ.1 13 1 q) = _
                  rw [if_neg (by omega)]
                · obtain ⟨_, -, -, -, -, f⟩ := hs1.1 q hq
                  show (if 12 = 12 ∧ 20 + q = 20 + r ∧ j < m_lenN (20 + r) then 0 else σ.1 12 (20 + q) j) = (if 13 = 13 ∧ 2 = 2 ∧ 40 * r ≤ 40 * q + j ∧ 40 * q + j < 40 * r + 40 then 0 else σ.1 13 2 (40 * q + j))
                  rw [if_neg (by omega), if_neg (by omega)]
                  exact f j hj
          · have q : ¬ nI n ≤ (Int8.ofInt 40).toInt32 := q
            rw [k_le, k_40] at q
            exact absurd h40 q
        · have hc0 : ¬ (0 : Int32) ≤ c := hc0
          refine ⟨_, rfl, ?_⟩
          refine m_T_un 60 (fun y pc => Nat.beq y 86 || Nat.beq y 87 || (Nat.beq y 85 && Nat.beq pc 65)) ?_
          refine s_isRow1 hr.1 (by omega) ⟨fun q => absurd q k_no1, fun _ => ?_⟩
          refine s_inA1 0 2 k_L0 k_l2 hb.1 hb.2 ⟨fun q => absurd q k_no1, fun _ => ?_⟩
          refine ⟨fun _ => ⟨fun q => absurd q hc0, fun _ => ⟨rfl, z_find hs1⟩⟩, fun q => ?_⟩
          have q : ¬ c ≤ (Int8.ofInt 40).toInt32 := q
          rw [k_le, k_40] at q
          exact absurd h40 q
      · have h40 : ¬ c ≤ (Int8.ofInt 40).toInt32 := h40
        refine ⟨_, rfl, ?_⟩
        refine m_T_un 60 (fun y pc => Nat.beq y 86 || Nat.beq y 87 || (Nat.beq y 85 && Nat.beq pc 65)) ?_
        refine s_isRow1 hr.1 (by omega) ⟨fun q => absurd q k_no1, fun _ => ?_⟩
        exact s_inA1 0 2 k_L0 k_l2 hb.1 hb.2 ⟨fun q => absurd q k_no1, fun _ => ⟨fun q => absurd q h40, fun _ => ⟨rfl, hs2⟩⟩⟩
    · refine s_outA1 0 2 k_0 k_2 (by omega) ?_
      refine ⟨fun _ => ?_, fun q => absurd q k_no1⟩
      refine ⟨_, rfl, ?_⟩
      refine m_T_un 60 (fun y pc => Nat.beq y 86 || Nat.beq y 87 || (Nat.beq y 85 && Nat.beq pc 65)) ?_
      refine s_isRow1 hr.1 (by omega) ⟨fun q => absurd q k_no1, fun _ => ?_⟩
      exact s_inA0 0 2 k_L0 k_l2 (by omega) ⟨fun _ => ⟨rfl, hs2⟩, fun q => absurd rfl q⟩
  · refine m_T_un 60 (fun y _ => Nat.beq y 1 || Nat.beq y 2 || Nat.beq y 47) ?_
    refine s_rowAt0 (k_not hr) ?_
    refine ⟨_, rfl, ?_⟩
    refine m_T_un 60 (fun y pc => Nat.beq y 86 || Nat.beq y 87 || (Nat.beq y 85 && Nat.beq pc 65)) ?_
    exact s_isRow0 (k_not hr) ⟨fun _ => ⟨rfl, hs2⟩, fun q => absurd rfl q⟩
