/-! pairs of rows: set -/
theorem z_set {D : Nat} {σ : m_M} {r k : Nat} {x : Int32} (h : q_sim D σ) (hr : r < 8) (hk : k < 40) : q_sim D (m_up (m_up (m_up (m_up (m_up σ 12 (20 + r) k x) 0 0 8 (Int32.ofInt 0)) 6 0 0 (Int32.ofInt 0)) 6 0 1 (Int32.ofInt 0)) 13 2 (40 * r + k) x) := by
  refine q_sim_rows (σ := σ) (fun c v h1 h2 h3 h4 h5 h6 h7 => ?_) rfl rfl rfl rfl rfl rfl (fun q hq => ?_) h
  · rw [m_up_other (by omega), m_up_other (by omega), m_up_other (by omega), m_up_other (by omega), m_up_other (by omega)]
  · refine q_row_pw (σ := σ) (fun j hj => ?_) ?_ ?_ (fun j hj => ?_) (h.1 q hq)
    · rw [m_up_other (by omega), m_up_other (by omega), m_up_other (by omega), m_up_other (by omega), m_up_other (by omega)]
    · rw [m_up_other (by omega), m_up_other (by omega), m_up_other (by omega), m_up_other (by omega), m_up_other (by omega)]
    · rw [m_up_other (by omega), m_up_other (by omega), m_up_other (by omega), m_up_other (by omega), m_up_other (by omega)]
    · obtain ⟨_, -, -, -, -, f⟩ := h.1 q hq
      show (if 12 = 12 ∧ 20 + q = 20 + r ∧ j = k then x else σ.1 12 (20 + q) j) = (if 13 = 13 ∧ 2 = 2 ∧ 40 * q + j = 40 * r + k then x else σ.1 13 2 (40 * q + j))
      by_cases e : q = r ∧ j = k
      · rw [if_pos (by omega), if_pos (by omega)]
      · rw [if_neg (by omega), if_neg (by omega)]
        exact f j hj
def k_st : Nat → Nat → Bool := fun y _ => Nat.beq y 1 || Nat.beq y 2 || Nat.beq y 48 || Nat.beq y 49 || Nat.beq y 47
def k_sm : Nat → Nat → Bool := fun y _ => Nat.beq y 86 || Nat.beq y 87
theorem p_set {E : m_E} {D : Nat} {σ : m_M} (hD : D < 512) (hs : q_sim D σ) (a : Int32) (b : Int32) (c : Int32) : q_pair E D 5 89 [vI a, vI b, vI c] σ := by
  have hs1 : q_sim (D + 1) σ := q_sim_more (Nat.le_succ D) hs
  have hs2 : q_sim (D + 1) (m_up σ 6 0 0 (Int32.ofInt 0)) := z_thr hs1
  by_cases hr : 0 ≤ a.toInt ∧ a.toInt < (8 : Nat)
  · obtain ⟨r, hr8, rfl⟩ := k_of hr.1 hr.2
    have x0 : (nI r).toNatClampNeg = r := k_cl (by omega)
    have i8 : vp_in (nI r) 8 := k_in hr8 (by decide)
    refine m_T_un 60 (fun y _ => Nat.beq y 1 || Nat.beq y 2 || Nat.beq y 48) ?_
    refine s_rowAt1 r hr8 rfl ?_
    obtain ⟨n, n40, e1, e2, e3, e4⟩ := hs1.1 r hr8
    rcases e3 with ⟨t0, t1⟩ | ⟨t0, d, d2, t1, t2⟩
    · refine ⟨fun q => absurd t0 q, fun _ => ?_⟩
      refine ⟨_, rfl, ?_⟩
      refine m_T_un 60 (fun y _ => Nat.beq y 86 || Nat.beq y 87) ?_
      refine s_isRow1 hr.1 (by omega) ⟨fun _ => ?_, fun q => absurd q k_no1⟩
      refine ⟨i8, fun q => ?_, fun _ => ⟨rfl, z_find hs1⟩⟩
      have q : (0 : Int32) ≤ σ.1 13 0 (nI r).toNatClampNeg := q
      rw [x0, t1] at q
      exact absurd q (by decide)
    · have nz : ¬ σ.1 3 r 1 = 0 := fun q => by rw [t0] at q; exact absurd q (by decide)
      have g0 : (0 : Int32) ≤ σ.1 13 0 (nI r).toNatClampNeg := by rw [x0, t2]; exact nI_pos' (by omega)
      have z1 : (σ.1 3 r 3 - Int32.ofInt 1).toInt = (n : Int) - 1 := by rw [e1]; exact k_m1I (by omega)
      have z2 : ((σ.1 13 1 (nI r).toNatClampNeg - Int32.ofInt 1).toInt64).toInt = (n : Int) - 1 := by rw [x0, e2, Int32.toInt_toInt64]; exact k_m1I (by omega)
      refine ⟨fun _ => ?_, fun q => absurd q nz⟩
      by_cases hb : 0 ≤ b.toInt ∧ b.toInt ≤ (n : Int) - 1
      · obtain ⟨k, hk, rfl⟩ := k_of (n := n) hb.1 (by omega)
        have xi : (Int8.ofInt 40).toInt32 * nI r + nI k = nI (40 * r + k) := k_40n r k
        have xc : ((Int8.ofInt 40).toInt32 * nI r + nI k).toNatClampNeg = 40 * r + k := by rw [xi, k_cl (by omega)]
        have xv : vp_in ((Int8.ofInt 40).toInt32 * nI r + nI k) 320 := by rw [xi]; exact k_in (by omega) (by decide)
        refine s_outA0 0 ((n : Int) - 1) k_0 z1 hb.1 hb.2 ?_
        refine ⟨fun _ => ?_, fun q => absurd rfl q⟩
        have g1 : ∀ z : Int32, ¬ nI d = z → ¬ σ.1 13 0 (nI r).toNatClampNeg = z := fun z hz => by rw [x0, t2]; exact hz
        have g2 : σ.1 13 0 (nI r).toNatClampNeg = nI d := by rw [x0, t2]
        obtain rfl | rfl | rfl : d = 0 ∨ d = 1 ∨ d = 2 := by omega
        · refine ⟨fun q => absurd t1 q, fun _ => ?_⟩
          refine s_put k rfl (by rw [m_lenR hr8]; omega) ?_
          refine ⟨_, rfl, ?_⟩
          refine m_T_un 60 (fun y _ => Nat.beq y 86 || Nat.beq y 87) ?_
          refine s_isRow1 hr.1 (by omega) ⟨fun _ => ?_, fun q => absurd q k_no1⟩
          refine ⟨i8, fun _ => ⟨i8, ?_⟩, fun q => absurd g0 q⟩
          refine s_inA1 0 ((n : Int) - 1) k_L0 z2 hb.1 hb.2 ⟨fun _ => ?_, fun q => absurd q k_no1⟩
          refine ⟨i8, fun q => absurd g2 q, fun _ => ?_⟩
          refine ⟨xv, xv, ?_⟩
          rw [xc]
          exact ⟨z_v (by simp [m_up]), z_set hs1 hr8 (by omega)⟩
        · refine ⟨fun _ => ⟨fun q => absurd t1 q, fun _ => ?_⟩, fun q => absurd (t1.symm.trans q) (by decide)⟩
          refine s_put k rfl (by rw [m_lenR hr8]; omega) ?_
          refine ⟨_, rfl, ?_⟩
          refine m_T_un 60 (fun y _ => Nat.beq y 86 || Nat.beq y 87) ?_
          refine s_isRow1 hr.1 (by omega) ⟨fun _ => ?_, fun q => absurd q k_no1⟩
          refine ⟨i8, fun _ => ⟨i8, ?_⟩, fun q => absurd g0 q⟩
          refine s_inA1 0 ((n : Int) - 1) k_L0 z2 hb.1 hb.2 ⟨fun _ => ?_, fun q => absurd q k_no1⟩
          refine ⟨i8, fun _ => ⟨i8, fun q => absurd g2 q, fun _ => ?_⟩, fun q => absurd q (g1 0 (by decide))⟩
          refine ⟨xv, xv, ?_⟩
          rw [xc]
          exact ⟨z_v (by simp [m_up]), z_set hs1 hr8 (by omega)⟩
        · refine ⟨fun _ => ⟨fun _ => ?_, fun q => absurd (t1.symm.trans q) (by decide)⟩, fun q => absurd (t1.symm.trans q) (by decide)⟩
          refine s_put k rfl (by rw [m_lenR hr8]; omega) ?_
          refine ⟨_, rfl, ?_⟩
          refine m_T_un 60 (fun y _ => Nat.beq y 86 || Nat.beq y 87) ?_
          refine s_isRow1 hr.1 (by omega) ⟨fun _ => ?_, fun q => absurd q k_no1⟩
          refine ⟨i8, fun _ => ⟨i8, ?_⟩, fun q => absurd g0 q⟩
          refine s_inA1 0 ((n : Int) - 1) k_L0 z2 hb.1 hb.2 ⟨fun _ => ?_, fun q => absurd q k_no1⟩
          refine ⟨i8, fun _ => ⟨i8, fun _ => ?_, fun q => absurd q (g1 1 (by decide))⟩, fun q => absurd q (g1 0 (by decide))⟩
          refine ⟨xv, xv, ?_⟩
          rw [xc]
          exact ⟨z_v (by simp [m_up]), z_set hs1 hr8 (by omega)⟩
      · refine s_outA1 0 ((n : Int) - 1) k_0 z1 (by omega) ?_
        refine ⟨fun q => absurd q k_no1, fun _ => ?_⟩
        refine ⟨_, rfl, ?_⟩
        refine m_T_un 60 (fun y _ => Nat.beq y 86 || Nat.beq y 87) ?_
        refine s_isRow1 hr.1 (by omega) ⟨fun _ => ?_, fun q => absurd q k_no1⟩
        refine ⟨i8, fun _ => ⟨i8, ?_⟩, fun q => absurd g0 q⟩
        exact s_inA0 0 ((n : Int) - 1) k_L0 z2 (by omega) ⟨fun q => absurd rfl q, fun _ => ⟨rfl, z_find hs1⟩⟩
  · refine m_T_un 60 (fun y _ => Nat.beq y 1 || Nat.beq y 2 || Nat.beq y 48) ?_
    refine s_rowAt0 (k_not hr) ?_
    refine ⟨_, rfl, ?_⟩
    refine m_T_un 60 (fun y _ => Nat.beq y 86 || Nat.beq y 87) ?_
    exact s_isRow0 (k_not hr) ⟨fun q => absurd rfl q, fun _ => ⟨rfl, hs2⟩⟩
