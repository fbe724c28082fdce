/-! pair copy -/
theorem k_lsum (b e : Int32) : (b.toInt64 + e.toInt64).toInt = b.toInt + e.toInt := by
  have b1 := Int32.le_toInt b
  have b2 := Int32.toInt_lt b
  have e1 := Int32.le_toInt e
  have e2 := Int32.toInt_lt e
  rw [Int64.toInt_add, Int32.toInt_toInt64, Int32.toInt_toInt64]
  apply Int.bmod_eq_of_le <;> omega
theorem k_gt {x y : Int64} : (0 : Int32) < lg_cmp x y ↔ y.toInt < x.toInt := by
  rw [lg_cmp_gt, Int64.lt_iff_toInt_lt]
theorem k_le0 {x y : Int64} : lg_cmp x y ≤ (0 : Int32) ↔ x.toInt ≤ y.toInt := by
  rw [← Int32.not_lt, k_gt]
  omega
theorem z_copy {D : Nat} {σ : m_M} {r s i j n : Nat} (h : q_sim D σ) (hr : r < 8) (hs : s < 8) (hi : i + n ≤ 40) (hj : j + n ≤ 40) : q_sim D (m_cp (m_up (m_up (m_up (m_mv σ (20 + s) (20 + r) i j n) 0 0 8 (Int32.ofInt 0)) 6 0 0 (Int32.ofInt 0)) 6 0 1 (Int32.ofInt 0)) 2 2 (40 * r + i) (40 * s + j) n) := by
  refine q_sim_rows (σ := σ) (fun c v h1 h2 h3 h4 h5 h6 h7 => ?_) rfl rfl rfl rfl rfl rfl (fun q hq => ?_) h
  · rw [m_cp_other (by omega), m_up_other (by omega), m_up_other (by omega), m_up_other (by omega), m_mv_other (by omega)]
  · refine q_row_pw (σ := σ) (fun t ht => ?_) ?_ ?_ (fun t ht => ?_) (h.1 q hq)
    · rw [m_cp_other (by omega), m_up_other (by omega), m_up_other (by omega), m_up_other (by omega), m_mv_other (by omega)]
    · rw [m_cp_other (by omega), m_up_other (by omega), m_up_other (by omega), m_up_other (by omega), m_mv_other (by omega)]
    · rw [m_cp_other (by omega), m_up_other (by omega), m_up_other (by omega), m_up_other (by omega), m_mv_other (by omega)]
    · obtain ⟨_, -, -, -, -, f⟩ := h.1 q hq
      obtain ⟨_, -, -, -, -, g⟩ := h.1 r hr
      show (if 12 = 12 ∧ 20 + q = 20 + s ∧ j ≤ t ∧ t < j + n then σ.1 12 (20 + r) (i + (t - j)) else σ.1 12 (20 + q) t) = (if 13 = 13 ∧ 2 = 2 ∧ 40 * s + j ≤ 40 * q + t ∧ 40 * q + t < 40 * s + j + n then σ.1 13 2 (40 * r + i + (40 * q + t - (40 * s + j))) else σ.1 13 2 (40 * q + t))
      by_cases e : q = s ∧ j ≤ t ∧ t < j + n
      · rw [if_pos (by omega), if_pos (by omega), g _ (by omega)]
        exact congrArg (σ.1 13 2) (by omega)
      · rw [if_neg (by omega), if_neg (by omega)]
        exact f t ht
theorem p_copy {E : m_E} {D : Nat} {σ : m_M} (hD : D < 512) (hs : q_sim D σ) (a : Int32) (b : Int32) (c : Int32) (d : Int32) (e : Int32) : q_pair E D 6 90 [vI a, vI b, vI c, vI d, vI e] σ := by
  have hs1 : q_sim (D + 1) σ := q_sim_more (Nat.le_succ D) hs
  have hs2 : q_sim (D + 1) (m_up σ 6 0 0 (Int32.ofInt 0)) := z_thr hs1
  refine m_T_un 60 (fun y _ => Nat.beq y 1 || Nat.beq y 53 || Nat.beq y 49) ?_
  by_cases hr : 0 ≤ a.toInt ∧ a.toInt < (8 : Nat)
  · by_cases hc : 0 ≤ c.toInt ∧ c.toInt < (8 : Nat)
    · obtain ⟨r, hr8, rfl⟩ := k_of hr.1 hr.2
      obtain ⟨s, hs8, rfl⟩ := k_of hc.1 hc.2
      have x0 : (nI r).toNatClampNeg = r := k_cl (by omega)
      have y0 : (nI s).toNatClampNeg = s := k_cl (by omega)
      have i8 : vp_in (nI r) 8 := k_in hr8 (by decide)
      have j8 : vp_in (nI s) 8 := k_in hs8 (by decide)
      refine s_rowAt1 r hr8 rfl ?_
      refine s_rowAt1 s hs8 rfl ?_
      obtain ⟨n, n40, e1, e2, e3, e4⟩ := hs1.1 r hr8
      obtain ⟨n', n40', e1', e2', e3', e4'⟩ := hs1.1 s hs8
      have mo : ∀ (τ : m_M) (b d e : Int32) (Q : m_F → Prop), (m_T E 65535 19 90 (22, [some (vR 6 0), some (vI (nI r)), some (vI b), some (vI (nI s)), some (vI d), some (vI e), none, none, none], [], m_up τ 6 0 0 (Int32.ofInt 0)) Q) → m_T E 65535 19 90 (0, m_entry 90 [vR 6 0, vI (nI r), vI b, vI (nI s), vI d, vI e], [], τ) Q := fun τ b d e Q h => by
        refine m_T_un 60 (fun y pc => Nat.beq y 86 || (Nat.beq y 90 && Nat.beq pc 22)) ?_
        refine s_isRow1 hr.1 (by omega) ⟨fun q => absurd q k_no1, fun _ => ?_⟩
        exact s_isRow1 hc.1 (by omega) ⟨fun _ => h, fun q => absurd q k_no1⟩
      have lt1 : ∀ z : Int32, z = -1 → z < 0 := fun z h => by rw [h]; decide
      have ge1 : ∀ (z : Int32) (m : Nat), z = nI m → m ≤ 2 → 0 ≤ z := fun z m h hm => by rw [h]; exact nI_pos' (by omega)
      rcases e3 with ⟨t0, t1⟩ | ⟨t0, d1, d2, t1, t2⟩
      · refine ⟨fun _ => ⟨_, rfl, mo _ _ _ _ _ ?_⟩, fun q => absurd t0 q⟩
        refine m_T_un 60 m_no ?_
        refine ⟨i8, fun _ => ⟨rfl, z_find hs1⟩, fun q => ?_⟩
        have q : ¬ σ.1 13 0 (nI r).toNatClampNeg < 0 := q
        rw [x0] at q
        exact absurd (lt1 _ t1) q
      have u1 : ¬ σ.1 13 0 (nI r).toNatClampNeg < 0 := by rw [x0, t2]; exact nI_pos (by omega)
      rcases e3' with ⟨t0', t1'⟩ | ⟨t0', d1', d2', t1', t2'⟩
      · have nz : ¬ σ.1 3 r 1 = 0 := fun q => by rw [t0] at q; exact absurd q (by decide)
        refine ⟨fun q => absurd q nz, fun _ => ⟨fun q => absurd t0' q, fun _ => ⟨_, rfl, mo _ _ _ _ _ ?_⟩⟩⟩
        refine m_T_un 60 m_no ?_
        refine ⟨i8, fun q => absurd q u1, fun _ => ⟨j8, fun q => ?_, fun _ => ⟨rfl, z_find hs1⟩⟩⟩
        have q : 0 ≤ σ.1 13 0 (nI s).toNatClampNeg := q
        rw [y0, t1'] at q
        exact absurd q (by decide)
      have nz : ¬ σ.1 3 r 1 = 0 := fun q => by rw [t0] at q; exact absurd q (by decide)
      have nz' : ¬ σ.1 3 s 1 = 0 := fun q => by rw [t0'] at q; exact absurd q (by decide)
      have u2 : 0 ≤ σ.1 13 0 (nI s).toNatClampNeg := by rw [y0, t2']; exact nI_pos' (by omega)
      refine ⟨fun q => absurd q nz, fun _ => ⟨fun _ => ?_, fun q => absurd q nz'⟩⟩
      by_cases hd : d1 = d1'
      · have v1 : σ.1 13 0 (nI r).toNatClampNeg = σ.1 13 0 (nI s).toNatClampNeg := by rw [x0, y0, t2, t2', hd]
        refine ⟨fun _ => ?_, fun q => absurd (t1.trans ((congrArg nI hd).trans t1'.symm)) q⟩
        have w1 : (σ.1 13 1 (nI r).toNatClampNeg).toInt64.toInt = n := by rw [x0, e2, Int32.toInt_toInt64, k_nI (by omega)]
        have w2 : (σ.1 13 1 (nI s).toNatClampNeg).toInt64.toInt = n' := by rw [y0, e2', Int32.toInt_toInt64, k_nI (by omega)]
        by_cases g1 : 0 ≤ b.toInt ∧ 0 ≤ e.toInt ∧ b.toInt + e.toInt ≤ n
        · refine s_rch1 e1 n40 g1.1 g1.2.1 g1.2.2 ⟨fun q => absurd q k_no1, fun _ => ?_⟩
          by_cases g2 : 0 ≤ d.toInt ∧ 0 ≤ e.toInt ∧ d.toInt + e.toInt ≤ n'
          · refine s_rch1 e1' n40' g2.1 g2.2.1 g2.2.2 ⟨fun _ => ?_, fun q => absurd q k_no1⟩
            obtain ⟨i, hi, rfl⟩ := k_of (x := b) (n := 41) (by omega) (by omega)
            obtain ⟨j, hj, rfl⟩ := k_of (x := d) (n := 41) (by omega) (by omega)
            obtain ⟨m, hm, rfl⟩ := k_of (x := e) (n := 41) (by omega) (by omega)
            rw [k_nI (by omega), k_nI (by omega)] at g1 g2
            refine s_take2 rfl rfl rfl (by rw [m_lenR hr8]; omega) (by rw [m_lenR hs8]; omega) ?_
            refine ⟨_, rfl, mo _ _ _ _ _ ?_⟩
            refine m_T_un 90 (fun y pc => Nat.beq y 90 && Nat.beq pc 143) ?_
            refine ⟨i8, fun q => absurd q u1, fun _ => ⟨j8, fun _ => ⟨i8, j8, fun _ => ?_, fun q => absurd v1 q⟩, fun q => absurd u2 q⟩⟩
            refine ⟨fun q => absurd q (nI_pos (by omega)), fun _ => ⟨fun q => absurd q (nI_pos (by omega)), fun _ => ⟨fun q => absurd q (nI_pos (by omega)), fun _ => ⟨i8, fun q => ?_, fun _ => ⟨j8, fun _ => ?_, fun q => ?_⟩⟩⟩⟩⟩
            · have q : (0 : Int32) < lg_cmp ((nI i).toInt64 + (nI m).toInt64) (σ.1 13 1 (nI r).toNatClampNeg).toInt64 := q
              rw [k_gt, k_lsum, w1, k_nI (by omega), k_nI (by omega)] at q
              omega
            · refine ⟨fun q => ?_, fun q => ?_⟩
              · have q : nI i < nI j := q
                rw [nI_ltI (by omega) (by omega)] at q
                refine s_mcpD hr8 hs8 (by omega) (by omega) q ⟨rfl, z_copy hs1 hr8 hs8 (by omega) (by omega)⟩
              · have q : ¬ nI i < nI j := q
                rw [nI_ltI (by omega) (by omega)] at q
                refine s_mcpU hr8 hs8 (by omega) (by omega) (by omega) ⟨rfl, z_copy hs1 hr8 hs8 (by omega) (by omega)⟩
            · have q : ¬ lg_cmp ((nI j).toInt64 + (nI m).toInt64) (σ.1 13 1 (nI s).toNatClampNeg).toInt64 ≤ (0 : Int32) := q
              rw [k_le0, k_lsum, w2, k_nI (by omega), k_nI (by omega)] at q
              omega
          · refine s_rch0 e1' n40' g2 ⟨fun q => absurd rfl q, fun _ => ⟨_, rfl, mo _ _ _ _ _ ?_⟩⟩
            refine m_T_un 90 (fun y pc => Nat.beq y 90 && Nat.beq pc 143) ?_
            refine ⟨i8, fun q => absurd q u1, fun _ => ⟨j8, fun _ => ⟨i8, j8, fun _ => ?_, fun q => absurd v1 q⟩, fun q => absurd u2 q⟩⟩
            refine ⟨fun _ => ⟨rfl, z_find hs1⟩, fun q1 => ⟨fun _ => ⟨rfl, z_find hs1⟩, fun q2 => ⟨fun _ => ⟨rfl, z_find hs1⟩, fun q3 => ⟨i8, fun _ => ⟨rfl, z_find hs1⟩, fun q4 => ⟨j8, fun q5 => ?_, fun _ => ⟨rfl, z_find hs1⟩⟩⟩⟩⟩⟩
            exfalso
            have q1 : ¬ b < 0 := q1
            have q2 : ¬ d < 0 := q2
            have q3 : ¬ e < 0 := q3
            have q4 : ¬ (0 : Int32) < lg_cmp (b.toInt64 + e.toInt64) (σ.1 13 1 (nI r).toNatClampNeg).toInt64 := q4
            have q5 : lg_cmp (d.toInt64 + e.toInt64) (σ.1 13 1 (nI s).toNatClampNeg).toInt64 ≤ (0 : Int32) := q5
            rw [k_lt, k_z32] at q1 q2 q3
            rw [k_gt, k_lsum, w1] at q4
            rw [k_le0, k_lsum, w2] at q5
            omega
        · refine s_rch0 e1 n40 g1 ⟨fun _ => ⟨_, rfl, mo _ _ _ _ _ ?_⟩, fun q => absurd rfl q⟩
          refine m_T_un 90 (fun y pc => Nat.beq y 90 && Nat.beq pc 143) ?_
          refine ⟨i8, fun q => absurd q u1, fun _ => ⟨j8, fun _ => ⟨i8, j8, fun _ => ?_, fun q => absurd v1 q⟩, fun q => absurd u2 q⟩⟩
          refine ⟨fun _ => ⟨rfl, z_find hs1⟩, fun q1 => ⟨fun _ => ⟨rfl, z_find hs1⟩, fun q2 => ⟨fun _ => ⟨rfl, z_find hs1⟩, fun q3 => ⟨i8, fun _ => ⟨rfl, z_find hs1⟩, fun q4 => ⟨j8, fun q5 => ?_, fun _ => ⟨rfl, z_find hs1⟩⟩⟩⟩⟩⟩
          exfalso
          have q1 : ¬ b < 0 := q1
          have q2 : ¬ d < 0 := q2
          have q3 : ¬ e < 0 := q3
          have q4 : ¬ (0 : Int32) < lg_cmp (b.toInt64 + e.toInt64) (σ.1 13 1 (nI r).toNatClampNeg).toInt64 := q4
          have q5 : lg_cmp (d.toInt64 + e.toInt64) (σ.1 13 1 (nI s).toNatClampNeg).toInt64 ≤ (0 : Int32) := q5
          rw [k_lt, k_z32] at q1 q2 q3
          rw [k_gt, k_lsum, w1] at q4
          rw [k_le0, k_lsum, w2] at q5
          omega
      · refine ⟨fun q => ?_, fun _ => ⟨_, rfl, mo _ _ _ _ _ ?_⟩⟩
        · have q : σ.1 3 r 2 = σ.1 3 s 2 := q
          rw [t1, t1'] at q
          exact absurd ((nI_eq (by omega) (by omega)).mp q) hd
        refine m_T_un 90 (fun y pc => Nat.beq y 90 && Nat.beq pc 143) ?_
        refine ⟨i8, fun q => absurd q u1, fun _ => ⟨j8, fun _ => ⟨i8, j8, fun q => ?_, fun _ => ⟨rfl, z_find hs1⟩⟩, fun q => absurd u2 q⟩⟩
        have q : σ.1 13 0 (nI r).toNatClampNeg = σ.1 13 0 (nI s).toNatClampNeg := q
        rw [x0, y0, t2, t2'] at q
        exact absurd ((nI_eq (by omega) (by omega)).mp q) hd
    · obtain ⟨r, hr8, rfl⟩ := k_of hr.1 hr.2
      refine s_rowAt1 r hr8 rfl ?_
      refine s_rowAt0 (k_not hc) ⟨_, rfl, ?_⟩
      refine m_T_un 60 (fun y pc => Nat.beq y 86 || (Nat.beq y 90 && Nat.beq pc 22)) ?_
      refine s_isRow1 hr.1 (by omega) ⟨fun q => absurd q k_no1, fun _ => ?_⟩
      exact s_isRow0 (k_not hc) ⟨fun q => absurd rfl q, fun _ => ⟨rfl, hs2⟩⟩
  · have mo : m_T E 65535 19 90 (0, m_entry 90 [vR 6 0, vI a, vI b, vI c, vI d, vI e], [], σ) (fun g => g.2.2.1 = [vI (m_nth m_kI 1 0)] ∧ q_sim (D + 1) g.2.2.2) := by
      refine m_T_un 60 (fun y pc => Nat.beq y 86 || (Nat.beq y 90 && Nat.beq pc 22)) ?_
      exact s_isRow0 (k_not hr) ⟨fun _ => ⟨rfl, hs2⟩, fun q => absurd rfl q⟩
    refine s_rowAt0 (k_not hr) ?_
    by_cases hc : 0 ≤ c.toInt ∧ c.toInt < (8 : Nat)
    · obtain ⟨s, hs8, rfl⟩ := k_of hc.1 hc.2
      exact s_rowAt1 s hs8 rfl ⟨_, rfl, mo⟩
    · exact s_rowAt0 (k_not hc) ⟨_, rfl, mo⟩
