/-! small methods of both sides -/
theorem k_nI {n : Nat} (h : n < 2 ^ 31) : (nI n).toInt = (n : Int) := nI_toInt h
/-- a number in a range is a natural one -/
theorem k_of {x : Int32} {n : Nat} (h0 : 0 ≤ x.toInt) (h1 : x.toInt < (n : Int)) : ∃ j : Nat, j < n ∧ x = nI j := by
  refine ⟨x.toInt.toNat, by omega, ?_⟩
  apply Int32.toInt_inj.mp
  have hr := Int32.toInt_lt x
  rw [nI_toInt (by omega)]
  omega
theorem k_eq {x y : Int32} (h : x.toInt = y.toInt) : x = y := Int32.toInt_inj.mp h
theorem k_lt {x y : Int32} : x < y ↔ x.toInt < y.toInt := Int32.lt_iff_toInt_lt
theorem k_le {x y : Int32} : x ≤ y ↔ x.toInt ≤ y.toInt := Int32.le_iff_toInt_le
theorem s_out1 {E : m_E} {r : Nat} {σ : m_M} {Q : m_F → Prop} {x y z : Int32} (h : x.toInt < y.toInt ∨ z.toInt < x.toInt) (hq : Q (0, [], [vI (Int32.ofInt 1)], σ)) : m_T E 65535 r 2 (0, [some (vI x), some (vI y), some (vI z)], [], σ) Q := by
  refine m_T_un 20 m_no ?_
  refine ⟨fun c1 => ⟨Or.inr rfl, hq⟩, fun c1 => ⟨fun c2 => ?_, fun c2 => ⟨Or.inr rfl, hq⟩⟩⟩
  have c1 : ¬ x < y := c1
  have c2 : x ≤ z := c2
  rw [k_lt] at c1
  rw [k_le] at c2
  omega
theorem s_out0 {E : m_E} {r : Nat} {σ : m_M} {Q : m_F → Prop} {x y z : Int32} (h1 : y.toInt ≤ x.toInt) (h2 : x.toInt ≤ z.toInt) (hq : Q (0, [], [vI (Int32.ofInt 0)], σ)) : m_T E 65535 r 2 (0, [some (vI x), some (vI y), some (vI z)], [], σ) Q := by
  refine m_T_un 20 m_no ?_
  refine ⟨fun c1 => ?_, fun c1 => ⟨fun c2 => ⟨Or.inl rfl, hq⟩, fun c2 => ?_⟩⟩
  · have c1 : x < y := c1
    rw [k_lt] at c1
    omega
  · have c2 : ¬ x ≤ z := c2
    rw [k_le] at c2
    omega
theorem s_in0 {E : m_E} {r : Nat} {σ : m_M} {Q : m_F → Prop} {x y z : Int64} (h : x.toInt < y.toInt ∨ z.toInt < x.toInt) (hq : Q (0, [], [vI (Int32.ofInt 0)], σ)) : m_T E 65535 r 87 (0, [some (vL x), none, some (vL y), none, some (vL z), none], [], σ) Q := by
  refine m_T_un 20 m_no ?_
  refine ⟨fun c1 => ⟨Or.inl rfl, hq⟩, fun c1 => ⟨fun c2 => ⟨Or.inl rfl, hq⟩, fun c2 => ?_⟩⟩
  have c1 : ¬ lg_cmp x y < 0 := c1
  have c2 : ¬ 0 < lg_cmp x z := c2
  rw [lg_cmp_lt, Int64.lt_iff_toInt_lt] at c1
  rw [lg_cmp_gt, Int64.lt_iff_toInt_lt] at c2
  omega
theorem s_in1 {E : m_E} {r : Nat} {σ : m_M} {Q : m_F → Prop} {x y z : Int64} (h1 : y.toInt ≤ x.toInt) (h2 : x.toInt ≤ z.toInt) (hq : Q (0, [], [vI (Int32.ofInt 1)], σ)) : m_T E 65535 r 87 (0, [some (vL x), none, some (vL y), none, some (vL z), none], [], σ) Q := by
  refine m_T_un 20 m_no ?_
  refine ⟨fun c1 => ?_, fun c1 => ⟨fun c2 => ?_, fun c2 => ⟨Or.inr rfl, hq⟩⟩⟩
  · have c1 : lg_cmp x y < 0 := c1
    rw [lg_cmp_lt, Int64.lt_iff_toInt_lt] at c1
    omega
  · have c2 : 0 < lg_cmp x z := c2
    rw [lg_cmp_gt, Int64.lt_iff_toInt_lt] at c2
    omega
theorem s_inA1 {E : m_E} {r : Nat} {σ : m_M} {Q : m_F → Prop} {x : Int32} {y z : Int64} (lo hi : Int) (hy : y.toInt = lo) (hz : z.toInt = hi) (h1 : lo ≤ x.toInt) (h2 : x.toInt ≤ hi) (hq : Q (0, [], [vI (Int32.ofInt 1)], σ)) : m_T E 65535 r 87 (0, [some (vL x.toInt64), none, some (vL y), none, some (vL z), none], [], σ) Q :=
  s_in1 (by rw [Int32.toInt_toInt64, hy]; exact h1) (by rw [Int32.toInt_toInt64, hz]; exact h2) hq
theorem s_inA0 {E : m_E} {r : Nat} {σ : m_M} {Q : m_F → Prop} {x : Int32} {y z : Int64} (lo hi : Int) (hy : y.toInt = lo) (hz : z.toInt = hi) (h : x.toInt < lo ∨ hi < x.toInt) (hq : Q (0, [], [vI (Int32.ofInt 0)], σ)) : m_T E 65535 r 87 (0, [some (vL x.toInt64), none, some (vL y), none, some (vL z), none], [], σ) Q :=
  s_in0 (by rw [Int32.toInt_toInt64, hy, hz]; exact h) hq
theorem s_outA0 {E : m_E} {r : Nat} {σ : m_M} {Q : m_F → Prop} {x y z : Int32} (lo hi : Int) (hy : y.toInt = lo) (hz : z.toInt = hi) (h1 : lo ≤ x.toInt) (h2 : x.toInt ≤ hi) (hq : Q (0, [], [vI (Int32.ofInt 0)], σ)) : m_T E 65535 r 2 (0, [some (vI x), some (vI y), some (vI z)], [], σ) Q :=
  s_out0 (by rw [hy]; exact h1) (by rw [hz]; exact h2) hq
theorem s_outA1 {E : m_E} {r : Nat} {σ : m_M} {Q : m_F → Prop} {x y z : Int32} (lo hi : Int) (hy : y.toInt = lo) (hz : z.toInt = hi) (h : x.toInt < lo ∨ hi < x.toInt) (hq : Q (0, [], [vI (Int32.ofInt 1)], σ)) : m_T E 65535 r 2 (0, [some (vI x), some (vI y), some (vI z)], [], σ) Q :=
  s_out1 (by rw [hy, hz]; exact h) hq
theorem s_isRow1 {E : m_E} {r : Nat} {σ : m_M} {Q : m_F → Prop} {x : Int32} (h1 : 0 ≤ x.toInt) (h2 : x.toInt < 8) (hq : Q (0, [], [vI (Int32.ofInt 1)], σ)) : m_T E 65535 (r + 1) 86 (0, [some (vI x)], [], σ) Q := by
  refine m_T_un 20 (fun y _ => Nat.beq y 87) ?_
  refine s_in1 ?_ ?_ ⟨Or.inr rfl, hq⟩
  · rw [Int32.toInt_toInt64]; exact h1
  · rw [Int32.toInt_toInt64]
    have e : (m_nth m_kL 0 0).toInt = 7 := by decide
    rw [e]
    omega
theorem s_isRow0 {E : m_E} {r : Nat} {σ : m_M} {Q : m_F → Prop} {x : Int32} (h : x.toInt < 0 ∨ 8 ≤ x.toInt) (hq : Q (0, [], [vI (Int32.ofInt 0)], σ)) : m_T E 65535 (r + 1) 86 (0, [some (vI x)], [], σ) Q := by
  refine m_T_un 20 (fun y _ => Nat.beq y 87) ?_
  refine s_in0 ?_ ⟨Or.inl rfl, hq⟩
  rw [Int32.toInt_toInt64]
  have e : (m_nth m_kL 0 0).toInt = 7 := by decide
  have e0 : (Int64.ofNat 0).toInt = 0 := by decide
  rw [e]
  rcases h with h | h
  · exact Or.inl h
  · exact Or.inr (by omega)
theorem s_rowAt1 {E : m_E} {r : Nat} {σ : m_M} {Q : m_F → Prop} {x : Int32} (j : Nat) (hj : j < 8) (hx : x = nI j) (hq : Q (0, [], [vR 3 j], σ)) : m_T E 65535 r 1 (0, [some (vR 0 0), some (vI x)], [], σ) Q := by
  subst hx
  refine m_T_un 40 m_no ?_
  refine ⟨fun c1 => absurd c1 (nI_pos (by omega)), fun c1 => ⟨fun c2 => ⟨k_in (n := 8) hj (by decide), ?_⟩, fun c2 => absurd (nI_lt hj (by decide)) c2⟩⟩
  have h2 : Q (0, [], [vR 3 (nI j).toNatClampNeg], σ) := by rw [k_cl (by omega)]; exact hq
  exact h2
theorem s_rowAt0 {E : m_E} {r : Nat} {σ : m_M} {Q : m_F → Prop} {x : Int32} (h : x.toInt < 0 ∨ 8 ≤ x.toInt) (hq : Q (0, [], [vN], σ)) : m_T E 65535 r 1 (0, [some (vR 0 0), some (vI x)], [], σ) Q := by
  refine m_T_un 40 m_no ?_
  refine ⟨fun c1 => hq, fun c1 => ⟨fun c2 => ?_, fun c2 => hq⟩⟩
  exfalso
  have c1 : ¬ x < 0 := c1
  have c2 : x < nI 8 := c2
  rw [k_lt] at c1 c2
  rw [k_nI (by decide)] at c2
  have e0 : (0 : Int32).toInt = 0 := by decide
  rw [e0] at c1
  omega
/-- what the model notes of a throw is free -/
theorem z_thr {D : Nat} {σ : m_M} {x : Int32} (h : q_sim D σ) : q_sim D (m_up σ 6 0 0 x) :=
  q_sim_free (fun c v h1 _ => m_up_other (fun q => h1 q.1)) rfl rfl rfl rfl rfl h
