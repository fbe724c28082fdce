/-! pairs: status, fault, trace -/
def q_pair (E : m_E) (D yc ym : Nat) (as : List m_V) (σ : m_M) : Prop := m_T E 65535 19 yc (0, m_entry yc (vR 0 0 :: as), [], σ) (fun f => ∃ v, f.2.2.1 = [vI v] ∧ m_T E 65535 19 ym (0, m_entry ym (vR 6 0 :: as), [], f.2.2.2) (fun g => g.2.2.1 = [vI v] ∧ q_sim (D + 1) g.2.2.2))
theorem z_v {x y : Int32} (h : x = y) : [vI x] = [vI y] := by rw [h]
theorem p_status {E : m_E} {D : Nat} {σ : m_M} (hD : D < 512) (hs : q_sim D σ) : q_pair E D 42 157 [] σ := by
  refine m_T_un 60 m_no ?_
  refine ⟨σ.1 0 0 8, rfl, ?_⟩
  refine m_T_un 60 m_no ?_
  exact ⟨z_v hs.2.1.symm, z_thr (q_sim_more (Nat.le_succ D) hs)⟩
theorem p_fault {E : m_E} {D : Nat} {σ : m_M} (hD : D < 512) (hs : q_sim D σ) : q_pair E D 10 110 [] σ := by
  refine m_T_un 60 m_no ?_
  refine ⟨σ.1 0 0 7, rfl, ?_⟩
  refine m_T_un 60 m_no ?_
  exact ⟨z_v hs.2.2.1.symm, z_thr (q_sim_more (Nat.le_succ D) hs)⟩
theorem p_trace {E : m_E} {D : Nat} {σ : m_M} (hD : D < 512) (hs : q_sim D σ) (a : Int32) : q_pair E D 39 155 [vI a] σ := by
  have hs2 : q_sim (D + 1) (m_up σ 6 0 0 (Int32.ofInt 0)) := z_thr (q_sim_more (Nat.le_succ D) hs)
  obtain ⟨n, hn, h1, h2, h3⟩ := hs.2.2.2.2.2.2.2
  have e1 : (σ.1 1 0 1 - Int32.ofInt 1).toInt = (n : Int) - 1 := by
    rw [h1, show Int32.ofInt 1 = nI 1 from rfl, pk_sub_toInt (by omega) (by omega)]
    rfl
  have e2 : (σ.1 6 0 22 - Int32.ofInt 1).toInt = (n : Int) - 1 := by
    rw [h2, show Int32.ofInt 1 = nI 1 from rfl, pk_sub_toInt (by omega) (by omega)]
    rfl
  have e0 : (Int32.ofInt 0).toInt = 0 := by decide
  have f0 : (Int64.ofNat 0).toInt = 0 := by decide
  by_cases hr : 0 ≤ a.toInt ∧ a.toInt < n
  · obtain ⟨j, hj, rfl⟩ := k_of hr.1 hr.2
    refine m_T_un 60 (fun y _ => Nat.beq y 2 || Nat.beq y 50) ?_
    refine s_out0 (by rw [e0]; exact hr.1) (show (nI j).toInt ≤ (σ.1 1 0 1 - Int32.ofInt 1).toInt by rw [e1]; omega) ?_
    refine ⟨fun _ => ?_, fun c => absurd rfl c⟩
    refine s_at j rfl (show j < 16 by omega) ?_
    refine ⟨σ.1 12 29 j, rfl, ?_⟩
    refine m_T_un 60 (fun y _ => Nat.beq y 87) ?_
    refine s_in1 (show (Int64.ofNat 0).toInt ≤ (nI j).toInt64.toInt by rw [Int32.toInt_toInt64, f0]; exact hr.1) (show (nI j).toInt64.toInt ≤ (σ.1 6 0 22 - Int32.ofInt 1).toInt64.toInt by rw [Int32.toInt_toInt64, Int32.toInt_toInt64, e2]; omega) ?_
    refine ⟨fun c => absurd c (by decide), fun _ => ⟨k_in (n := 16) (show j < 16 by omega) (by decide), ?_⟩⟩
    refine ⟨z_v ?_, hs2⟩
    show σ.1 13 7 (nI j).toNatClampNeg = _
    rw [k_cl (by omega)]
    exact (h3 j hj).symm
  · refine m_T_un 60 (fun y _ => Nat.beq y 2 || Nat.beq y 50) ?_
    refine s_out1 (show a.toInt < (Int32.ofInt 0).toInt ∨ (σ.1 1 0 1 - Int32.ofInt 1).toInt < a.toInt by rw [e0, e1]; omega) ?_
    refine ⟨fun c => absurd c (by decide), fun _ => ?_⟩
    refine ⟨-1000000, rfl, ?_⟩
    refine m_T_un 60 (fun y _ => Nat.beq y 87) ?_
    refine s_in0 (show a.toInt64.toInt < (Int64.ofNat 0).toInt ∨ (σ.1 6 0 22 - Int32.ofInt 1).toInt64.toInt < a.toInt64.toInt by rw [Int32.toInt_toInt64, Int32.toInt_toInt64, e2, f0]; omega) ?_
    exact ⟨fun _ => ⟨rfl, hs2⟩, fun c => absurd rfl c⟩
