/-! pairs: gates, as -/
def g_100 : Int32 := (Int8.ofInt 100).toInt32
def g_it (k : Int32) : Nat → Int32 → Int32 → Int32
  | 0, a, _ => a
  | n + 1, a, b => g_it k n (b * (g_100 - k) / g_100) (a * (g_100 - k) / g_100)
theorem g_ne : ¬ (Int8.ofInt 100).toInt32 = 0 := by decide
theorem k_no1 : ¬ Int32.ofInt 1 = 0 := by decide
section Gates
variable {E : m_E} {r : Nat} {σ : m_M} {Q : m_F → Prop} {x y k : Int32}
theorem s_cgl {n : Nat} (hn : n ≤ 1000) : ∀ (j d : Nat) (a b : Int32), d + j = n → Q (0, [], [vI (g_it k j a b)], σ) → m_T E 65535 r 31 (56, [some (vR 0 0), some (vI x), some (vI y), some (vI k), some (vI (nI n)), some (vI a), some (vI b), some (vI (nI d)), none], [], σ) Q := by
  intro j
  induction j with
  | zero =>
    intro d a b hd hq
    refine m_T_un 60 m_no ?_
    refine ⟨fun _ => hq, fun c => absurd (nI_le (show n ≤ d by omega) (by omega)) c⟩
  | succ j ih =>
    intro d a b hd hq
    refine m_T_un 60 (fun y pc => Nat.beq y 31 && Nat.beq pc 56) ?_
    refine ⟨fun c => absurd c (nI_ge (show d < n by omega) (by omega)), fun _ => ⟨g_ne, ⟨g_ne, ?_⟩⟩⟩
    refine m_T_mask [true, true, true, true, true, true, true, true, false] ?_
    have h := ih (d + 1) (b * (g_100 - k) / g_100) (a * (g_100 - k) / g_100) (by omega) hq
    rw [nI_succ] at h
    exact h
theorem s_mgl {n : Nat} (hn : n ≤ 1000) : ∀ (j d : Nat) (a b : Int32), d + j = n → Q (0, [], [vI (g_it k j a b)], σ) → m_T E 65535 r 143 (66, [some (vR 6 0), some (vI x), some (vI y), some (vI k), some (vI (nI n)), some (vI a), some (vI b), some (vI (nI d)), none], [], σ) Q := by
  intro j
  induction j with
  | zero =>
    intro d a b hd hq
    refine m_T_un 60 m_no ?_
    refine ⟨fun _ => hq, fun c => absurd (nI_le (show n ≤ d by omega) (by omega)) c⟩
  | succ j ih =>
    intro d a b hd hq
    refine m_T_un 60 (fun y pc => Nat.beq y 143 && Nat.beq pc 66) ?_
    refine ⟨fun c => absurd c (nI_ge (show d < n by omega) (by omega)), fun _ => ⟨g_ne, ⟨g_ne, ?_⟩⟩⟩
    refine m_T_mask [true, true, true, true, true, true, true, true, false] ?_
    have h := ih (d + 1) (b * (g_100 - k) / g_100) (a * (g_100 - k) / g_100) (by omega) hq
    rw [nI_succ] at h
    exact h
end Gates
theorem k_999 : ((Int16.ofInt 999).toInt32).toInt = 999 := by decide
theorem k_1000 : ((Int16.ofInt 1000).toInt32).toInt = 1000 := by decide
theorem k_100 : ((Int8.ofInt 100).toInt32).toInt = 100 := by decide
theorem k_l999 : (m_nth m_kL 17 0).toInt = 999 := by decide
theorem k_l1000 : (m_nth m_kL 19 0).toInt = 1000 := by decide
theorem k_l100 : (m_nth m_kL 18 0).toInt = 100 := by decide
def g_ok (x y k n : Int32) : Prop := (0 ≤ x.toInt ∧ x.toInt ≤ 999) ∧ (0 ≤ y.toInt ∧ y.toInt ≤ 999) ∧ (0 ≤ k.toInt ∧ k.toInt ≤ 100) ∧ (0 ≤ n.toInt ∧ n.toInt ≤ 1000)
theorem p_gates {E : m_E} {D : Nat} {σ : m_M} (hD : D < 512) (hs : q_sim D σ) (a b c d : Int32) : q_pair E D 31 143 [vI a, vI b, vI c, vI d] σ := by
  have hs2 : q_sim (D + 1) (m_up σ 6 0 0 (Int32.ofInt 0)) := z_thr (q_sim_more (Nat.le_succ D) hs)
  by_cases ha : 0 ≤ a.toInt ∧ a.toInt ≤ 999
  · by_cases hb : 0 ≤ b.toInt ∧ b.toInt ≤ 999
    · by_cases hc : 0 ≤ c.toInt ∧ c.toInt ≤ 100
      · by_cases hd : 0 ≤ d.toInt ∧ d.toInt ≤ 1000
        · obtain ⟨n, hn, rfl⟩ := k_of hd.1 (n := 1001) (by omega)
          refine m_T_un 90 (fun y pc => Nat.beq y 2 || (Nat.beq y 31 && Nat.beq pc 56)) ?_
          refine s_out0 (by rw [k_0]; exact ha.1) (by rw [k_999]; exact ha.2) ⟨fun q => absurd rfl q, fun _ => ?_⟩
          refine s_out0 (by rw [k_0]; exact hb.1) (by rw [k_999]; exact hb.2) ⟨fun q => absurd rfl q, fun _ => ?_⟩
          refine s_out0 (by rw [k_0]; exact hc.1) (by rw [k_100]; exact hc.2) ⟨fun q => absurd rfl q, fun _ => ?_⟩
          refine s_out0 (by rw [k_0]; exact hd.1) (by rw [k_1000]; exact hd.2) ⟨fun _ => ?_, fun q => absurd rfl q⟩
          refine s_cgl (n := n) (by omega) n 0 a b (by omega) ?_
          refine ⟨g_it c n a b, rfl, ?_⟩
          refine m_T_un 90 (fun y pc => Nat.beq y 87 || (Nat.beq y 143 && Nat.beq pc 66)) ?_
          refine s_inA1 0 999 (by decide) (by decide) ha.1 ha.2 ⟨fun q => absurd q k_no1, fun _ => ?_⟩
          refine s_inA1 0 999 (by decide) (by decide) hb.1 hb.2 ⟨fun q => absurd q k_no1, fun _ => ?_⟩
          refine s_inA1 0 100 (by decide) (by decide) hc.1 hc.2 ⟨fun q => absurd q k_no1, fun _ => ?_⟩
          refine s_inA1 0 1000 (by decide) (by decide) hd.1 hd.2 ⟨fun _ => ?_, fun q => absurd q k_no1⟩
          refine s_mgl (n := n) (by omega) n 0 a b (by omega) ?_
          exact ⟨rfl, hs2⟩
        · refine m_T_un 90 (fun y pc => Nat.beq y 2 || (Nat.beq y 31 && Nat.beq pc 56)) ?_
          refine s_out0 (by rw [k_0]; exact ha.1) (by rw [k_999]; exact ha.2) ⟨fun q => absurd rfl q, fun _ => ?_⟩
          refine s_out0 (by rw [k_0]; exact hb.1) (by rw [k_999]; exact hb.2) ⟨fun q => absurd rfl q, fun _ => ?_⟩
          refine s_out0 (by rw [k_0]; exact hc.1) (by rw [k_100]; exact hc.2) ⟨fun q => absurd rfl q, fun _ => ?_⟩
          refine s_out1 (by rw [k_0, k_1000]; omega) ⟨fun q => absurd q k_no1, fun _ => ?_⟩
          refine ⟨-1000001, rfl, ?_⟩
          refine m_T_un 90 (fun y pc => Nat.beq y 87 || (Nat.beq y 143 && Nat.beq pc 66)) ?_
          refine s_inA1 0 999 (by decide) (by decide) ha.1 ha.2 ⟨fun q => absurd q k_no1, fun _ => ?_⟩
          refine s_inA1 0 999 (by decide) (by decide) hb.1 hb.2 ⟨fun q => absurd q k_no1, fun _ => ?_⟩
          refine s_inA1 0 100 (by decide) (by decide) hc.1 hc.2 ⟨fun q => absurd q k_no1, fun _ => ?_⟩
          refine s_inA0 0 1000 (by decide) (by decide) (by omega) ⟨fun q => absurd rfl q, fun _ => ⟨rfl, hs2⟩⟩
      · refine m_T_un 90 (fun y pc => Nat.beq y 2 || (Nat.beq y 31 && Nat.beq pc 56)) ?_
        refine s_out0 (by rw [k_0]; exact ha.1) (by rw [k_999]; exact ha.2) ⟨fun q => absurd rfl q, fun _ => ?_⟩
        refine s_out0 (by rw [k_0]; exact hb.1) (by rw [k_999]; exact hb.2) ⟨fun q => absurd rfl q, fun _ => ?_⟩
        refine s_out1 (by rw [k_0, k_100]; omega) ⟨fun _ => ?_, fun q => absurd q k_no1⟩
        refine ⟨-1000001, rfl, ?_⟩
        refine m_T_un 90 (fun y pc => Nat.beq y 87 || (Nat.beq y 143 && Nat.beq pc 66)) ?_
        refine s_inA1 0 999 (by decide) (by decide) ha.1 ha.2 ⟨fun q => absurd q k_no1, fun _ => ?_⟩
        refine s_inA1 0 999 (by decide) (by decide) hb.1 hb.2 ⟨fun q => absurd q k_no1, fun _ => ?_⟩
        refine s_inA0 0 100 (by decide) (by decide) (by omega) ⟨fun _ => ⟨rfl, hs2⟩, fun q => absurd rfl q⟩
    · refine m_T_un 90 (fun y pc => Nat.beq y 2 || (Nat.beq y 31 && Nat.beq pc 56)) ?_
      refine s_out0 (by rw [k_0]; exact ha.1) (by rw [k_999]; exact ha.2) ⟨fun q => absurd rfl q, fun _ => ?_⟩
      refine s_out1 (by rw [k_0, k_999]; omega) ⟨fun _ => ?_, fun q => absurd q k_no1⟩
      refine ⟨-1000001, rfl, ?_⟩
      refine m_T_un 90 (fun y pc => Nat.beq y 87 || (Nat.beq y 143 && Nat.beq pc 66)) ?_
      refine s_inA1 0 999 (by decide) (by decide) ha.1 ha.2 ⟨fun q => absurd q k_no1, fun _ => ?_⟩
      refine s_inA0 0 999 (by decide) (by decide) (by omega) ⟨fun _ => ⟨rfl, hs2⟩, fun q => absurd rfl q⟩
  · refine m_T_un 90 (fun y pc => Nat.beq y 2 || (Nat.beq y 31 && Nat.beq pc 56)) ?_
    refine s_out1 (by rw [k_0, k_999]; omega) ⟨fun _ => ?_, fun q => absurd q k_no1⟩
    refine ⟨-1000001, rfl, ?_⟩
    refine m_T_un 90 (fun y pc => Nat.beq y 87 || (Nat.beq y 143 && Nat.beq pc 66)) ?_
    refine s_inA0 0 999 (by decide) (by decide) (by omega) ⟨fun _ => ⟨rfl, hs2⟩, fun q => absurd rfl q⟩
