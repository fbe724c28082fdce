/-! day: the model's days of going -/
def d_2 (μ : m_M) (L : Nat → Nat) (m i : Nat) (x : Int32) : m_M := m_up (m_cp (m_up μ 13 3 8 (nI (m - 1))) 3 3 (9 + i + 1) (9 + i) (m - 1 - i)) 13 3 (72 + 4 * L i) x
theorem d_2j {μ : m_M} {L : Nat → Nat} {m i : Nat} {x : Int32} (hi : i < m) (m60 : m ≤ 60) (j : Nat) : (d_2 μ L m i x).1 13 3 j = if j = 8 then nI (m - 1) else if j = 72 + 4 * L i then x else if 9 + i ≤ j ∧ j < 9 + (m - 1) then μ.1 13 3 (j + 1) else μ.1 13 3 j := by
  unfold d_2
  by_cases g8 : j = 8
  · rw [if_pos g8, m_up_ne (by omega), m_cp_out (by omega), m_up_eq g8]
  · rw [if_neg g8]
    by_cases g9 : j = 72 + 4 * L i
    · rw [m_up_eq g9, if_pos g9]
    · rw [m_up_ne g9, if_neg g9]
      by_cases g : 9 + i ≤ j ∧ j < 9 + (m - 1)
      · rw [m_cp_in g.1 (by omega), if_pos g, m_up_ne (by omega)]
        exact congrArg (μ.1 13 3) (by omega)
      · rw [m_cp_out (by omega), if_neg g, m_up_ne g8]
theorem d_2o {μ : m_M} {L : Nat → Nat} {m i : Nat} {x : Int32} (c v : Nat) (h : ¬ (c = 13 ∧ v = 3)) : (d_2 μ L m i x).1 c v = μ.1 c v := by
  unfold d_2
  rw [m_up_other h, m_cp_other h, m_up_other h]
def d_M (μ : m_M) (D N m w a d : Nat) (L K R H : Nat → Nat) (g : Nat) (μ' : m_M) : Prop := q_wf (μ'.1 13 3) D N (m - g) w a d (q_LL (q_tu w K R) g m L) K R H ∧ (∀ q, q < N → μ'.1 13 3 (72 + 4 * q) = if q_GG (q_tu w K R) g m L q = true then nI d else μ.1 13 3 (72 + 4 * q)) ∧ (∀ j, j < 8 → μ'.1 13 3 j = μ.1 13 3 j) ∧ (∀ c v, ¬ (c = 13 ∧ v = 3) → μ'.1 c v = μ.1 c v)
theorem d_Ms {μ μ' : m_M} {D N m w a d g : Nat} {L K R H : Nat → Nat} (m1 : 1 ≤ m) (m60 : m ≤ 60) (h : d_M (d_2 μ L m (q_ft (q_tu w K R) L m) (nI d)) D N (m - 1) w a d (q_pp (q_ft (q_tu w K R) L m) L) K R H g μ') : d_M μ D N m w a d L K R H (g + 1) μ' := by
  obtain ⟨a1, a2, a3, a4⟩ := h
  have f1 := q_ft_lt (U := q_tu w K R) (L := L) m m1
  refine ⟨?_, fun q hq => ?_, fun j hj => (a3 j hj).trans ?_, fun c v h => (a4 c v h).trans (d_2o c v h)⟩
  · rw [show m - (g + 1) = m - 1 - g by omega]
    exact a1
  · have hz : (d_2 μ L m (q_ft (q_tu w K R) L m) (nI d)).1 13 3 (72 + 4 * q) = if q = L (q_ft (q_tu w K R) L m) then nI d else μ.1 13 3 (72 + 4 * q) := by
      rw [d_2j f1 m60, if_neg (by omega)]
      by_cases e : q = L (q_ft (q_tu w K R) L m)
      · rw [if_pos e, if_pos (by omega)]
      · rw [if_neg e, if_neg (by omega), if_neg (by omega)]
    rw [a2 q hq, hz]
    show (if q_GG (q_tu w K R) g (m - 1) (q_pp (q_ft (q_tu w K R) L m) L) q = true then nI d else if q = L (q_ft (q_tu w K R) L m) then nI d else μ.1 13 3 (72 + 4 * q)) = if (Nat.beq q (L (q_ft (q_tu w K R) L m)) || q_GG (q_tu w K R) g (m - 1) (q_pp (q_ft (q_tu w K R) L m) L) q) = true then nI d else μ.1 13 3 (72 + 4 * q)
    by_cases e : q = L (q_ft (q_tu w K R) L m)
    · rw [if_pos e, ite_self, show Nat.beq q (L (q_ft (q_tu w K R) L m)) = true from Nat.beq_eq.mpr e, Bool.true_or, if_pos rfl]
    · rw [if_neg e, show Nat.beq q (L (q_ft (q_tu w K R) L m)) = false from Bool.eq_false_iff.mpr (fun h => e (Nat.eq_of_beq_eq_true h)), Bool.false_or]
  · rw [d_2j f1 m60, if_neg (by omega), if_neg (by omega), if_neg (by omega)]
section MGo
variable {E : m_E} {r : Nat} {Q : m_F → Prop} {D N w a d : Nat} {K R H : Nat → Nat} {u1 u2 : Int32}
theorem s_mgo {G : Nat} (hG : G ≤ a) : ∀ (g k m : Nat) (L : Nat → Nat) (μ : m_M), k + g = G → g ≤ m → (G = a ∨ g = m) → q_wf (μ.1 13 3) D N m w a d L K R H → (∀ μ', d_M μ D N m w a d L K R H g μ' → m_T E 65535 (r + 4) 111 (128, [some (vR 6 0), some (vI u1), some (vI u2), some (vI (nI G)), none, none], [], μ') Q) → m_T E 65535 (r + 4) 111 (70, [some (vR 6 0), some (vI u1), some (vI u2), some (vI (nI k)), none, none], [], μ) Q := by
  have i3 : vp_in (Int32.ofInt 3) 309 := k_in (k := 3) (n := 309) (by decide) (by decide)
  have i4 : vp_in (Int32.ofInt 4) 309 := k_in (k := 4) (n := 309) (by decide) (by decide)
  have i8 : vp_in ((Int8.ofInt 8).toInt32) 309 := k_in (k := 8) (n := 309) (by decide) (by decide)
  intro g
  induction g with
  | zero =>
    intro k m L μ hk hg hGa hw hq
    obtain rfl : k = G := by omega
    have ha : μ.1 13 3 3 = nI a := hw.2.2.1
    have a20 := hw.2.2.2.1
    have hm : μ.1 13 3 8 = nI m := hw.2.2.2.2.2.2.2.2.1
    have done := hq μ ⟨hw, fun q _ => (if_neg Bool.false_ne_true).symm, fun _ _ => rfl, fun _ _ _ => rfl⟩
    refine m_T_un 60 (fun y pc => (Nat.beq y 111 && (Nat.beq pc 70 || Nat.beq pc 128)) || Nat.beq y 112 || Nat.beq y 118) ?_
    refine ⟨i3, fun _ => done, fun q => ⟨i8, fun _ => done, fun q2 => ?_⟩⟩
    have q : ¬ μ.1 13 3 3 ≤ nI k := q
    have q2 : ¬ μ.1 13 3 8 ≤ 0 := q2
    rw [ha] at q
    rw [hm] at q2
    rw [nI_leI (by omega) (by omega)] at q
    obtain rfl : m = 0 := by omega
    exact absurd (by decide) q2
  | succ g ih =>
    intro k m L μ hk hg hGa hw hq
    have ha : μ.1 13 3 3 = nI a := hw.2.2.1
    have a20 := hw.2.2.2.1
    have m60 : m ≤ 60 := Nat.le_trans hw.2.2.2.2.2.2.2.2.2.1 hw.2.2.2.2.2.2.2.1
    have N60 : N ≤ 60 := hw.2.2.2.2.2.2.2.1
    have hm : μ.1 13 3 8 = nI m := hw.2.2.2.2.2.2.2.2.1
    have hd : μ.1 13 3 4 = nI d := hw.2.2.2.2.1
    have hl := hw.2.2.2.2.2.2.2.2.2.2.1
    have hb := hw.2.2.2.2.2.2.2.2.2.2.2.1
    have f1 := q_ft_lt (U := q_tu w K R) (L := L) m (by omega)
    have hp := (hl _ f1).2
    have e := ih (k + 1) (m - 1) (q_pp (q_ft (q_tu w K R) L m) L) (d_2 μ L m (q_ft (q_tu w K R) L m) (nI d)) (by omega) (by omega) (by omega) (z_leaveW hw f1 (fun j _ => d_2j f1 m60 j)) (fun μ' h => hq μ' (d_Ms (by omega) m60 h))
    refine m_T_un 60 (fun y pc => (Nat.beq y 111 && (Nat.beq pc 70 || Nat.beq pc 128)) || Nat.beq y 112 || Nat.beq y 118) ?_
    refine ⟨i3, fun q => ?_, fun _ => ⟨i8, fun q => ?_, fun _ => ?_⟩⟩
    · have q : μ.1 13 3 3 ≤ nI k := q
      rw [ha] at q
      exact absurd q (nI_ge (by omega) (by omega))
    · have q : μ.1 13 3 8 ≤ 0 := q
      rw [hm] at q
      exact absurd q (nI_nle (by omega) (by omega))
    refine s_ftg hw (by omega) ?_
    have v3 : vp_in ((Int8.ofInt 69).toInt32 + Int32.ofInt 4 * nI (L (q_ft (q_tu w K R) L m)) + Int32.ofInt 3) 309 := by rw [show Int32.ofInt 3 = nI 3 from rfl, k_tn]; exact k_in (by omega) (by decide)
    have u3 : ((Int8.ofInt 69).toInt32 + Int32.ofInt 4 * nI (L (q_ft (q_tu w K R) L m)) + Int32.ofInt 3).toNatClampNeg = 72 + 4 * L (q_ft (q_tu w K R) L m) := by rw [show Int32.ofInt 3 = nI 3 from rfl, k_tn, k_cl (by omega)]; omega
    refine s_mlv (m := m) (i := q_ft (q_tu w K R) L m) hm m60 f1 (hl _ f1).1 (fun t ht q => ?_) ⟨i4, v3, ?_⟩
    · have h1 := (hl t (by omega)).2
      have := hb t _ (by omega) f1 ((nI_eq (by omega) (by omega)).mp ((hl t (by omega)).1.symm.trans q))
      omega
    refine m_T_mask [true, true, true, true, false, false] ?_
    have e5 : (m_cp (m_up μ 13 3 8 (nI (m - 1))) 3 3 (9 + q_ft (q_tu w K R) L m + 1) (9 + q_ft (q_tu w K R) L m) (m - 1 - q_ft (q_tu w K R) L m)).1 13 3 4 = nI d := by
      rw [m_cp_out (by omega), m_up_ne (by omega), hd]
    rw [nI_succ] at e
    unfold d_2 at e
    rw [← e5, ← u3] at e
    exact e
end MGo
