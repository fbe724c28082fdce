/-! the town, read -/
theorem q_town0 {σ : m_M} {D : Nat} (h : q_town σ D 0 3 0) : ∃ (N m w c d : Nat) (L K R H : Nat → Nat), q_wf (σ.1 13 3) D N m w c d L K R H ∧ q_ct σ 0 (σ.1 13 3) N m := by
  obtain ⟨N, m, w, c, d, L, K, R, H, h1, h2⟩ := h
  have e : (fun j => σ.1 13 3 (0 + j)) = σ.1 13 3 := by funext j; rw [Nat.zero_add]
  rw [e] at h1 h2
  exact ⟨N, m, w, c, d, L, K, R, H, h1, h2⟩
theorem k_0 : (Int32.ofInt 0).toInt = 0 := by decide
theorem k_L0 : (Int64.ofNat 0).toInt = 0 := by decide
theorem k_m1I {n : Nat} (h : n < 2 ^ 30) : (nI n - Int32.ofInt 1).toInt = (n : Int) - 1 := by
  rw [show Int32.ofInt 1 = nI 1 from rfl, pk_sub_toInt h (by decide)]
  rfl
section Town
variable {E : m_E} {r v : Nat} {σ : m_M} {Q : m_F → Prop} {x : Int32} {N m : Nat}
theorem s_has1 (hN : σ.1 5 v 8 = nI N) (h60 : N ≤ 60) (h0 : 0 ≤ x.toInt) (h1 : x.toInt < N) (hq : Q (0, [], [vI (Int32.ofInt 1)], σ)) : m_T E 65535 r 76 (0, [some (vR 5 v), some (vI x)], [], σ) Q := by
  refine m_T_un 20 m_no ?_
  refine ⟨fun c => ?_, fun _ => ⟨fun c => ?_, fun _ => ⟨Or.inr rfl, hq⟩⟩⟩
  · have c : x < 0 := c
    rw [k_lt, show (0 : Int32).toInt = 0 by decide] at c
    omega
  · have c : σ.1 5 v 8 ≤ x := c
    rw [hN, k_le, k_nI (by omega)] at c
    omega
theorem s_has0 (hN : σ.1 5 v 8 = nI N) (h60 : N ≤ 60) (h : x.toInt < 0 ∨ N ≤ x.toInt) (hq : Q (0, [], [vI (Int32.ofInt 0)], σ)) : m_T E 65535 r 76 (0, [some (vR 5 v), some (vI x)], [], σ) Q := by
  refine m_T_un 20 m_no ?_
  refine ⟨fun _ => ⟨Or.inl rfl, hq⟩, fun c => ⟨fun _ => ⟨Or.inl rfl, hq⟩, fun c2 => ?_⟩⟩
  have c : ¬ x < 0 := c
  have c2 : ¬ σ.1 5 v 8 ≤ x := c2
  rw [k_lt, show (0 : Int32).toInt = 0 by decide] at c
  rw [hN, k_le, k_nI (by omega)] at c2
  omega
theorem s_one1 (hN : σ.1 13 3 7 = nI N) (h60 : N ≤ 60) (h0 : 0 ≤ x.toInt) (h1 : x.toInt < N) (hq : Q (0, [], [vI (Int32.ofInt 1)], σ)) : m_T E 65535 (r + 1) 123 (0, [some (vR 6 0), some (vI x)], [], σ) Q := by
  refine m_T_un 20 (fun y _ => Nat.beq y 87) ?_
  refine ⟨k_in (k := 7) (n := 309) (by decide) (by decide), ?_⟩
  refine s_in1 (show (Int64.ofNat 0).toInt ≤ x.toInt64.toInt by rw [Int32.toInt_toInt64, k_L0]; exact h0) (show x.toInt64.toInt ≤ (σ.1 13 3 7 - Int32.ofInt 1).toInt64.toInt by rw [hN, Int32.toInt_toInt64, Int32.toInt_toInt64, k_m1I (by omega)]; omega) ⟨Or.inr rfl, hq⟩
theorem s_one0 (hN : σ.1 13 3 7 = nI N) (h60 : N ≤ 60) (h : x.toInt < 0 ∨ N ≤ x.toInt) (hq : Q (0, [], [vI (Int32.ofInt 0)], σ)) : m_T E 65535 (r + 1) 123 (0, [some (vR 6 0), some (vI x)], [], σ) Q := by
  refine m_T_un 20 (fun y _ => Nat.beq y 87) ?_
  refine ⟨k_in (k := 7) (n := 309) (by decide) (by decide), ?_⟩
  refine s_in0 (show x.toInt64.toInt < (Int64.ofNat 0).toInt ∨ (σ.1 13 3 7 - Int32.ofInt 1).toInt64.toInt < x.toInt64.toInt by rw [hN, Int32.toInt_toInt64, Int32.toInt_toInt64, k_m1I (by omega), k_L0]; omega) ⟨Or.inl rfl, hq⟩
theorem s_of (p k : Nat) {x y : Int32} (hp : p < 60) (hk : k < 4) (hx : x = nI p) (hy : y = nI k) (hq : Q (0, [], [vI (σ.1 13 3 (69 + 4 * p + k))], σ)) : m_T E 65535 r 116 (0, [some (vR 6 0), some (vI x), some (vI y)], [], σ) Q := by
  subst hx
  subst hy
  have e : (Int8.ofInt 69).toInt32 + Int32.ofInt 4 * nI p + nI k = nI (69 + 4 * p + k) := by
    rw [show (Int8.ofInt 69).toInt32 = nI 69 from rfl, show Int32.ofInt 4 = nI 4 from rfl, pk_mul, nI_add, nI_add]
  refine m_T_un 20 m_no ?_
  refine ⟨show vp_in ((Int8.ofInt 69).toInt32 + Int32.ofInt 4 * nI p + nI k) 309 by rw [e]; exact k_in (by omega) (by decide), ?_⟩
  show Q (0, [], [vI (σ.1 13 3 ((Int8.ofInt 69).toInt32 + Int32.ofInt 4 * nI p + nI k).toNatClampNeg)], σ)
  rw [e, k_cl (by omega)]
  exact hq
/-- where one stands: the class -/
theorem s_plc1 (i : Nat) (hm : σ.1 5 v 9 = nI m) (h60 : m ≤ m_lenN (5 * v + 4)) (hi : i < m) (he : σ.1 12 (5 * v + 4) i = x) (hf : ∀ t, t < i → ¬ σ.1 12 (5 * v + 4) t = x) (hq : Q (0, [], [vI (nI i)], σ)) : m_T E 65535 (r + 1) 78 (0, [some (vR 5 v), some (vI x), none], [], σ) Q := by
  have hl := m_lenN_lt (5 * v + 4)
  have key : ∀ n t, t + n = i → m_T E 65535 (r + 1) 78 (2, [some (vR 5 v), some (vI x), some (vI (nI t))], [], σ) Q := by
    intro n
    induction n with
    | zero =>
      intro t ht
      refine m_T_un 40 (fun y _ => Nat.beq y 50) ?_
      refine ⟨fun c => ?_, fun _ => ?_⟩
      · have c : σ.1 5 v 9 ≤ nI t := c
        rw [hm] at c
        exact absurd c (nI_ge (show t < m by omega) (by omega))
      · refine s_at t rfl (by omega) ?_
        refine ⟨fun c => absurd ?_ c, fun _ => ?_⟩
        · rw [show t = i by omega]; exact he
        · rw [show i = t by omega] at hq; exact hq
    | succ n ih =>
      intro t ht
      refine m_T_un 40 (fun y pc => Nat.beq y 50 || (Nat.beq y 78 && Nat.beq pc 2)) ?_
      refine ⟨fun c => ?_, fun _ => ?_⟩
      · have c : σ.1 5 v 9 ≤ nI t := c
        rw [hm] at c
        exact absurd c (nI_ge (show t < m by omega) (by omega))
      · refine s_at t rfl (by omega) ?_
        refine ⟨fun _ => ?_, fun c => absurd c (hf t (by omega))⟩
        have h := ih (t + 1) (by omega)
        rw [nI_succ] at h
        exact h
  refine m_T_un 40 (fun y pc => Nat.beq y 50 || (Nat.beq y 78 && Nat.beq pc 2)) ?_
  exact key i 0 (by omega)
theorem s_plc0 (hm : σ.1 5 v 9 = nI m) (h60 : m ≤ m_lenN (5 * v + 4)) (hf : ∀ t, t < m → ¬ σ.1 12 (5 * v + 4) t = x) (hq : Q (0, [], [vI (-1000000)], σ)) : m_T E 65535 (r + 1) 78 (0, [some (vR 5 v), some (vI x), none], [], σ) Q := by
  have hl := m_lenN_lt (5 * v + 4)
  have key : ∀ n t, t + n = m → m_T E 65535 (r + 1) 78 (2, [some (vR 5 v), some (vI x), some (vI (nI t))], [], σ) Q := by
    intro n
    induction n with
    | zero =>
      intro t ht
      refine m_T_un 40 (fun y _ => Nat.beq y 50) ?_
      refine ⟨fun _ => hq, fun c => ?_⟩
      have c : ¬ σ.1 5 v 9 ≤ nI t := c
      rw [hm] at c
      exact absurd (nI_le (show m ≤ t by omega) (by omega)) c
    | succ n ih =>
      intro t ht
      refine m_T_un 40 (fun y pc => Nat.beq y 50 || (Nat.beq y 78 && Nat.beq pc 2)) ?_
      refine ⟨fun c => ?_, fun _ => ?_⟩
      · have c : σ.1 5 v 9 ≤ nI t := c
        rw [hm] at c
        exact absurd c (nI_ge (show t < m by omega) (by omega))
      · refine s_at t rfl (by omega) ?_
        refine ⟨fun _ => ?_, fun c => absurd c (hf t (by omega))⟩
        have h := ih (t + 1) (by omega)
        rw [nI_succ] at h
        exact h
  refine m_T_un 40 (fun y pc => Nat.beq y 50 || (Nat.beq y 78 && Nat.beq pc 2)) ?_
  exact key m 0 (by omega)
/-- where one stands: the model -/
theorem k_9 (t : Nat) : (Int8.ofInt 9).toInt32 + nI t = nI (9 + t) := by
  rw [show (Int8.ofInt 9).toInt32 = nI 9 from rfl, nI_add]
theorem s_mpl1 (i : Nat) (hm : σ.1 13 3 8 = nI m) (h60 : m ≤ 60) (hi : i < m) (he : σ.1 13 3 (9 + i) = x) (hf : ∀ t, t < i → ¬ σ.1 13 3 (9 + t) = x) (hq : Q (0, [], [vI (nI i)], σ)) : m_T E 65535 r 114 (0, [some (vR 6 0), some (vI x), none], [], σ) Q := by
  have key : ∀ n t, t + n = i → m_T E 65535 r 114 (2, [some (vR 6 0), some (vI x), some (vI (nI t))], [], σ) Q := by
    intro n
    induction n with
    | zero =>
      intro t ht
      refine m_T_un 40 m_no ?_
      refine ⟨k_in (k := 8) (n := 309) (by decide) (by decide), fun c => ?_, fun _ => ⟨show vp_in ((Int8.ofInt 9).toInt32 + nI t) 309 by rw [k_9]; exact k_in (by omega) (by decide), fun c => absurd ?_ c, fun _ => ?_⟩⟩
      · have c : σ.1 13 3 8 ≤ nI t := c
        rw [hm] at c
        exact absurd c (nI_ge (show t < m by omega) (by omega))
      · show σ.1 13 3 ((Int8.ofInt 9).toInt32 + nI t).toNatClampNeg = x
        rw [k_9, k_cl (by omega), show t = i by omega]
        exact he
      · rw [show i = t by omega] at hq; exact hq
    | succ n ih =>
      intro t ht
      refine m_T_un 40 (fun y pc => Nat.beq y 114 && Nat.beq pc 2) ?_
      refine ⟨k_in (k := 8) (n := 309) (by decide) (by decide), fun c => ?_, fun _ => ⟨show vp_in ((Int8.ofInt 9).toInt32 + nI t) 309 by rw [k_9]; exact k_in (by omega) (by decide), fun _ => ?_, fun c => ?_⟩⟩
      · have c : σ.1 13 3 8 ≤ nI t := c
        rw [hm] at c
        exact absurd c (nI_ge (show t < m by omega) (by omega))
      · have h := ih (t + 1) (by omega)
        rw [nI_succ] at h
        exact h
      · have c : σ.1 13 3 ((Int8.ofInt 9).toInt32 + nI t).toNatClampNeg = x := c
        rw [k_9, k_cl (by omega)] at c
        exact absurd c (hf t (by omega))
  refine m_T_un 40 (fun y pc => Nat.beq y 114 && Nat.beq pc 2) ?_
  exact key i 0 (by omega)
theorem s_mpl0 (hm : σ.1 13 3 8 = nI m) (h60 : m ≤ 60) (hf : ∀ t, t < m → ¬ σ.1 13 3 (9 + t) = x) (hq : Q (0, [], [vI (-1000000)], σ)) : m_T E 65535 r 114 (0, [some (vR 6 0), some (vI x), none], [], σ) Q := by
  have key : ∀ n t, t + n = m → m_T E 65535 r 114 (2, [some (vR 6 0), some (vI x), some (vI (nI t))], [], σ) Q := by
    intro n
    induction n with
    | zero =>
      intro t ht
      refine m_T_un 40 m_no ?_
      refine ⟨k_in (k := 8) (n := 309) (by decide) (by decide), fun _ => hq, fun c => ?_⟩
      have c : ¬ σ.1 13 3 8 ≤ nI t := c
      rw [hm] at c
      exact absurd (nI_le (show m ≤ t by omega) (by omega)) c
    | succ n ih =>
      intro t ht
      refine m_T_un 40 (fun y pc => Nat.beq y 114 && Nat.beq pc 2) ?_
      refine ⟨k_in (k := 8) (n := 309) (by decide) (by decide), fun c => ?_, fun _ => ⟨show vp_in ((Int8.ofInt 9).toInt32 + nI t) 309 by rw [k_9]; exact k_in (by omega) (by decide), fun _ => ?_, fun c => ?_⟩⟩
      · have c : σ.1 13 3 8 ≤ nI t := c
        rw [hm] at c
        exact absurd c (nI_ge (show t < m by omega) (by omega))
      · have h := ih (t + 1) (by omega)
        rw [nI_succ] at h
        exact h
      · have c : σ.1 13 3 ((Int8.ofInt 9).toInt32 + nI t).toNatClampNeg = x := c
        rw [k_9, k_cl (by omega)] at c
        exact absurd c (hf t (by omega))
  refine m_T_un 40 (fun y pc => Nat.beq y 114 && Nat.beq pc 2) ?_
  exact key m 0 (by omega)
end Town
def q_isof (K w : Nat) : Bool := Nat.beq w 0 || Nat.beq K w || (Nat.beq w 1 && (Nat.beq K 2 || Nat.beq K 3)) || (Nat.beq w 4 && Nat.beq K 5)
theorem p_kind {E : m_E} {D : Nat} {σ : m_M} (hD : D < 512) (hs : q_sim D σ) (a : Int32) : q_pair E D 35 146 [vI a] σ := by
  have hs2 : q_sim (D + 1) (m_up σ 6 0 0 (Int32.ofInt 0)) := z_thr (q_sim_more (Nat.le_succ D) hs)
  obtain ⟨N, m, w, c, d, L, K, R, H, ⟨w0, w1, w2, w3, w4, w5, w6, w7, w8, w9, wa, wb, wc⟩, c1, c2, c3⟩ := q_town0 hs.2.2.2.2.2.1
  have hN : σ.1 5 0 8 = nI N := (c1 7 (by omega)).trans w6
  by_cases hr : 0 ≤ a.toInt ∧ a.toInt < N
  · obtain ⟨p, hp, rfl⟩ := k_of hr.1 hr.2
    refine m_T_un 60 (fun y _ => Nat.beq y 76 || Nat.beq y 50) ?_
    refine s_has1 hN w7 hr.1 hr.2 ?_
    refine ⟨fun q => absurd q (by decide), fun _ => ?_⟩
    refine s_at p rfl (show p < 60 by omega) ?_
    refine ⟨σ.1 12 0 p, rfl, ?_⟩
    refine m_T_un 60 (fun y _ => Nat.beq y 123 || Nat.beq y 116) ?_
    refine s_one1 (N := N) w6 w7 hr.1 hr.2 ?_
    refine ⟨fun q => absurd q (by decide), fun _ => ?_⟩
    refine s_of p 0 (by omega) (by omega) rfl rfl ?_
    exact ⟨z_v (c3 p hp).1.symm, hs2⟩
  · refine m_T_un 60 (fun y _ => Nat.beq y 76 || Nat.beq y 50) ?_
    refine s_has0 hN w7 (by omega) ?_
    refine ⟨fun _ => ?_, fun q => absurd rfl q⟩
    refine ⟨-1000001, rfl, ?_⟩
    refine m_T_un 60 (fun y _ => Nat.beq y 123 || Nat.beq y 116) ?_
    refine s_one0 (N := N) w6 w7 (by omega) ?_
    exact ⟨fun _ => ⟨rfl, hs2⟩, fun q => absurd rfl q⟩
