/-! hired ones who pass; how many are to be hired for one -/
def q_pasH (w k : Nat) : Bool := Nat.beq w 2 && Nat.blt 2 (q_ord k)
theorem q_pasHP {w k : Nat} (h : q_pasH w k = true) : q_pass w k = true := by
  unfold q_pasH at h
  unfold q_pass
  rw [Bool.and_eq_true] at h ⊢
  refine ⟨h.1, ?_⟩
  have h2 := h.2
  rw [Nat.blt_eq] at h2 ⊢
  omega
def q_sm (x : Nat → Nat) : Nat → Nat
  | 0 => 0
  | t + 1 => q_sm x t + x t
theorem q_sm_le {x : Nat → Nat} {n : Nat} (hx : ∀ t, t < n → x t ≤ 20) : ∀ t, t ≤ n → q_sm x t ≤ 20 * t
  | 0, _ => by unfold q_sm; omega
  | t + 1, h => by
    have := q_sm_le hx t (by omega)
    have := hx t (by omega)
    unfold q_sm
    omega
def q_hv (A a S d : Nat) (z1 z2 : Bool) : Int32 := if A < a then 0 else if d = 1 ∨ z2 = true then -1000000 else nI (A + 1 - a - cond z1 0 S)
theorem k_ss {X Y Z : Nat} (hX : X < 10000) (hY : Y < 10000) (hZ : Z < 10000) : nI X - nI Y - nI Z = nI X - nI (Y + Z) := by
  apply k_eq
  rw [k_3s _ _ _ hX hY hZ, pk_sub_toInt (by omega) (by omega)]
  omega
section HireOne
variable {E : m_E} {r : Nat} {σ : m_M} {Q : m_F → Prop} {D N m w a d : Nat} {L K R H : Nat → Nat}
theorem s_isIn1x (hT : q_T σ D N m w a d L K R H) (i : Nat) (hi : i < m) {x : Int32} (hx : x = nI (L i)) (hq : Q (0, [], [vI (Int32.ofInt 1)], σ)) : m_T E 65535 (r + 2) 77 (0, [some (vR 5 0), some (vI x)], [], σ) Q := by
  subst hx
  exact s_isIn1 hT i hi hq
theorem s_isH1x (hT : q_T σ D N m w a d L K R H) (i : Nat) (hi : i < m) {x : Int32} (hx : x = nI (L i)) (hq : Q (0, [], [vI (Int32.ofInt 1)], σ)) : m_T E 65535 (r + 2) 124 (0, [some (vR 6 0), some (vI x)], [], σ) Q := by
  subst hx
  exact s_isH1 hT i hi hq
theorem s_lpsH (hT : q_T σ D N m w a d L K R H) (p : Nat) (hp : p < N) {y x : Int32} (hy : y = nI 2) (hx : x = nI p) (hq : Q (0, [], [vI (k_bit (q_pasH w (K p)))], σ)) : m_T E 65535 (r + 2) 81 (0, [some (vR 5 0), some (vI y), some (vI x)], [], σ) Q := by
  subst hy
  subst hx
  have b2 := (hT.1.2.2.2.2.2.2.2.2.2.2.2.2 p hp).2.2.2.2.1
  have g1 := q_tcn (w := w) hT.1.2.1 (k := 2) (z := 0) (by omega)
  have g2 := q_tcn (w := w) hT.1.2.1 (k := K p) b2
  have w2 := hT.1.2.1
  refine m_T_un 40 (fun y pc => Nat.beq y 74 || Nat.beq y 73) ?_
  refine s_trn2 (k := 2) (z := 0) ((hT.2.1 0 (by omega)).trans hT.1.1) hT.1.2.1 (by omega) (by omega) ?_
  refine s_trn hT p hp rfl ?_
  have e : q_tc w 2 0 < q_tc w (K p) (R p) ↔ q_pasH w (K p) = true := by
    rw [k_lt, g1, g2]
    obtain rfl | rfl | rfl : w = 0 ∨ w = 1 ∨ w = 2 := by omega
    · show ((0 : Nat) : Int) - 0 < ((0 : Nat) : Int) - 0 ↔ false = true
      exact ⟨fun q => absurd q (by decide), fun q => absurd q (by decide)⟩
    · show ((9 : Nat) : Int) - 9 < ((9 - R p : Nat) : Int) - 9 ↔ false = true
      exact ⟨fun q => absurd q (by omega), fun q => absurd q (by decide)⟩
    · show ((2 : Nat) : Int) - 0 < ((q_ord (K p) : Nat) : Int) - 0 ↔ Nat.blt 2 (q_ord (K p)) = true
      rw [Nat.blt_eq]
      omega
  refine ⟨fun q => ?_, fun q => ?_⟩
  · have q : q_tc w (K p) (R p) ≤ q_tc w 2 0 := q
    cases hz : q_pasH w (K p) with
    | true => exact absurd (e.mpr hz) (Int32.not_lt.mpr q)
    | false =>
      rw [hz] at hq
      exact ⟨Or.inl rfl, hq⟩
  · have q : ¬ q_tc w (K p) (R p) ≤ q_tc w 2 0 := q
    cases hz : q_pasH w (K p) with
    | true =>
      rw [hz] at hq
      exact ⟨Or.inr rfl, hq⟩
    | false =>
      rw [Int32.not_le, e, hz] at q
      exact absurd q (by decide)
theorem s_mpsH (hT : q_T σ D N m w a d L K R H) (p : Nat) (hp : p < N) {y x : Int32} (hy : y = nI 2) (hx : x = nI p) (hq : Q (0, [], [vI (k_bit (q_pasH w (K p)))], σ)) : m_T E 65535 (r + 2) 131 (0, [some (vR 6 0), some (vI x), some (vI y)], [], σ) Q := by
  subst hy
  subst hx
  obtain ⟨⟨w0, w1, w2, w3, w4, w5, w6, w7, w8, w9, wa, wb, wc⟩, c1, c2, c3⟩ := hT
  obtain ⟨x1, x2, x3, x4, x5, -⟩ := wc p hp
  have w0 : σ.1 13 3 0 = nI w := w0
  have i0 : vp_in (Int32.ofInt 0) 309 := k_in (k := 0) (n := 309) (by decide) (by decide)
  have o4 : q_ord (K p) ≤ 4 := by
    unfold q_ord
    cases Nat.beq (K p) 3 <;> cases Nat.beq (K p) 1 <;> cases Nat.beq (K p) 2 <;> cases Nat.beq (K p) 5 <;> decide
  refine m_T_un 60 (fun y _ => Nat.beq y 116 || Nat.beq y 117) ?_
  obtain rfl | rfl | rfl : w = 0 ∨ w = 1 ∨ w = 2 := by omega
  · exact ⟨i0, fun _ => ⟨Or.inl rfl, hq⟩, fun q => absurd (w0.symm.trans q) (by decide)⟩
  · exact ⟨i0, fun _ => ⟨Or.inl rfl, hq⟩, fun q => absurd (w0.symm.trans q) (by decide)⟩
  · refine ⟨i0, fun q => absurd w0 q, fun _ => ?_⟩
    refine s_ord 2 (by omega) (by omega) rfl ?_
    refine s_of p 0 (by omega) (by omega) rfl rfl ?_
    refine s_ord (K p) x2 x3 x1 ⟨fun q => ?_, fun q => ?_⟩
    · have q : nI (q_ord (K p)) ≤ nI 2 := q
      rw [nI_leI (by omega) (by omega)] at q
      have e : q_pasH 2 (K p) = false := by
        show Nat.blt 2 (q_ord (K p)) = false
        rw [← Bool.not_eq_true, Nat.blt_eq]
        omega
      rw [e] at hq
      exact ⟨Or.inl rfl, hq⟩
    · have q : ¬ nI (q_ord (K p)) ≤ nI 2 := q
      rw [nI_leI (by omega) (by omega)] at q
      have e : q_pasH 2 (K p) = true := by
        show Nat.blt 2 (q_ord (K p)) = true
        rw [Nat.blt_eq]
        omega
      rw [e] at hq
      exact ⟨Or.inr rfl, hq⟩
theorem s_chf {n S : Nat} {x : Int32} (hT : q_T σ D N m w a d L K R H) (i : Nat) (hi : i < m) (hx : x = nI (L i)) (hn : 1 ≤ n ∧ n ≤ 20) (hS : S ≤ 400) (hq : Q (0, [], [vI (q_hv (q_ah w L K R (L i) i m) a S n (q_pass w (K (L i))) (q_pasH w (K (L i))))], σ)) : m_T E 65535 (r + 3) 26 (0, [some (vR 0 0), some (vI x), some (vI (nI S)), some (vI (nI n)), none, none], [], σ) Q := by
  subst hx
  have h60 : m ≤ 60 := Nat.le_trans hT.1.2.2.2.2.2.2.2.2.2.1 hT.1.2.2.2.2.2.2.2.1
  have hA : q_ah w L K R (L i) i m ≤ m := q_ah_le m
  have hLi := (hT.1.2.2.2.2.2.2.2.2.2.2.1 i hi).2
  have hc : σ.1 5 0 4 = nI a := (hT.2.1 3 (by omega)).trans hT.1.2.2.1
  have ha := hT.1.2.2.2.1
  refine m_T_un 60 (fun y pc => Nat.beq y 79 || Nat.beq y 81) ?_
  refine s_cah hT i hi ⟨fun q => ⟨fun q2 => ?_, fun q2 => ?_⟩, fun q => ?_⟩
  · have q : (0 : Int32) ≤ nI (q_ah w L K R (L i) i m) - σ.1 5 0 4 := q
    rw [hc, k_le, pk_sub_toInt (by omega) (by omega), k_z32] at q
    have q2 : nI n = nI 1 := q2
    rw [nI_eq (by omega) (by omega)] at q2
    rw [show q_hv (q_ah w L K R (L i) i m) a S n (q_pass w (K (L i))) (q_pasH w (K (L i))) = -1000000 by unfold q_hv; rw [if_neg (by omega), if_pos (Or.inl q2)]] at hq
    exact hq
  · have q : (0 : Int32) ≤ nI (q_ah w L K R (L i) i m) - σ.1 5 0 4 := q
    rw [hc, k_le, pk_sub_toInt (by omega) (by omega), k_z32] at q
    have q2 : ¬ nI n = nI 1 := q2
    rw [nI_eq (by omega) (by omega)] at q2
    refine s_lpsH hT (L i) hLi rfl rfl ?_
    cases z2 : q_pasH w (K (L i)) with
    | true =>
      refine ⟨fun q3 => absurd q3 k_no1, fun _ => ?_⟩
      rw [show q_hv (q_ah w L K R (L i) i m) a S n (q_pass w (K (L i))) (q_pasH w (K (L i))) = -1000000 by unfold q_hv; rw [if_neg (by omega), if_pos (Or.inr z2)]] at hq
      exact hq
    | false =>
      refine ⟨fun _ => ?_, fun q3 => absurd rfl q3⟩
      refine s_lps hT (L i) hLi rfl rfl ?_
      have mx : ∀ h : Nat, h ≤ 400 → (if Int32.ofInt 0 < nI (q_ah w L K R (L i) i m) - σ.1 5 0 4 + Int32.ofInt 1 - nI h then nI (q_ah w L K R (L i) i m) - σ.1 5 0 4 + Int32.ofInt 1 - nI h else Int32.ofInt 0) = nI (q_ah w L K R (L i) i m + 1 - a - h) := fun h hh => by
        rw [hc, pk_sub (by omega), show Int32.ofInt 1 = nI 1 from rfl, nI_add]
        by_cases g : h ≤ q_ah w L K R (L i) i m - a + 1
        · rw [pk_sub g]
          by_cases g2 : 0 < q_ah w L K R (L i) i m - a + 1 - h
          · rw [if_pos (show Int32.ofInt 0 < nI (q_ah w L K R (L i) i m - a + 1 - h) from nI_lt g2 (by omega))]
            exact congrArg nI (by omega)
          · rw [if_neg (show ¬ Int32.ofInt 0 < nI (q_ah w L K R (L i) i m - a + 1 - h) from nI_nlt (a := 0) (by omega) (by omega))]
            show nI 0 = _
            exact congrArg nI (by omega)
        · rw [if_neg (fun q4 => by
            have q4 : nI 0 < nI (q_ah w L K R (L i) i m - a + 1) - nI h := q4
            rw [k_lt, pk_sub_toInt (by omega) (by omega), k_nI (by omega)] at q4
            omega)]
          show nI 0 = _
          exact congrArg nI (by omega)
      cases z1 : q_pass w (K (L i)) with
      | true =>
        refine ⟨fun q3 => absurd q3 k_no1, fun _ => ?_⟩
        rw [show q_hv (q_ah w L K R (L i) i m) a S n (q_pass w (K (L i))) (q_pasH w (K (L i))) = nI (q_ah w L K R (L i) i m + 1 - a - 0) by unfold q_hv; rw [if_neg (by omega), if_neg (by rw [z2]; simp; exact q2), z1]; rfl, ← mx 0 (by omega)] at hq
        exact hq
      | false =>
        refine ⟨fun _ => ?_, fun q3 => absurd rfl q3⟩
        rw [show q_hv (q_ah w L K R (L i) i m) a S n (q_pass w (K (L i))) (q_pasH w (K (L i))) = nI (q_ah w L K R (L i) i m + 1 - a - S) by unfold q_hv; rw [if_neg (by omega), if_neg (by rw [z2]; simp; exact q2), z1]; rfl, ← mx S hS] at hq
        exact hq
  · have q : ¬ (0 : Int32) ≤ nI (q_ah w L K R (L i) i m) - σ.1 5 0 4 := q
    rw [hc, k_le, pk_sub_toInt (by omega) (by omega), k_z32] at q
    rw [show q_hv (q_ah w L K R (L i) i m) a S n (q_pass w (K (L i))) (q_pasH w (K (L i))) = 0 by unfold q_hv; rw [if_pos (by omega)]] at hq
    exact hq
theorem s_mhf {s n : Nat} {x : Nat → Nat} {y b : Int32} (hT : q_T σ D N m w a d L K R H) (i : Nat) (hi : i < m) (hs : s < 8) (hn : 1 ≤ n ∧ n ≤ 20) (hx : ∀ t, t < n → σ.1 13 2 (40 * s + t) = nI (x t) ∧ x t ≤ 20) (hy : y = nI (L i)) (hb : b = nI (40 * s)) (hq : Q (0, [], [vI (q_hv (q_ah w L K R (L i) i m) a (q_sm x (n - 1)) n (q_pass w (K (L i))) (q_pasH w (K (L i))))], σ)) : m_T E 65535 (r + 3) 138 (0, [some (vR 6 0), some (vI y), some (vI b), some (vI (nI n)), none, none], [], σ) Q := by
  subst hy
  subst hb
  have h60 : m ≤ 60 := Nat.le_trans hT.1.2.2.2.2.2.2.2.2.2.1 hT.1.2.2.2.2.2.2.2.1
  have hA : q_ah w L K R (L i) i m ≤ m := q_ah_le m
  have hLi := (hT.1.2.2.2.2.2.2.2.2.2.2.1 i hi).2
  have hc : σ.1 13 3 3 = nI a := hT.1.2.2.1
  have ha := hT.1.2.2.2.1
  have hsm := q_sm_le (x := x) (n := n) (fun t ht => (hx t ht).2)
  have i3 : vp_in (Int32.ofInt 3) 309 := k_in (k := 3) (n := 309) (by decide) (by decide)
  have en : nI n - Int32.ofInt 1 = nI (n - 1) := by rw [show Int32.ofInt 1 = nI 1 from rfl, pk_sub (by omega)]
  have fin : ∀ (Y : Nat) (kk : Int32), Y ≤ 420 → (Y = a + cond (q_pass w (K (L i))) 0 (q_sm x (n - 1))) → m_T E 65535 (r + 3) 138 (56, [some (vR 6 0), some (vI (nI (L i))), some (vI (nI (40 * s))), some (vI (nI n)), some (vI (nI (q_ah w L K R (L i) i m + 1) - nI Y)), some (vI kk)], [], σ) Q := fun Y kk hY eY => by
    refine m_T_un 60 (fun y pc => Nat.beq y 131) ?_
    refine ⟨fun q => ⟨fun q2 => ?_, fun q2 => ?_⟩, fun q => ?_⟩
    · have q : (0 : Int32) < nI (q_ah w L K R (L i) i m + 1) - nI Y := q
      rw [k_lt, pk_sub_toInt (by omega) (by omega), k_z32] at q
      have q2 : nI n = nI 1 := q2
      rw [nI_eq (by omega) (by omega)] at q2
      rw [show q_hv (q_ah w L K R (L i) i m) a (q_sm x (n - 1)) n (q_pass w (K (L i))) (q_pasH w (K (L i))) = -1000000 by unfold q_hv; rw [if_neg (by omega), if_pos (Or.inl q2)]] at hq
      exact hq
    · have q : (0 : Int32) < nI (q_ah w L K R (L i) i m + 1) - nI Y := q
      rw [k_lt, pk_sub_toInt (by omega) (by omega), k_z32] at q
      have q2 : ¬ nI n = nI 1 := q2
      rw [nI_eq (by omega) (by omega)] at q2
      refine s_mpsH hT (L i) hLi rfl rfl ?_
      cases z2 : q_pasH w (K (L i)) with
      | true =>
        refine ⟨fun q3 => absurd q3 k_no1, fun _ => ?_⟩
        rw [show q_hv (q_ah w L K R (L i) i m) a (q_sm x (n - 1)) n (q_pass w (K (L i))) (q_pasH w (K (L i))) = -1000000 by unfold q_hv; rw [if_neg (by omega), if_pos (Or.inr z2)]] at hq
        exact hq
      | false =>
        refine ⟨fun _ => ?_, fun q3 => absurd rfl q3⟩
        rw [show q_hv (q_ah w L K R (L i) i m) a (q_sm x (n - 1)) n (q_pass w (K (L i))) (q_pasH w (K (L i))) = nI (q_ah w L K R (L i) i m + 1) - nI Y by unfold q_hv; rw [if_neg (by omega), if_neg (by rw [z2]; simp; exact q2), pk_sub (by omega), eY]; exact congrArg nI (by omega)] at hq
        exact hq
    · have q : ¬ (0 : Int32) < nI (q_ah w L K R (L i) i m + 1) - nI Y := q
      rw [k_lt, pk_sub_toInt (by omega) (by omega), k_z32] at q
      by_cases g : q_ah w L K R (L i) i m < a
      · rw [show q_hv (q_ah w L K R (L i) i m) a (q_sm x (n - 1)) n (q_pass w (K (L i))) (q_pasH w (K (L i))) = 0 by unfold q_hv; rw [if_pos g]] at hq
        exact hq
      · have z1 : q_pass w (K (L i)) = false := by
          cases z : q_pass w (K (L i)) with
          | true =>
            rw [z] at eY
            have eY : Y = a + 0 := eY
            omega
          | false => rfl
        have z2 : q_pasH w (K (L i)) = false := by
          cases z : q_pasH w (K (L i)) with
          | true => exact absurd ((q_pasHP z).symm.trans z1) (by decide)
          | false => rfl
        rw [z1] at eY
        have eY : Y = a + q_sm x (n - 1) := eY
        have n1 : ¬ n = 1 := fun q2 => by
          rw [q2] at eY
          have eY : Y = a + 0 := eY
          omega
        rw [show q_hv (q_ah w L K R (L i) i m) a (q_sm x (n - 1)) n (q_pass w (K (L i))) (q_pasH w (K (L i))) = nI 0 by unfold q_hv; rw [if_neg (by omega), if_neg (by rw [z2]; simp; exact n1), z1]; exact congrArg nI (show q_ah w L K R (L i) i m + 1 - a - q_sm x (n - 1) = 0 by omega)] at hq
        exact hq
  have key : q_pass w (K (L i)) = false → ∀ k t, t + k = n - 1 → m_T E 65535 (r + 3) 138 (19, [some (vR 6 0), some (vI (nI (L i))), some (vI (nI (40 * s))), some (vI (nI n)), some (vI (nI (q_ah w L K R (L i) i m + 1) - nI (a + q_sm x t))), some (vI (nI t))], [], σ) Q := by
    intro z k
    induction k with
    | zero =>
      intro t ht
      refine m_T_un 60 (fun y pc => (Nat.beq y 138 && (Nat.beq pc 19 || Nat.beq pc 56)) || Nat.beq y 131) ?_
      refine ⟨fun _ => ?_, fun q => ?_⟩
      · have h1 := hsm t (by omega)
        refine fin _ _ (by omega) ?_
        rw [z, show n - 1 = t by omega]
        rfl
      · have q : ¬ nI n - Int32.ofInt 1 ≤ nI t := q
        rw [en] at q
        exact absurd (nI_le (by omega) (by omega)) q
    | succ k ih =>
      intro t ht
      have h1 := hsm t (by omega)
      obtain ⟨x1, x2⟩ := hx t (by omega)
      have hv : vp_in (nI (40 * s) + nI t) 320 := by rw [nI_add]; exact k_in (by omega) (by decide)
      have xi : (nI (40 * s) + nI t).toNatClampNeg = 40 * s + t := by rw [nI_add, k_cl (by omega)]
      refine m_T_un 60 (fun y pc => (Nat.beq y 138 && (Nat.beq pc 19 || Nat.beq pc 56)) || Nat.beq y 131) ?_
      refine ⟨fun q => ?_, fun _ => ?_⟩
      · have q : nI n - Int32.ofInt 1 ≤ nI t := q
        rw [en] at q
        exact absurd q (nI_ge (by omega) (by omega))
      refine s_mps hT (L i) hLi rfl rfl ?_
      rw [z]
      refine ⟨fun q => absurd rfl q, fun _ => ⟨hv, ?_⟩⟩
      have e := ih (t + 1) (by omega)
      rw [nI_succ t, show a + q_sm x (t + 1) = a + q_sm x t + x t from (Nat.add_assoc _ _ _).symm, ← k_ss (by omega) (by omega) (by omega), ← x1, ← xi] at e
      exact e
  have e0 : nI (q_ah w L K R (L i) i m) + Int32.ofInt 1 - σ.1 13 3 3 = nI (q_ah w L K R (L i) i m + 1) - nI a := by rw [hc, show Int32.ofInt 1 = nI 1 from rfl, nI_add]
  have go : m_T E 65535 (r + 3) 138 (19, [some (vR 6 0), some (vI (nI (L i))), some (vI (nI (40 * s))), some (vI (nI n)), some (vI (nI (q_ah w L K R (L i) i m) + Int32.ofInt 1 - σ.1 13 3 3)), some (vI (nI 0))], [], σ) Q := by
    rw [e0]
    cases z : q_pass w (K (L i)) with
    | false => exact key z (n - 1) 0 (by omega)
    | true =>
      refine m_T_un 60 (fun y pc => (Nat.beq y 138 && Nat.beq pc 56) || Nat.beq y 131) ?_
      have f := fin a (nI 0) (by omega) (by rw [z]; rfl)
      refine ⟨fun _ => f, fun _ => ?_⟩
      refine s_mps hT (L i) hLi rfl rfl ?_
      rw [z]
      exact ⟨fun _ => f, fun q => absurd q k_no1⟩
  refine m_T_un 60 (fun y pc => (Nat.beq y 138 && Nat.beq pc 19) || Nat.beq y 113) ?_
  exact s_mah hT i hi ⟨i3, go⟩
end HireOne
