/-! who goes before -/
def q_ah (w : Nat) (L K R : Nat → Nat) (p i : Nat) : Nat → Nat
  | 0 => 0
  | t + 1 => if q_tn w (K (L t)) (R (L t)) < q_tn w (K p) (R p) ∨ (q_tn w (K (L t)) (R (L t)) = q_tn w (K p) (R p) ∧ t < i) then q_ah w L K R p i t + 1 else q_ah w L K R p i t
theorem q_ah_le {w p i : Nat} {L K R : Nat → Nat} : ∀ t, q_ah w L K R p i t ≤ t
  | 0 => Nat.le_refl 0
  | t + 1 => by
    have h := q_ah_le (w := w) (p := p) (i := i) (L := L) (K := K) (R := R) t
    unfold q_ah
    split <;> omega
section Ahead
variable {E : m_E} {r : Nat} {σ : m_M} {Q : m_F → Prop} {D N m w a d : Nat} {L K R H : Nat → Nat}
theorem s_cah (hT : q_T σ D N m w a d L K R H) (i : Nat) (hi : i < m) (hq : Q (0, [], [vI (nI (q_ah w L K R (L i) i m))], σ)) : m_T E 65535 (r + 2) 79 (0, [some (vR 5 0), some (vI (nI (L i))), none, none, none, none, none], [], σ) Q := by
  have h60 : m ≤ 60 := Nat.le_trans hT.1.2.2.2.2.2.2.2.2.2.1 hT.1.2.2.2.2.2.2.2.1
  have hm : σ.1 5 0 9 = nI m := (hT.2.1 8 (by omega)).trans hT.1.2.2.2.2.2.2.2.2.1
  have hLN : ∀ t, t < m → L t < N := fun t ht => (hT.1.2.2.2.2.2.2.2.2.2.2.1 t ht).2
  have key : ∀ n t, t + n = m → m_T E 65535 (r + 2) 79 (18, [some (vR 5 0), some (vI (nI (L i))), some (vI (q_tc w (K (L i)) (R (L i)))), some (vI (nI i)), some (vI (nI (q_ah w L K R (L i) i t))), some (vI (nI t)), none], [], σ) Q := by
    intro n
    induction n with
    | zero =>
      intro t ht
      refine m_T_un 40 (fun y pc => (Nat.beq y 79 && Nat.beq pc 18) || Nat.beq y 50 || Nat.beq y 73) ?_
      refine ⟨fun _ => ?_, fun q => ?_⟩
      · obtain rfl : t = m := by omega
        exact hq
      · have q : ¬ σ.1 5 0 9 ≤ nI t := q
        rw [hm] at q
        exact absurd (nI_le (show m ≤ t by omega) (by omega)) q
    | succ n ih =>
      intro t ht
      have hl : σ.1 12 4 t = nI (L t) := (hT.2.2.1 t (by omega)).trans (hT.1.2.2.2.2.2.2.2.2.2.2.1 t (by omega)).1
      have b1 := (hT.1.2.2.2.2.2.2.2.2.2.2.2.2 (L t) (hLN t (by omega))).2.2.2.2.1
      have b2 := (hT.1.2.2.2.2.2.2.2.2.2.2.2.2 (L i) (hLN i hi)).2.2.2.2.1
      have g1 := q_tcn (w := w) hT.1.2.1 (k := K (L t)) b1
      have g2 := q_tcn (w := w) hT.1.2.1 (k := K (L i)) b2
      refine m_T_un 40 (fun y pc => (Nat.beq y 79 && Nat.beq pc 18) || Nat.beq y 50 || Nat.beq y 73) ?_
      refine ⟨fun q => ?_, fun _ => ?_⟩
      · have q : σ.1 5 0 9 ≤ nI t := q
        rw [hm] at q
        exact absurd q (nI_ge (show t < m by omega) (by omega))
      refine s_at t rfl (show t < 60 by omega) ?_
      refine s_trn hT (L t) (hLN t (by omega)) hl ?_
      have e := ih (t + 1) (by omega)
      rw [nI_succ t] at e
      have yes : (q_tn w (K (L t)) (R (L t)) < q_tn w (K (L i)) (R (L i)) ∨ (q_tn w (K (L t)) (R (L t)) = q_tn w (K (L i)) (R (L i)) ∧ t < i)) → m_T E 65535 (r + 2) 79 (18, [some (vR 5 0), some (vI (nI (L i))), some (vI (q_tc w (K (L i)) (R (L i)))), some (vI (nI i)), some (vI (nI (q_ah w L K R (L i) i t) + 1)), some (vI (nI t + 1)), none], [], σ) Q := fun h => by
        rw [← nI_succ, ← show q_ah w L K R (L i) i (t + 1) = q_ah w L K R (L i) i t + 1 from if_pos h]
        exact e
      have no : ¬ (q_tn w (K (L t)) (R (L t)) < q_tn w (K (L i)) (R (L i)) ∨ (q_tn w (K (L t)) (R (L t)) = q_tn w (K (L i)) (R (L i)) ∧ t < i)) → m_T E 65535 (r + 2) 79 (18, [some (vR 5 0), some (vI (nI (L i))), some (vI (q_tc w (K (L i)) (R (L i)))), some (vI (nI i)), some (vI (nI (q_ah w L K R (L i) i t))), some (vI (nI t + 1)), none], [], σ) Q := fun h => by
        rw [← show q_ah w L K R (L i) i (t + 1) = q_ah w L K R (L i) i t from if_neg h]
        exact e
      refine ⟨fun q => ?_, fun q => ⟨fun q2 => ?_, fun q2 => ⟨fun q3 => ?_, fun q3 => ?_⟩⟩⟩
      · have q : q_tc w (K (L t)) (R (L t)) < q_tc w (K (L i)) (R (L i)) := q
        rw [k_lt, g1, g2] at q
        refine m_T_mask [true, true, true, true, true, true, false] ?_
        exact yes (Or.inl (by omega))
      · have q : ¬ q_tc w (K (L t)) (R (L t)) < q_tc w (K (L i)) (R (L i)) := q
        have q2 : ¬ q_tc w (K (L t)) (R (L t)) = q_tc w (K (L i)) (R (L i)) := q2
        have q2 : ¬ (q_tc w (K (L t)) (R (L t))).toInt = (q_tc w (K (L i)) (R (L i))).toInt := fun h => q2 (k_eq h)
        rw [k_lt, g1, g2] at q
        rw [g1, g2] at q2
        refine m_T_mask [true, true, true, true, true, true, false] ?_
        exact no (by omega)
      · have q : ¬ q_tc w (K (L t)) (R (L t)) < q_tc w (K (L i)) (R (L i)) := q
        have q3 : nI i ≤ nI t := q3
        rw [k_lt, g1, g2] at q
        rw [nI_leI (by omega) (by omega)] at q3
        refine m_T_mask [true, true, true, true, true, true, false] ?_
        exact no (by omega)
      · have q2 : q_tc w (K (L t)) (R (L t)) = q_tc w (K (L i)) (R (L i)) := q2
        have q2 := congrArg Int32.toInt q2
        have q3 : ¬ nI i ≤ nI t := q3
        rw [g1, g2] at q2
        rw [nI_leI (by omega) (by omega)] at q3
        refine m_T_mask [true, true, true, true, true, true, false] ?_
        exact yes (by omega)
  refine m_T_un 40 (fun y pc => (Nat.beq y 79 && Nat.beq pc 18) || Nat.beq y 73 || Nat.beq y 78) ?_
  refine s_trn hT (L i) (hLN i hi) rfl ?_
  refine s_p1 hT i hi ?_
  exact key m 0 (by omega)
theorem s_mah (hT : q_T σ D N m w a d L K R H) (i : Nat) (hi : i < m) (hq : Q (0, [], [vI (nI (q_ah w L K R (L i) i m))], σ)) : m_T E 65535 (r + 2) 113 (0, [some (vR 6 0), some (vI (nI (L i))), none, none, none, none], [], σ) Q := by
  have h60 : m ≤ 60 := Nat.le_trans hT.1.2.2.2.2.2.2.2.2.2.1 hT.1.2.2.2.2.2.2.2.1
  have hm : σ.1 13 3 8 = nI m := hT.1.2.2.2.2.2.2.2.2.1
  have hLN : ∀ t, t < m → L t < N := fun t ht => (hT.1.2.2.2.2.2.2.2.2.2.2.1 t ht).2
  have i8 : vp_in ((Int8.ofInt 8).toInt32) 309 := k_in (k := 8) (n := 309) (by decide) (by decide)
  have tb : ∀ t, t < m → q_tn w (K (L t)) (R (L t)) ≤ 9 := fun t ht => by
    have b1 := (hT.1.2.2.2.2.2.2.2.2.2.2.2.2 (L t) (hLN t ht)).2.2.2.2.1
    have o4 : q_ord (K (L t)) ≤ 4 := by
      unfold q_ord
      cases Nat.beq (K (L t)) 3 <;> cases Nat.beq (K (L t)) 1 <;> cases Nat.beq (K (L t)) 2 <;> cases Nat.beq (K (L t)) 5 <;> decide
    unfold q_tn
    cases Nat.beq w 0 <;> cases Nat.beq w 1 <;> simp only [cond_true, cond_false] <;> omega
  have key : ∀ n t, t + n = m → m_T E 65535 (r + 2) 113 (11, [some (vR 6 0), some (vI (nI (L i))), some (vI (nI i)), some (vI (nI (q_ah w L K R (L i) i t))), some (vI (nI t)), none], [], σ) Q := by
    intro n
    induction n with
    | zero =>
      intro t ht
      refine m_T_un 40 (fun y pc => (Nat.beq y 113 && Nat.beq pc 11) || Nat.beq y 115) ?_
      refine ⟨i8, fun _ => ?_, fun q => ?_⟩
      · obtain rfl : t = m := by omega
        exact hq
      · have q : ¬ σ.1 13 3 8 ≤ nI t := q
        rw [hm] at q
        exact absurd (nI_le (show m ≤ t by omega) (by omega)) q
    | succ n ih =>
      intro t ht
      have hl : σ.1 13 3 (9 + t) = nI (L t) := (hT.1.2.2.2.2.2.2.2.2.2.2.1 t (by omega)).1
      have t1 := tb t (by omega)
      have t2 := tb i hi
      have hv : vp_in ((Int8.ofInt 9).toInt32 + nI t) 309 := by rw [k_9]; exact k_in (by omega) (by decide)
      have hx : σ.1 13 3 ((Int8.ofInt 9).toInt32 + nI t).toNatClampNeg = nI (L t) := by rw [k_9, k_cl (by omega)]; exact hl
      refine m_T_un 60 (fun y pc => (Nat.beq y 113 && Nat.beq pc 11) || Nat.beq y 115) ?_
      refine ⟨i8, fun q => ?_, fun _ => ⟨hv, ?_⟩⟩
      · have q : σ.1 13 3 8 ≤ nI t := q
        rw [hm] at q
        exact absurd q (nI_ge (show t < m by omega) (by omega))
      have e := ih (t + 1) (by omega)
      rw [nI_succ t] at e
      have yes : (q_tn w (K (L t)) (R (L t)) < q_tn w (K (L i)) (R (L i)) ∨ (q_tn w (K (L t)) (R (L t)) = q_tn w (K (L i)) (R (L i)) ∧ t < i)) → m_T E 65535 (r + 2) 113 (11, [some (vR 6 0), some (vI (nI (L i))), some (vI (nI i)), some (vI (nI (q_ah w L K R (L i) i t) + Int32.ofInt 1)), some (vI (nI t + 1)), none], [], σ) Q := fun h => by
        rw [show Int32.ofInt 1 = nI 1 from rfl, nI_add, ← show q_ah w L K R (L i) i (t + 1) = q_ah w L K R (L i) i t + 1 from if_pos h]
        exact e
      have no : ¬ (q_tn w (K (L t)) (R (L t)) < q_tn w (K (L i)) (R (L i)) ∨ (q_tn w (K (L t)) (R (L t)) = q_tn w (K (L i)) (R (L i)) ∧ t < i)) → m_T E 65535 (r + 2) 113 (11, [some (vR 6 0), some (vI (nI (L i))), some (vI (nI i)), some (vI (nI (q_ah w L K R (L i) i t) + Int32.ofInt 0)), some (vI (nI t + 1)), none], [], σ) Q := fun h => by
        rw [show Int32.ofInt 0 = nI 0 from rfl, nI_add, Nat.add_zero, ← show q_ah w L K R (L i) i (t + 1) = q_ah w L K R (L i) i t from if_neg h]
        exact e
      refine s_wt hT (L t) (hLN t (by omega)) hx ?_
      refine s_wt hT (L i) (hLN i hi) rfl ⟨fun q => ?_, fun q => ?_⟩
      · have q : nI (q_tn w (K (L t)) (R (L t))) < nI (q_tn w (K (L i)) (R (L i))) := q
        rw [nI_ltI (by omega) (by omega)] at q
        refine m_T_mask [true, true, true, true, true, false] ?_
        exact yes (Or.inl (by omega))
      · have q : ¬ nI (q_tn w (K (L t)) (R (L t))) < nI (q_tn w (K (L i)) (R (L i))) := q
        rw [nI_ltI (by omega) (by omega)] at q
        refine s_wt hT (L i) (hLN i hi) rfl ⟨fun q2 => ?_, fun q2 => ⟨fun q3 => ?_, fun q3 => ?_⟩⟩
        · have q2 : ¬ nI (q_tn w (K (L t)) (R (L t))) = nI (q_tn w (K (L i)) (R (L i))) := q2
          rw [nI_eq (by omega) (by omega)] at q2
          refine m_T_mask [true, true, true, true, true, false] ?_
          exact no (by omega)
        · have q3 : nI i ≤ nI t := q3
          rw [nI_leI (by omega) (by omega)] at q3
          refine m_T_mask [true, true, true, true, true, false] ?_
          exact no (by omega)
        · have q2 : nI (q_tn w (K (L t)) (R (L t))) = nI (q_tn w (K (L i)) (R (L i))) := q2
          rw [nI_eq (by omega) (by omega)] at q2
          have q3 : ¬ nI i ≤ nI t := q3
          rw [nI_leI (by omega) (by omega)] at q3
          refine m_T_mask [true, true, true, true, true, false] ?_
          exact yes (by omega)
  refine m_T_un 40 (fun y pc => (Nat.beq y 113 && Nat.beq pc 11) || Nat.beq y 114) ?_
  refine s_mp1 hT i hi ?_
  exact key m 0 (by omega)
end Ahead
