/-! pair out -/
def k_xs (σ : m_M) (s t : Nat) : Nat := (σ.1 12 (20 + s) t).toNatClampNeg
theorem k_xsb {σ : m_M} {s n : Nat} (h : q_btw σ s n 20) (t : Nat) (ht : t < n) : σ.1 12 (20 + s) t = nI (k_xs σ s t) ∧ k_xs σ s t ≤ 20 := by
  obtain ⟨j, hj, e⟩ := k_of (x := σ.1 12 (20 + s) t) (n := 21) (h t ht).1 (by have := (h t ht).2; omega)
  have e2 : k_xs σ s t = j := by unfold k_xs; rw [e, k_cl (by omega)]
  rw [e2]
  exact ⟨e, by omega⟩
def k_oc : Nat → Nat → Bool := fun y _ => Nat.beq y 1 || Nat.beq y 77 || Nat.beq y 2 || Nat.beq y 54 || Nat.beq y 55 || Nat.beq y 80 || Nat.beq y 19 || Nat.beq y 167 || Nat.beq y 18
def k_om : Nat → Nat → Bool := fun y _ => Nat.beq y 124 || Nat.beq y 86 || Nat.beq y 87 || Nat.beq y 128 || Nat.beq y 129 || Nat.beq y 130 || Nat.beq y 133
theorem p_out {E : m_E} {D : Nat} {σ : m_M} (hD : D < 512) (hs : q_sim D σ) (a : Int32) (b : Int32) (c : Int32) : q_pair E D 16 127 [vI a, vI b, vI c] σ := by
  have hs1 : q_sim (D + 1) σ := q_sim_more (Nat.le_succ D) hs
  have hs2 : q_sim (D + 1) (m_up σ 6 0 0 (Int32.ofInt 0)) := z_thr hs1
  obtain ⟨N, m, w, c', d, L, K, R, H, hw, hc⟩ := q_town0 hs.2.2.2.2.2.1
  have hT : q_T σ D N m w c' d L K R H := ⟨hw, hc⟩
  have hT2 : q_T (m_up σ 6 0 0 (Int32.ofInt 0)) D N m w c' d L K R H := ⟨hw, hc⟩
  have hT3 : q_T (m_up (m_up (m_up σ 6 0 0 (Int32.ofInt 0)) 6 0 1 (Int32.ofInt 0)) 6 0 1 (Int32.ofInt 0)) D N m w c' d L K R H := ⟨hw, hc⟩
  refine m_T_un 60 k_oc ?_
  by_cases hin : ∃ i, i < m ∧ nI (L i) = a
  · obtain ⟨i, hi, rfl⟩ := hin
    by_cases hr : 0 ≤ b.toInt ∧ b.toInt < (8 : Nat)
    · obtain ⟨s, hs8, rfl⟩ := k_of hr.1 hr.2
      refine s_rowAt1 s hs8 rfl ?_
      refine s_isIn1 hT i hi ⟨fun q => absurd q k_no1, fun _ => ?_⟩
      by_cases hn : 1 ≤ c.toInt ∧ c.toInt ≤ 20
      · obtain ⟨n, hn21, rfl⟩ := k_of (x := c) (n := 21) (by omega) (by omega)
        have n1 : 1 ≤ n := by have := hn.1; rw [k_nI (by omega)] at this; omega
        refine s_outA0 1 20 k_1 (k_nI (n := 20) (by decide)) hn.1 hn.2 ⟨fun _ => ?_, fun q => absurd rfl q⟩
        have mo : ∀ (τ : m_M) (Q : m_F → Prop), q_T (m_up τ 6 0 0 (Int32.ofInt 0)) D N m w c' d L K R H → m_T E 65535 19 127 (35, [some (vR 6 0), some (vI (nI (L i))), some (vI (nI s)), some (vI (nI n)), none], [], m_up τ 6 0 0 (Int32.ofInt 0)) Q → m_T E 65535 19 127 (0, m_entry 127 [vR 6 0, vI (nI (L i)), vI (nI s), vI (nI n)], [], τ) Q := fun τ Q h hh => by
          refine m_T_un 60 (fun y pc => k_om y pc || (Nat.beq y 127 && Nat.beq pc 35)) ?_
          refine s_isH1 h i hi ⟨fun q => absurd q k_no1, fun _ => ?_⟩
          refine s_isRow1 hr.1 (by omega) ⟨fun q => absurd q k_no1, fun _ => ?_⟩
          exact s_inA1 1 20 k_L1 k_l20 hn.1 hn.2 ⟨fun _ => hh, fun q => absurd q k_no1⟩
        by_cases hl : q_lack σ s (nI n) = 0
        · have hl2 : q_lack σ s (nI n) ≤ 0 := by rw [hl]; decide
          by_cases hb : q_btw σ s n 20
          · refine s_rf1 (hi := 20) hs8 (by omega) (by decide) rfl hl hb ⟨fun _ => ?_, fun q => absurd rfl q⟩
            refine s_dayOut hT i hi hs8 (by omega) (fun t ht => k_xsb hb t ht) ?_
            refine ⟨_, rfl, mo _ _ ⟨hw, hc⟩ (m_T_un 60 k_om ?_)⟩
            refine s_mlk hs8 (hs1.1 s hs8) ⟨fun _ => ?_, fun q => absurd hl2 q⟩
            refine s_cmg hs8 (by omega) (hs1.1 s hs8) (fun z hz => ?_)
            have hz : z = true ↔ q_btw σ s n 20 := hz
            rw [hz.mpr hb]
            refine ⟨fun _ => ?_, fun q => absurd q (by decide)⟩
            refine s_outBy (x := k_xs σ s) ⟨hw, hc⟩ i hi hs8 (by omega) (by omega) (fun t ht => ?_) rfl (by rw [show (Int8.ofInt 40).toInt32 = nI 40 from rfl, pk_mul]) ⟨rfl, z_nof hs1⟩
            obtain ⟨_, -, -, -, -, f⟩ := hs1.1 s hs8
            show σ.1 13 2 (40 * s + t) = nI (k_xs σ s t) ∧ k_xs σ s t ≤ 20
            rw [← f t (by omega)]
            exact k_xsb hb t ht
          · refine s_rf0 (hi := 20) hs8 (by omega) (by decide) rfl hl hb ⟨fun q => absurd q k_noB, fun _ => ?_⟩
            refine ⟨_, rfl, mo _ _ hT2 (m_T_un 60 k_om ?_)⟩
            refine s_mlk hs8 (hs1.1 s hs8) ⟨fun _ => ?_, fun q => absurd hl2 q⟩
            refine s_cmg hs8 (by omega) (hs1.1 s hs8) (fun z hz => ?_)
            have hz : z = true ↔ q_btw σ s n 20 := hz
            cases z with
            | true => exact absurd (hz.mp rfl) hb
            | false => exact ⟨fun q => absurd rfl q, fun _ => ⟨rfl, hs2⟩⟩
        · have hl2 : ¬ q_lack σ s (nI n) ≤ 0 := by
            unfold q_lack at hl ⊢
            by_cases g1 : σ.1 3 s 1 = 0
            · rw [if_pos g1]; decide
            · rw [if_neg g1] at hl ⊢
              by_cases g2 : nI n ≤ σ.1 3 s 3
              · rw [if_pos g2] at hl
                exact absurd rfl hl
              · rw [if_neg g2]; decide
          refine s_rfl hl ⟨fun q => absurd q (k_fnd hl), fun _ => ⟨_, rfl, mo _ _ ⟨hw, hc⟩ (m_T_un 60 k_om ?_)⟩⟩
          exact s_mlk hs8 (hs1.1 s hs8) ⟨fun q => absurd q hl2, fun _ => ⟨rfl, z_nof hs1⟩⟩
      · refine s_outA1 1 20 k_1 (k_nI (n := 20) (by decide)) (by omega) ⟨fun q => absurd q k_no1, fun _ => ⟨_, rfl, ?_⟩⟩
        refine m_T_un 60 k_om ?_
        refine s_isH1 hT2 i hi ⟨fun q => absurd q k_no1, fun _ => ?_⟩
        refine s_isRow1 hr.1 (by omega) ⟨fun q => absurd q k_no1, fun _ => ?_⟩
        exact s_inA0 1 20 k_L1 k_l20 (by omega) ⟨fun q => absurd rfl q, fun _ => ⟨rfl, hs2⟩⟩
    · refine s_rowAt0 (k_not hr) ?_
      refine s_isIn1 hT i hi ⟨fun q => absurd q k_no1, fun _ => ⟨_, rfl, ?_⟩⟩
      refine m_T_un 60 k_om ?_
      refine s_isH1 hT2 i hi ⟨fun q => absurd q k_no1, fun _ => ?_⟩
      exact s_isRow0 (k_not hr) ⟨fun _ => ⟨rfl, hs2⟩, fun q => absurd rfl q⟩
  · have hx : ∀ i, i < m → ¬ nI (L i) = a := fun i h q => hin ⟨i, h, q⟩
    have mo : m_T E 65535 19 127 (0, m_entry 127 [vR 6 0, vI a, vI b, vI c], [], σ) (fun g => g.2.2.1 = [vI (m_nth m_kI 1 0)] ∧ q_sim (D + 1) g.2.2.2) := by
      refine m_T_un 60 k_om ?_
      exact s_isH0 hT2 hx ⟨fun _ => ⟨rfl, hs2⟩, fun q => absurd rfl q⟩
    by_cases hr : 0 ≤ b.toInt ∧ b.toInt < (8 : Nat)
    · obtain ⟨s, hs8, rfl⟩ := k_of hr.1 hr.2
      refine s_rowAt1 s hs8 rfl ?_
      exact s_isIn0 hT hx ⟨fun _ => ⟨_, rfl, mo⟩, fun q => absurd rfl q⟩
    · refine s_rowAt0 (k_not hr) ?_
      exact s_isIn0 hT hx ⟨fun _ => ⟨_, rfl, mo⟩, fun q => absurd rfl q⟩
