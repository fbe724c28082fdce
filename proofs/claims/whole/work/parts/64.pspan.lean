/-! pair span -/
theorem q_lk_le {σ : m_M} {s : Nat} {n : Int32} : ¬ q_lack σ s n = 0 → ¬ q_lack σ s n ≤ 0 := fun hl => by
  unfold q_lack at hl ⊢
  by_cases g1 : σ.1 3 s 1 = 0
  · rw [if_pos g1]; decide
  · rw [if_neg g1] at hl ⊢
    by_cases g2 : n ≤ σ.1 3 s 3
    · rw [if_pos g2] at hl
      exact absurd rfl hl
    · rw [if_neg g2]; decide
theorem q_lk_0 {σ : m_M} {s : Nat} {n : Int32} (h : q_lack σ s n = 0) : q_lack σ s n ≤ 0 := by rw [h]; decide
theorem s_ra {E : m_E} {r : Nat} {σ : m_M} {Q : m_F → Prop} {x : Int32} (h1 : ∀ s, Q (0, [], [vR 3 s], σ)) (h0 : Q (0, [], [vN], σ)) : m_T E 65535 r 1 (0, [some (vR 0 0), some (vI x)], [], σ) Q := by
  by_cases hr : 0 ≤ x.toInt ∧ x.toInt < (8 : Nat)
  · obtain ⟨s, hs, rfl⟩ := k_of hr.1 hr.2
    exact s_rowAt1 s hs rfl (h1 s)
  · exact s_rowAt0 (k_not hr) h0
theorem p_span {E : m_E} {D : Nat} {σ : m_M} (hD : D < 512) (hs : q_sim D σ) (a : Int32) (b : Int32) (c : Int32) (d : Int32) (e : Int32) : q_pair E D 17 132 [vI a, vI b, vI c, vI d, vI e] σ := by
  have hs1 : q_sim (D + 1) σ := q_sim_more (Nat.le_succ D) hs
  have hs2 : q_sim (D + 1) (m_up σ 6 0 0 (Int32.ofInt 0)) := z_thr hs1
  obtain ⟨N, m, w, c', d', L, K, R, H, hw, hc⟩ := q_town0 hs.2.2.2.2.2.1
  have hT : q_T σ D N m w c' d' L K R H := ⟨hw, hc⟩
  have hT2 : q_T (m_up σ 6 0 0 (Int32.ofInt 0)) D N m w c' d' L K R H := ⟨hw, hc⟩
  refine m_T_un 90 k_oc ?_
  by_cases hin : ∃ i, i < m ∧ nI (L i) = a
  · obtain ⟨i, hi, rfl⟩ := hin
    by_cases hr : 0 ≤ b.toInt ∧ b.toInt < (8 : Nat)
    · by_cases hr' : 0 ≤ c.toInt ∧ c.toInt < (8 : Nat)
      · obtain ⟨s, hs8, rfl⟩ := k_of hr.1 hr.2
        obtain ⟨s', hs8', rfl⟩ := k_of hr'.1 hr'.2
        refine s_rowAt1 s hs8 rfl ?_
        refine s_rowAt1 s' hs8' rfl ?_
        refine s_isIn1 hT i hi ⟨fun q => absurd q k_no1, fun _ => ?_⟩
        have pre : ∀ (τ : m_M) (d e : Int32) (Q : m_F → Prop), q_T (m_up τ 6 0 0 (Int32.ofInt 0)) D N m w c' d' L K R H → m_T E 65535 19 132 (27, [some (vR 6 0), some (vI (nI (L i))), some (vI (nI s)), some (vI (nI s')), some (vI d), some (vI e), none], [], m_up τ 6 0 0 (Int32.ofInt 0)) Q → m_T E 65535 19 132 (0, m_entry 132 [vR 6 0, vI (nI (L i)), vI (nI s), vI (nI s'), vI d, vI e], [], τ) Q := fun τ d e Q h hh => by
          refine m_T_un 60 (fun y pc => k_om y pc || (Nat.beq y 132 && Nat.beq pc 27)) ?_
          refine s_isH1 h i hi ⟨fun q => absurd q k_no1, fun _ => ?_⟩
          refine s_isRow1 hr.1 (by omega) ⟨fun q => absurd q k_no1, fun _ => ?_⟩
          exact s_isRow1 hr'.1 (by omega) ⟨fun q => absurd q k_no1, fun _ => hh⟩
        by_cases hn : 1 ≤ d.toInt ∧ d.toInt ≤ 20
        · obtain ⟨n, hn21, rfl⟩ := k_of (x := d) (n := 21) (by omega) (by omega)
          have n1 : 1 ≤ n := by have := hn.1; rw [k_nI (by omega)] at this; omega
          refine s_outA0 1 20 k_1 (k_nI (n := 20) (by decide)) hn.1 hn.2 ⟨fun q => absurd rfl q, fun _ => ?_⟩
          by_cases he : 0 ≤ e.toInt ∧ e.toInt ≤ 1
          · refine s_outA0 0 1 k_0 k_1 he.1 he.2 ⟨fun _ => ?_, fun q => absurd rfl q⟩
            have mo : ∀ (τ : m_M) (Q : m_F → Prop), q_T (m_up τ 6 0 0 (Int32.ofInt 0)) D N m w c' d' L K R H → m_T E 65535 19 132 (54, [some (vR 6 0), some (vI (nI (L i))), some (vI (nI s)), some (vI (nI s')), some (vI (nI n)), some (vI e), none], [], m_up τ 6 0 0 (Int32.ofInt 0)) Q → m_T E 65535 19 132 (0, m_entry 132 [vR 6 0, vI (nI (L i)), vI (nI s), vI (nI s'), vI (nI n), vI e], [], τ) Q := fun τ Q h hh => by
              refine pre τ (nI n) e Q h (m_T_un 60 (fun y pc => k_om y pc || (Nat.beq y 132 && Nat.beq pc 54)) ?_)
              refine s_inA1 1 20 k_L1 k_l20 hn.1 hn.2 ⟨fun q => absurd q k_no1, fun _ => ?_⟩
              exact s_inA1 0 1 k_L0 k_L1 he.1 he.2 ⟨fun _ => hh, fun q => absurd q k_no1⟩
            by_cases hl : q_lack σ s (nI n) = 0
            · by_cases hl' : q_lack σ s' (nI n) = 0
              · refine s_srz hs8 hs8' (by omega) hl hl' (fun z hz => ?_)
                cases z with
                | true =>
                  have hsp := hz.mp rfl
                  have it : ∀ u, u < 8 → q_btw σ u n 20 → ∀ t, t < n → σ.1 13 2 (40 * u + t) = nI (k_xs σ u t) ∧ k_xs σ u t ≤ 20 := fun u hu hb t ht => by
                    obtain ⟨_, -, -, -, -, f⟩ := hs1.1 u hu
                    rw [← f t (by omega)]
                    exact k_xsb hb t ht
                  have e40 : ∀ u, (Int8.ofInt 40).toInt32 * nI u = nI (40 * u) := fun u => by rw [show (Int8.ofInt 40).toInt32 = nI 40 from rfl, pk_mul]
                  refine ⟨fun _ => ⟨fun h0 => ?_, fun h0 => ?_⟩, fun q => absurd rfl q⟩
                  · refine s_dayOut hT i hi hs8 (by omega) (fun t ht => k_xsb hsp.1 t ht) ?_
                    refine ⟨_, rfl, mo _ _ ⟨hw, hc⟩ (m_T_un 60 k_om ?_)⟩
                    refine s_mlk hs8 (hs1.1 s hs8) ⟨fun _ => ?_, fun q => absurd (q_lk_0 hl) q⟩
                    refine s_mlk hs8' (hs1.1 s' hs8') ⟨fun _ => ?_, fun q => absurd (q_lk_0 hl') q⟩
                    refine s_msp hs8 hs8' (by omega) (hs1.1 s hs8) (hs1.1 s' hs8') (fun z hz => ?_)
                    have hz : z = true ↔ q_spn σ s s' n := hz
                    rw [hz.mpr hsp]
                    refine ⟨fun _ => ⟨fun _ => ?_, fun q => absurd q h0⟩, fun q => absurd q (by decide)⟩
                    exact s_outBy (x := k_xs σ s) (s := s) ⟨hw, hc⟩ i hi hs8 (by omega) (by omega) (fun t ht => it s hs8 hsp.1 t ht) rfl (e40 s) ⟨rfl, z_nof hs1⟩
                  · refine s_dayOut hT i hi hs8' (by omega) (fun t ht => k_xsb hsp.2.1 t ht) ?_
                    refine ⟨_, rfl, mo _ _ ⟨hw, hc⟩ (m_T_un 60 k_om ?_)⟩
                    refine s_mlk hs8 (hs1.1 s hs8) ⟨fun _ => ?_, fun q => absurd (q_lk_0 hl) q⟩
                    refine s_mlk hs8' (hs1.1 s' hs8') ⟨fun _ => ?_, fun q => absurd (q_lk_0 hl') q⟩
                    refine s_msp hs8 hs8' (by omega) (hs1.1 s hs8) (hs1.1 s' hs8') (fun z hz => ?_)
                    have hz : z = true ↔ q_spn σ s s' n := hz
                    rw [hz.mpr hsp]
                    refine ⟨fun _ => ⟨fun q => absurd h0 q, fun _ => ?_⟩, fun q => absurd q (by decide)⟩
                    exact s_outBy (x := k_xs σ s') (s := s') ⟨hw, hc⟩ i hi hs8' (by omega) (by omega) (fun t ht => it s' hs8' hsp.2.1 t ht) rfl (e40 s') ⟨rfl, z_nof hs1⟩
                | false =>
                  refine ⟨fun q => absurd q k_noB, fun _ => ⟨_, rfl, mo _ _ hT2 (m_T_un 60 k_om ?_)⟩⟩
                  refine s_mlk hs8 (hs1.1 s hs8) ⟨fun _ => ?_, fun q => absurd (q_lk_0 hl) q⟩
                  refine s_mlk hs8' (hs1.1 s' hs8') ⟨fun _ => ?_, fun q => absurd (q_lk_0 hl') q⟩
                  refine s_msp hs8 hs8' (by omega) (hs1.1 s hs8) (hs1.1 s' hs8') (fun z hz2 => ?_)
                  have hz2 : z = true ↔ q_spn σ s s' n := hz2
                  cases z with
                  | true => exact absurd (hz.mpr (hz2.mp rfl)) (by decide)
                  | false => exact ⟨fun q => absurd rfl q, fun _ => ⟨rfl, hs2⟩⟩
              · refine s_srm hl hl' ⟨fun q => absurd q (k_fnd hl'), fun _ => ⟨_, rfl, mo _ _ ⟨hw, hc⟩ (m_T_un 60 k_om ?_)⟩⟩
                refine s_mlk hs8 (hs1.1 s hs8) ⟨fun _ => ?_, fun q => absurd (q_lk_0 hl) q⟩
                exact s_mlk hs8' (hs1.1 s' hs8') ⟨fun q => absurd q (q_lk_le hl'), fun _ => ⟨rfl, z_nof hs1⟩⟩
            · refine s_srl hl ⟨fun q => absurd q (k_fnd hl), fun _ => ⟨_, rfl, mo _ _ ⟨hw, hc⟩ (m_T_un 60 k_om ?_)⟩⟩
              refine s_mlk hs8 (hs1.1 s hs8) ⟨fun q => absurd q (q_lk_le hl), fun _ => ?_⟩
              exact s_mlk hs8 (hs1.1 s hs8) ⟨fun q => absurd q (q_lk_le hl), fun _ => ⟨rfl, z_nof hs1⟩⟩
          · refine s_outA1 0 1 k_0 k_1 (by omega) ⟨fun q => absurd q k_no1, fun _ => ⟨_, rfl, pre _ _ _ _ hT2 (m_T_un 60 k_om ?_)⟩⟩
            refine s_inA1 1 20 k_L1 k_l20 hn.1 hn.2 ⟨fun q => absurd q k_no1, fun _ => ?_⟩
            exact s_inA0 0 1 k_L0 k_L1 (by omega) ⟨fun q => absurd rfl q, fun _ => ⟨rfl, hs2⟩⟩
        · refine s_outA1 1 20 k_1 (k_nI (n := 20) (by decide)) (by omega) ⟨fun _ => ⟨_, rfl, pre _ _ _ _ hT2 (m_T_un 60 k_om ?_)⟩, fun q => absurd q k_no1⟩
          exact s_inA0 1 20 k_L1 k_l20 (by omega) ⟨fun _ => ⟨rfl, hs2⟩, fun q => absurd rfl q⟩
      · obtain ⟨s, hs8, rfl⟩ := k_of hr.1 hr.2
        refine s_rowAt1 s hs8 rfl ?_
        refine s_rowAt0 (k_not hr') ?_
        refine s_isIn1 hT i hi ⟨fun q => absurd q k_no1, fun _ => ⟨_, rfl, ?_⟩⟩
        refine m_T_un 60 k_om ?_
        refine s_isH1 hT2 i hi ⟨fun q => absurd q k_no1, fun _ => ?_⟩
        refine s_isRow1 hr.1 (by omega) ⟨fun q => absurd q k_no1, fun _ => ?_⟩
        exact s_isRow0 (k_not hr') ⟨fun _ => ⟨rfl, hs2⟩, fun q => absurd rfl q⟩
    · refine s_rowAt0 (k_not hr) ?_
      have mo : m_T E 65535 19 132 (0, m_entry 132 [vR 6 0, vI (nI (L i)), vI b, vI c, vI d, vI e], [], σ) (fun g => g.2.2.1 = [vI (m_nth m_kI 1 0)] ∧ q_sim (D + 1) g.2.2.2) := by
        refine m_T_un 60 k_om ?_
        refine s_isH1 hT2 i hi ⟨fun q => absurd q k_no1, fun _ => ?_⟩
        exact s_isRow0 (k_not hr) ⟨fun _ => ⟨rfl, hs2⟩, fun q => absurd rfl q⟩
      refine s_ra (fun s => ?_) ?_
      · exact s_isIn1 hT i hi ⟨fun q => absurd q k_no1, fun _ => ⟨_, rfl, mo⟩⟩
      · exact s_isIn1 hT i hi ⟨fun q => absurd q k_no1, fun _ => ⟨_, rfl, mo⟩⟩
  · have hx : ∀ i, i < m → ¬ nI (L i) = a := fun i h q => hin ⟨i, h, q⟩
    have mo : m_T E 65535 19 132 (0, m_entry 132 [vR 6 0, vI a, vI b, vI c, vI d, vI e], [], σ) (fun g => g.2.2.1 = [vI (m_nth m_kI 1 0)] ∧ q_sim (D + 1) g.2.2.2) := by
      refine m_T_un 60 k_om ?_
      exact s_isH0 hT2 hx ⟨fun _ => ⟨rfl, hs2⟩, fun q => absurd rfl q⟩
    refine s_ra (fun s => ?_) ?_
    · refine s_ra (fun s' => ?_) ?_
      · exact s_isIn0 hT hx ⟨fun _ => ⟨_, rfl, mo⟩, fun q => absurd rfl q⟩
      · exact s_isIn0 hT hx ⟨fun _ => ⟨_, rfl, mo⟩, fun q => absurd rfl q⟩
    · refine s_ra (fun s' => ?_) ?_
      · exact s_isIn0 hT hx ⟨fun _ => ⟨_, rfl, mo⟩, fun q => absurd rfl q⟩
      · exact s_isIn0 hT hx ⟨fun _ => ⟨_, rfl, mo⟩, fun q => absurd rfl q⟩
