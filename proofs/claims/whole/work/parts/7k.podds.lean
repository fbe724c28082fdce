/-! pair odds -/
theorem q_T_eq {σ τ : m_M} {D N m w a d : Nat} {L K R H : Nat → Nat} (h13 : τ.1 13 3 = σ.1 13 3) (h5 : τ.1 5 0 = σ.1 5 0) (h12 : ∀ v, v < 5 → τ.1 12 v = σ.1 12 v) (h : q_T σ D N m w a d L K R H) : q_T τ D N m w a d L K R H := by
  obtain ⟨h1, c1, c2, c3⟩ := h
  refine ⟨by rw [h13]; exact h1, ?_, ?_, ?_⟩
  · rw [h5, h13]
    exact c1
  · rw [show 5 * 0 + 4 = 4 from rfl, h12 4 (by omega), h13]
    exact c2
  · rw [show 5 * 0 = 0 from rfl, h12 0 (by omega), show 0 + 1 = 1 from rfl, show 0 + 2 = 2 from rfl, show 0 + 3 = 3 from rfl, h12 1 (by omega), h12 2 (by omega), h12 3 (by omega), h13]
    exact c3
section MOl
variable {E : m_E} {r : Nat} {τ : m_M} {Q : m_F → Prop} {D N m w a d : Nat} {L K R H : Nat → Nat} {W : Nat → Nat} {wh x2 x3 x4 x6 : Int32}
theorem s_mol (hT : q_T τ D N m w a d L K R H) (i : Nat) (hi : i < m) (hW : ∀ k, k < 161 → τ.2 k = lN (W k)) (h1 : 1 ≤ q_sm W 161) (h2 : q_sm W 161 < 2 ^ 31) (hq : Q (0, [], [vI (nI ((if wh = 0 then q_sm (w_g W (q_ah w L K R (L i) i m) a) 161 else q_sm W 161) / Nat.gcd (q_sm (w_g W (q_ah w L K R (L i) i m) a) 161) (q_sm W 161)))], τ)) : ∀ j k, k + j = 161 → m_T E 65535 (r + 3) 134 (148, [some (vR 6 0), some (vI (nI (L i))), some (vI x2), some (vI x3), some (vI x4), some (vI wh), some (vI x6), some (vL (lN (q_sm W k))), none, some (vL (lN (q_sm (w_g W (q_ah w L K R (L i) i m) a) k))), none, some (vI (nI k))], [], τ) Q := by
  have h60 : m ≤ 60 := Nat.le_trans hT.1.2.2.2.2.2.2.2.2.2.1 hT.1.2.2.2.2.2.2.2.1
  have hA : q_ah w L K R (L i) i m ≤ m := q_ah_le m
  have hc : τ.1 13 3 3 = nI a := hT.1.2.2.1
  have ha := hT.1.2.2.2.1
  have i3 : vp_in (Int32.ofInt 3) 309 := k_in (k := 3) (n := 309) (by decide) (by decide)
  intro j
  induction j with
  | zero =>
    intro k hk
    obtain rfl : k = 161 := by omega
    refine m_T_un 60 (fun y pc => (Nat.beq y 134 && (Nat.beq pc 148)) || Nat.beq y 113 || Nat.beq y 136) ?_
    refine ⟨fun _ => ?_, fun q => absurd (nI_lt (show 160 < 161 by omega) (by omega)) q⟩
    have hg := w_gle (W := W) (A := q_ah w L K R (L i) i m) (a := a) 161
    refine s_prt (by omega) h1 h2 rfl rfl ?_
    rw [← lN_i] at hq
    exact hq
  | succ j ih =>
    intro k hk
    have e := ih (k + 1) (by omega)
    rw [nI_succ k, show q_sm W (k + 1) = q_sm W k + W k from rfl, show q_sm (w_g W (q_ah w L K R (L i) i m) a) (k + 1) = q_sm (w_g W (q_ah w L K R (L i) i m) a) k + w_g W (q_ah w L K R (L i) i m) a k from rfl, ← lN_add, ← lN_add] at e
    have hv : vp_in (nI k) 161 := k_in (by omega) (by decide)
    have e2 : (nI k).toNatClampNeg = k := k_cl (by omega)
    have hw : τ.2 (nI k).toNatClampNeg = lN (W k) := by rw [e2]; exact hW k (by omega)
    refine m_T_un 60 (fun y pc => (Nat.beq y 134 && (Nat.beq pc 148)) || Nat.beq y 113 || Nat.beq y 136) ?_
    refine ⟨fun q => absurd q (nI_nlt (show k ≤ 160 by omega) (by omega)), fun _ => ⟨hv, ?_⟩⟩
    refine s_mah hT i hi ⟨i3, fun q => ?_, fun q => ⟨hv, ?_⟩⟩
    · have q : τ.1 13 3 3 + nI k ≤ nI (q_ah w L K R (L i) i m) := q
      rw [hc, nI_add, nI_leI (by omega) (by omega)] at q
      rw [show w_g W (q_ah w L K R (L i) i m) a k = 0 from if_neg (by omega), ← hw] at e
      exact e
    · have q : ¬ τ.1 13 3 3 + nI k ≤ nI (q_ah w L K R (L i) i m) := q
      rw [hc, nI_add, nI_leI (by omega) (by omega)] at q
      rw [show w_g W (q_ah w L K R (L i) i m) a k = W k from if_pos (by omega), ← hw] at e
      exact e
end MOl
theorem q_od_eq {wh : Int32} {A a n : Nat} {z : Bool} {lo hi : Nat → Nat} (hn : 1 ≤ n ∧ n ≤ 8) (hlh : q_lh lo hi n) : nI ((if wh = 0 then q_sm (w_g (w_W lo hi (cond z 0 (n - 1))) A a) 161 else q_sm (w_W lo hi (cond z 0 (n - 1))) 161) / Nat.gcd (q_sm (w_g (w_W lo hi (cond z 0 (n - 1))) A a) 161) (q_sm (w_W lo hi (cond z 0 (n - 1))) 161)) = q_od wh A a z (w_W lo hi (n - 1)) := by
  have hp := q_lh_p hlh hn.2
  have ht := q_lh_t hlh hn.2
  have h0 : q_sm (w_W lo hi 0) 161 = 1 := w_tot 0 (fun t ht => absurd ht (by omega)) 161 (show 0 < 161 by omega)
  unfold q_od
  by_cases g : A < a
  · rw [if_pos g, w_gt g, ite_self, Nat.gcd_self, Nat.div_self]
    cases z
    · show 0 < q_sm (w_W lo hi (n - 1)) 161
      omega
    · show 0 < q_sm (w_W lo hi 0) 161
      omega
  · rw [if_neg g]
    cases z with
    | false => exact (if_neg Bool.false_ne_true).symm
    | true =>
      rw [if_pos rfl]
      show nI ((if wh = 0 then q_sm (w_g (w_W lo hi 0) A a) 161 else q_sm (w_W lo hi 0) 161) / Nat.gcd (q_sm (w_g (w_W lo hi 0) A a) 161) (q_sm (w_W lo hi 0) 161)) = _
      have e0 : q_sm (w_g (w_W lo hi 0) A a) 161 = 0 := by
        rw [q_sm_ex (g := fun _ => 0) (fun k => by
          show (if A < a + k then w_W lo hi 0 k else 0) = 0
          by_cases k0 : k = 0
          · rw [if_neg (by omega)]
          · rw [show w_W lo hi 0 k = 0 from if_neg k0, ite_self]) 161]
        exact q_sm_0 161
      rw [h0, e0]
      by_cases g2 : wh = 0
      · rw [if_pos g2, if_pos g2]
        exact congrArg nI (by decide)
      · rw [if_neg g2, if_neg g2]
        exact congrArg nI (by decide)
theorem q_sp9_lh {σ : m_M} {s s' n : Nat} (h : q_sp9 σ s s' n) : q_lh (k_xs σ s) (k_xs σ s') n := by
  intro t ht
  obtain ⟨x1, x2⟩ := k_xsb h.1 t ht
  obtain ⟨y1, y2⟩ := k_xsb h.2.1 t ht
  have e := h.2.2 t ht
  rw [x1, y1, pk_sub_toInt (by omega) (by omega)] at e
  omega
def k_dc : Nat → Nat → Bool := fun y _ => Nat.beq y 1 || Nat.beq y 77 || Nat.beq y 2 || Nat.beq y 54 || Nat.beq y 19 || Nat.beq y 21 || Nat.beq y 18
def k_dm : Nat → Nat → Bool := fun y pc => Nat.beq y 124 || Nat.beq y 86 || Nat.beq y 87 || Nat.beq y 128 || Nat.beq y 133 || Nat.beq y 131 || Nat.beq y 135 || (Nat.beq y 134 && Nat.beq pc 148)
theorem p_odds {E : m_E} {D : Nat} {σ : m_M} (hD : D < 512) (hs : q_sim D σ) (a : Int32) (b : Int32) (c : Int32) (d : Int32) (e : Int32) : q_pair E D 20 134 [vI a, vI b, vI c, vI d, vI e] σ := by
  have hs1 : q_sim (D + 1) σ := q_sim_more (Nat.le_succ D) hs
  have hs2 : q_sim (D + 1) (m_up σ 6 0 0 (Int32.ofInt 0)) := z_thr hs1
  obtain ⟨N, m, w, c', d', L, K, R, H, hw, hc⟩ := q_town0 hs.2.2.2.2.2.1
  have hT : q_T σ D N m w c' d' L K R H := ⟨hw, hc⟩
  have hT2 : q_T (m_up σ 6 0 0 (Int32.ofInt 0)) D N m w c' d' L K R H := ⟨hw, hc⟩
  refine m_T_un 90 k_dc ?_
  by_cases hin : ∃ i, i < m ∧ nI (L i) = a
  · obtain ⟨i, hi, rfl⟩ := hin
    have hLi := (hw.2.2.2.2.2.2.2.2.2.2.1 i hi).2
    by_cases hr : 0 ≤ b.toInt ∧ b.toInt < (8 : Nat)
    · by_cases hr' : 0 ≤ c.toInt ∧ c.toInt < (8 : Nat)
      · obtain ⟨s, hs8, rfl⟩ := k_of hr.1 hr.2
        obtain ⟨s', hs8', rfl⟩ := k_of hr'.1 hr'.2
        refine s_rowAt1 s hs8 rfl ?_
        refine s_rowAt1 s' hs8' rfl ?_
        refine s_isIn1 hT i hi ⟨fun q => absurd q k_no1, fun _ => ?_⟩
        have pre : ∀ (τ : m_M) (d e : Int32) (Q : m_F → Prop), q_T (m_up τ 6 0 0 (Int32.ofInt 0)) D N m w c' d' L K R H → m_T E 65535 19 134 (27, [some (vR 6 0), some (vI (nI (L i))), some (vI (nI s)), some (vI (nI s')), some (vI d), some (vI e), none, none, none, none, none, none], [], m_up τ 6 0 0 (Int32.ofInt 0)) Q → m_T E 65535 19 134 (0, m_entry 134 [vR 6 0, vI (nI (L i)), vI (nI s), vI (nI s'), vI d, vI e], [], τ) Q := fun τ d e Q h hh => by
          refine m_T_un 60 (fun y pc => k_dm y pc || (Nat.beq y 134 && Nat.beq pc 27)) ?_
          refine s_isH1 h i hi ⟨fun q => absurd q k_no1, fun _ => ?_⟩
          refine s_isRow1 hr.1 (by omega) ⟨fun q => absurd q k_no1, fun _ => ?_⟩
          exact s_isRow1 hr'.1 (by omega) ⟨fun q => absurd q k_no1, fun _ => hh⟩
        by_cases hn : 1 ≤ d.toInt ∧ d.toInt ≤ 8
        · obtain ⟨n, hn21, rfl⟩ := k_of (x := d) (n := 9) (by omega) (by omega)
          have n1 : 1 ≤ n := by have := hn.1; rw [k_nI (by omega)] at this; omega
          refine s_outA0 1 8 k_1 k_8 hn.1 hn.2 ⟨fun q => absurd rfl q, fun _ => ?_⟩
          by_cases he : 0 ≤ e.toInt ∧ e.toInt ≤ 1
          · refine s_outA0 0 1 k_0 k_1 he.1 he.2 ⟨fun _ => ?_, fun q => absurd rfl q⟩
            have mo : ∀ (τ : m_M) (Q : m_F → Prop), q_T (m_up τ 6 0 0 (Int32.ofInt 0)) D N m w c' d' L K R H → m_T E 65535 19 134 (54, [some (vR 6 0), some (vI (nI (L i))), some (vI (nI s)), some (vI (nI s')), some (vI (nI n)), some (vI e), none, none, none, none, none, none], [], m_up τ 6 0 0 (Int32.ofInt 0)) Q → m_T E 65535 19 134 (0, m_entry 134 [vR 6 0, vI (nI (L i)), vI (nI s), vI (nI s'), vI (nI n), vI e], [], τ) Q := fun τ Q h hh => by
              refine pre τ (nI n) e Q h (m_T_un 60 (fun y pc => k_dm y pc || (Nat.beq y 134 && Nat.beq pc 54)) ?_)
              refine s_inA1 1 8 k_L1 k_l8 hn.1 hn.2 ⟨fun q => absurd q k_no1, fun _ => ?_⟩
              exact s_inA1 0 1 k_L0 k_L1 he.1 he.2 ⟨fun _ => hh, fun q => absurd q k_no1⟩
            by_cases hl : q_lack σ s (nI n) = 0
            · by_cases hl' : q_lack σ s' (nI n) = 0
              · refine s_srz9 hs8 hs8' (by omega) hl hl' (fun z hz => ?_)
                cases z with
                | true =>
                  have hsp := hz.mp rfl
                  have hlh := q_sp9_lh hsp
                  have hpp := q_lh_p hlh (by omega)
                  have htt := q_lh_t hlh (by omega)
                  refine ⟨fun _ => ?_, fun q => absurd rfl q⟩
                  refine s_cfr (lo := k_xs σ s) (hi := k_xs σ s') hT i hi hs8 hs8' n1 (by omega) hlh (fun t ht => ⟨(k_xsb hsp.1 t ht).1, (k_xsb hsp.2.1 t ht).1⟩) (fun τ hτ => ?_)
                  have hμ : ∀ c v, ¬ (c = 12 ∧ v = 30) → ¬ c = 0 → ¬ c = 6 → (m_up (m_up τ 0 0 8 (Int32.ofInt 0)) 6 0 0 (Int32.ofInt 0)).1 c v = σ.1 c v := fun c v h1 h2 h3 => by
                    rw [m_up_other (by omega), m_up_other (by omega), hτ c v h1]
                  have hTμ : q_T (m_up (m_up τ 0 0 8 (Int32.ofInt 0)) 6 0 0 (Int32.ofInt 0)) D N m w c' d' L K R H := q_T_eq (hμ 13 3 (by omega) (by omega) (by omega)) (hμ 5 0 (by omega) (by omega) (by omega)) (fun v hv => hμ 12 v (by omega) (by omega) (by omega)) hT
                  have rw8 : ∀ u, u < 8 → q_row (m_up (m_up τ 0 0 8 (Int32.ofInt 0)) 6 0 0 (Int32.ofInt 0)) u := fun u hu => q_row_eq (hμ _ _ (by omega) (by omega) (by omega)) (hμ _ _ (by omega) (by omega) (by omega)) (hμ _ _ (by omega) (by omega) (by omega)) (hμ _ _ (by omega) (by omega) (by omega)) (hμ _ _ (by omega) (by omega) (by omega)) (hs1.1 u hu)
                  have lkμ : ∀ u, q_lack (m_up (m_up τ 0 0 8 (Int32.ofInt 0)) 6 0 0 (Int32.ofInt 0)) u (nI n) = q_lack σ u (nI n) := fun u => by
                    unfold q_lack
                    rw [hμ 3 u (by omega) (by omega) (by omega)]
                  have spμ : q_sp9 (m_up (m_up τ 0 0 8 (Int32.ofInt 0)) 6 0 0 (Int32.ofInt 0)) s s' n := by
                    unfold q_sp9 q_btw q_di9
                    rw [hμ 12 (20 + s) (by omega) (by omega) (by omega), hμ 12 (20 + s') (by omega) (by omega) (by omega)]
                    exact hsp
                  refine ⟨_, rfl, mo _ _ hTμ (m_T_un 60 k_dm ?_)⟩
                  refine s_mlk hs8 (rw8 s hs8) ⟨fun _ => ?_, fun q => absurd (q_lk_0 ((lkμ s).trans hl)) q⟩
                  refine s_mlk hs8' (rw8 s' hs8') ⟨fun _ => ?_, fun q => absurd (q_lk_0 ((lkμ s').trans hl')) q⟩
                  refine s_msp9 hs8 hs8' (by omega) (rw8 s hs8) (rw8 s' hs8') (fun z hz => ?_)
                  rw [hz.mpr spμ]
                  refine ⟨fun _ => ?_, fun q => absurd q (by decide)⟩
                  have hTν : q_T (m_up (m_up (m_up τ 0 0 8 (Int32.ofInt 0)) 6 0 0 (Int32.ofInt 0)) 6 0 1 (Int32.ofInt 0)) D N m w c' d' L K R H := q_T_eq (m_up_other (by omega)) (m_up_other (by omega)) (fun v hv => m_up_other (by omega)) hTμ
                  have item : ∀ t, t < n → (m_up (m_up (m_up τ 0 0 8 (Int32.ofInt 0)) 6 0 0 (Int32.ofInt 0)) 6 0 1 (Int32.ofInt 0)).1 13 2 (40 * s + t) = nI (k_xs σ s t) ∧ (m_up (m_up (m_up τ 0 0 8 (Int32.ofInt 0)) 6 0 0 (Int32.ofInt 0)) 6 0 1 (Int32.ofInt 0)).1 13 2 (40 * s' + t) = nI (k_xs σ s' t) := fun t ht => by
                    rw [m_up_other (by omega), hμ 13 2 (by omega) (by omega) (by omega)]
                    obtain ⟨_, -, -, -, -, f⟩ := hs1.1 s hs8
                    obtain ⟨_, -, -, -, -, f'⟩ := hs1.1 s' hs8'
                    rw [← f t (by omega), ← f' t (by omega)]
                    exact ⟨(k_xsb hsp.1 t ht).1, (k_xsb hsp.2.1 t ht).1⟩
                  have last : ∀ τ3 : m_M, τ3.1 = (m_up (m_up (m_up τ 0 0 8 (Int32.ofInt 0)) 6 0 0 (Int32.ofInt 0)) 6 0 1 (Int32.ofInt 0)).1 → q_sim (D + 1) τ3 := fun τ3 h3 => by
                    refine q_sim_st (σ := σ) (fun c v g1 g2 g3 g4 => ?_) ?_ ?_ ?_ ?_ ?_ ?_ hs1
                    · rw [h3, m_up_other (by omega)]
                      exact hμ c v g3 g1 g2
                    · rw [h3, m_up_other (by omega), m_up_other (by omega), m_up_ne (by omega), hτ 0 0 (by omega)]
                    · rw [h3, m_up_other (by omega), m_up_other (by omega), m_up_eq rfl, m_up_eq rfl]
                    · rw [h3, m_up_ne (by omega), m_up_ne (by omega), m_up_other (by omega), hτ 6 0 (by omega)]
                    · rw [h3, m_up_ne (by omega), m_up_ne (by omega), m_up_other (by omega), hτ 6 0 (by omega)]
                    · rw [h3, m_up_ne (by omega), m_up_ne (by omega), m_up_other (by omega), hτ 6 0 (by omega)]
                    · rw [h3, m_up_ne (by omega), m_up_ne (by omega), m_up_other (by omega), hτ 6 0 (by omega)]
                  refine s_mps hTν (L i) hLi rfl rfl ?_
                  have qo := q_od_eq (wh := e) (A := q_ah w L K R (L i) i m) (a := c') (z := q_pass w (K (L i))) (lo := k_xs σ s) (hi := k_xs σ s') ⟨n1, show n ≤ 8 by omega⟩ hlh
                  cases z : q_pass w (K (L i)) with
                  | true =>
                    rw [z] at qo
                    refine ⟨fun q => absurd q k_no1, fun _ => ?_⟩
                    refine s_mlw (n := 0) (lo := k_xs σ s) (hi := k_xs σ s') hs8 hs8' (by omega) (fun t ht => absurd ht (by omega)) (fun t ht => absurd ht (by omega)) rfl rfl rfl (fun τ3 h3 => ?_)
                    have h0 : q_sm (w_W (k_xs σ s) (k_xs σ s') 0) 161 = 1 := w_tot 0 (fun t ht => absurd ht (by omega)) 161 (show 0 < 161 by omega)
                    refine s_mol (W := w_W (k_xs σ s) (k_xs σ s') 0) (D := D) (N := N) (m := m) (w := w) (a := c') (d := d') (L := L) (K := K) (R := R) (H := H) (q_T_eq (by rw [h3.2]) (by rw [h3.2]) (fun v hv => by rw [h3.2]) hTν) i hi h3.1 (by omega) (by omega) ⟨z_v qo, last τ3 h3.2⟩ 161 0 (by omega)
                  | false =>
                    rw [z] at qo
                    refine ⟨fun _ => ?_, fun q => absurd rfl q⟩
                    refine s_mlw (n := n - 1) (lo := k_xs σ s) (hi := k_xs σ s') hs8 hs8' (by omega) (fun t ht => hlh t (by omega)) (fun t ht => item t (by omega)) rfl rfl (pk_sub n1) (fun τ3 h3 => ?_)
                    refine s_mol (W := w_W (k_xs σ s) (k_xs σ s') (n - 1)) (D := D) (N := N) (m := m) (w := w) (a := c') (d := d') (L := L) (K := K) (R := R) (H := H) (q_T_eq (by rw [h3.2]) (by rw [h3.2]) (fun v hv => by rw [h3.2]) hTν) i hi h3.1 (by omega) (by omega) ⟨z_v qo, last τ3 h3.2⟩ 161 0 (by omega)
                | false =>
                  refine ⟨fun q => absurd q k_noB, fun _ => ⟨_, rfl, mo _ _ hT2 (m_T_un 60 k_dm ?_)⟩⟩
                  refine s_mlk hs8 (hs1.1 s hs8) ⟨fun _ => ?_, fun q => absurd (q_lk_0 hl) q⟩
                  refine s_mlk hs8' (hs1.1 s' hs8') ⟨fun _ => ?_, fun q => absurd (q_lk_0 hl') q⟩
                  refine s_msp9 hs8 hs8' (by omega) (hs1.1 s hs8) (hs1.1 s' hs8') (fun z hz2 => ?_)
                  have hz2 : z = true ↔ q_sp9 σ s s' n := hz2
                  cases z with
                  | true => exact absurd (hz.mpr (hz2.mp rfl)) (by decide)
                  | false => exact ⟨fun q => absurd rfl q, fun _ => ⟨rfl, hs2⟩⟩
              · refine s_srm hl hl' ⟨fun q => absurd q (k_fnd hl'), fun _ => ⟨_, rfl, mo _ _ ⟨hw, hc⟩ (m_T_un 60 k_dm ?_)⟩⟩
                refine s_mlk hs8 (hs1.1 s hs8) ⟨fun _ => ?_, fun q => absurd (q_lk_0 hl) q⟩
                exact s_mlk hs8' (hs1.1 s' hs8') ⟨fun q => absurd q (q_lk_le hl'), fun _ => ⟨rfl, z_nof hs1⟩⟩
            · refine s_srl hl ⟨fun q => absurd q (k_fnd hl), fun _ => ⟨_, rfl, mo _ _ ⟨hw, hc⟩ (m_T_un 60 k_dm ?_)⟩⟩
              refine s_mlk hs8 (hs1.1 s hs8) ⟨fun q => absurd q (q_lk_le hl), fun _ => ?_⟩
              exact s_mlk hs8 (hs1.1 s hs8) ⟨fun q => absurd q (q_lk_le hl), fun _ => ⟨rfl, z_nof hs1⟩⟩
          · refine s_outA1 0 1 k_0 k_1 (by omega) ⟨fun q => absurd q k_no1, fun _ => ⟨_, rfl, pre _ _ _ _ hT2 (m_T_un 60 k_dm ?_)⟩⟩
            refine s_inA1 1 8 k_L1 k_l8 hn.1 hn.2 ⟨fun q => absurd q k_no1, fun _ => ?_⟩
            exact s_inA0 0 1 k_L0 k_L1 (by omega) ⟨fun q => absurd rfl q, fun _ => ⟨rfl, hs2⟩⟩
        · refine s_outA1 1 8 k_1 k_8 (by omega) ⟨fun _ => ⟨_, rfl, pre _ _ _ _ hT2 (m_T_un 60 k_dm ?_)⟩, fun q => absurd q k_no1⟩
          exact s_inA0 1 8 k_L1 k_l8 (by omega) ⟨fun _ => ⟨rfl, hs2⟩, fun q => absurd rfl q⟩
      · obtain ⟨s, hs8, rfl⟩ := k_of hr.1 hr.2
        refine s_rowAt1 s hs8 rfl ?_
        refine s_rowAt0 (k_not hr') ?_
        refine s_isIn1 hT i hi ⟨fun q => absurd q k_no1, fun _ => ⟨_, rfl, ?_⟩⟩
        refine m_T_un 60 k_dm ?_
        refine s_isH1 hT2 i hi ⟨fun q => absurd q k_no1, fun _ => ?_⟩
        refine s_isRow1 hr.1 (by omega) ⟨fun q => absurd q k_no1, fun _ => ?_⟩
        exact s_isRow0 (k_not hr') ⟨fun _ => ⟨rfl, hs2⟩, fun q => absurd rfl q⟩
    · refine s_rowAt0 (k_not hr) ?_
      have mo : m_T E 65535 19 134 (0, m_entry 134 [vR 6 0, vI (nI (L i)), vI b, vI c, vI d, vI e], [], σ) (fun g => g.2.2.1 = [vI (m_nth m_kI 1 0)] ∧ q_sim (D + 1) g.2.2.2) := by
        refine m_T_un 60 k_dm ?_
        refine s_isH1 hT2 i hi ⟨fun q => absurd q k_no1, fun _ => ?_⟩
        exact s_isRow0 (k_not hr) ⟨fun _ => ⟨rfl, hs2⟩, fun q => absurd rfl q⟩
      refine s_ra (fun s => ?_) ?_
      · exact s_isIn1 hT i hi ⟨fun q => absurd q k_no1, fun _ => ⟨_, rfl, mo⟩⟩
      · exact s_isIn1 hT i hi ⟨fun q => absurd q k_no1, fun _ => ⟨_, rfl, mo⟩⟩
  · have hx : ∀ i, i < m → ¬ nI (L i) = a := fun i h q => hin ⟨i, h, q⟩
    have mo : m_T E 65535 19 134 (0, m_entry 134 [vR 6 0, vI a, vI b, vI c, vI d, vI e], [], σ) (fun g => g.2.2.1 = [vI (m_nth m_kI 1 0)] ∧ q_sim (D + 1) g.2.2.2) := by
      refine m_T_un 60 k_dm ?_
      exact s_isH0 hT2 hx ⟨fun _ => ⟨rfl, hs2⟩, fun q => absurd rfl q⟩
    refine s_ra (fun s => ?_) ?_
    · refine s_ra (fun s' => ?_) ?_
      · exact s_isIn0 hT hx ⟨fun _ => ⟨_, rfl, mo⟩, fun q => absurd rfl q⟩
      · exact s_isIn0 hT hx ⟨fun _ => ⟨_, rfl, mo⟩, fun q => absurd rfl q⟩
    · refine s_ra (fun s' => ?_) ?_
      · exact s_isIn0 hT hx ⟨fun _ => ⟨_, rfl, mo⟩, fun q => absurd rfl q⟩
      · exact s_isIn0 hT hx ⟨fun _ => ⟨_, rfl, mo⟩, fun q => absurd rfl q⟩
