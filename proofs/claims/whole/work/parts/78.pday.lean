/-! pair day -/
section Day
variable {E : m_E} {r : Nat} {σ : m_M} {Q : m_F → Prop} {D N m w a d n h G : Nat} {L K R H : Nat → Nat}
theorem s_cday (hT : q_T σ D N m w a d L K R H) (hd : d < 600) (hh : h ≤ n) (hn : n ≤ 20) (hN : N + n ≤ 60) (hG : G = if m < a then m else a) (hq : ∀ ρ, e_C σ ρ N (m - G) n h (d + 1) (q_LL (q_tu w K R) G m L) (q_GG (q_tu w K R) G m L) → Q (0, [], [vI (nI G)], ρ)) : m_T E 65535 (r + 3) 71 (0, [some (vR 5 0), some (vI (nI n)), some (vI (nI h)), none, none], [], σ) Q := by
  obtain ⟨⟨w0, w1, w2, w3, w4, w5, w6, w7, w8, w9, wa, wb, wc⟩, c1, c2, c3⟩ := hT
  have hGm : G ≤ m := by
    rw [hG]
    split <;> omega
  have k1 : σ.1 5 0 1 = nI w := (c1 0 (by omega)).trans w0
  have k4 : σ.1 5 0 4 = nI a := (c1 3 (by omega)).trans w2
  have k5 : σ.1 5 0 5 = nI d := (c1 4 (by omega)).trans w4
  have k8 : σ.1 5 0 8 = nI N := (c1 7 (by omega)).trans w6
  have k9 : σ.1 5 0 9 = nI m := (c1 8 (by omega)).trans w8
  have cw : q_cw (m_up σ 5 0 5 (nI (d + 1))) w N m L K R := ⟨(m_up_ne (by omega)).trans k1, w1, (m_up_ne (by omega)).trans k9, w9, w7, fun i hi => ⟨by rw [m_up_other (by omega)]; exact (c2 i hi).trans (wa i hi).1, (wa i hi).2⟩, fun p hp => by
    obtain ⟨x1, x2, x3, x4, x5, -⟩ := wc p hp
    obtain ⟨y1, y2, -⟩ := c3 p hp
    rw [m_up_other (by omega), m_up_other (by omega)]
    exact ⟨y1.trans x1, x2, x3, y2.trans x4, x5⟩⟩
  have go : ∀ x y : Int32, x = nI G → y = nI (d + 1) → m_T E 65535 (r + 3) 71 (25, [some (vR 5 0), some (vI (nI n)), some (vI (nI h)), some (vI x), some (vI (nI 0))], [], m_up σ 5 0 5 y) Q := fun x y hx hy => by
    subst hx
    subst hy
    refine s_cgo (x := nI (d + 1)) (G := G) (by omega) G 0 m L (m_up σ 5 0 5 (nI (d + 1))) (Nat.zero_add G) hGm cw (m_up_eq rfl) (fun τ1 hC => ?_)
    refine m_T_un 20 (fun y pc => Nat.beq y 71 && Nat.beq pc 52) ?_
    have i8 : τ1.1 5 0 8 = nI N := by rw [hC.2.2.2.1 8 (by omega), m_up_ne (by omega)]; exact k8
    refine s_cjo (N := N) (m := m - G) (τ := τ1) hh hn hN (by omega) (fun τ2 hJ => ?_) n 0 τ1 (by omega) ⟨i8, hC.1, fun _ _ _ => rfl, fun _ _ => ⟨rfl, rfl, rfl, rfl⟩, fun u hu => absurd hu (by omega), fun _ _ => rfl, fun u hu => absurd hu (by omega), fun _ _ _ _ => rfl⟩
    have old : ∀ j, ¬ j = 8 → ¬ j = 9 → ¬ j = 5 → τ2.1 5 0 j = σ.1 5 0 j := fun j h8 h9 h5 => by
      rw [hJ.2.2.1 j h8 h9, hC.2.2.2.1 j h9, m_up_ne h5]
    refine m_T_un 90 m_no ?_
    refine ⟨fun q => ?_, fun q => ?_⟩
    · have q : τ2.1 5 0 2 < τ2.1 5 0 9 := q
      rw [hJ.2.1, old 2 (by omega) (by omega) (by omega)] at q
      have q : ¬ nI (m - G + n) ≤ σ.1 5 0 2 := Int32.not_le.mpr q
      refine hq (m_up (m_up (m_up τ2 5 0 6 (τ2.1 5 0 6 + τ2.1 5 0 3 * nI h)) 5 0 7 (τ2.1 5 0 7 + Int32.ofInt 1)) 5 0 4 (nI n)) (z_cday (x2 := σ.1 5 0 2) (x7 := σ.1 5 0 7 + Int32.ofInt 1) hC hJ (fun j => ?_) (fun c v h => ?_) ?_ ?_)
      · rw [old 6 (by omega) (by omega) (by omega), old 3 (by omega) (by omega) (by omega), old 7 (by omega) (by omega) (by omega)]
        by_cases g4 : j = 4
        · rw [if_pos g4, m_up_eq g4]
        · rw [if_neg g4, m_up_ne g4]
          by_cases g2 : j = 2
          · rw [if_pos g2, m_up_ne (by omega), m_up_ne (by omega), g2]
            exact old 2 (by omega) (by omega) (by omega)
          · rw [if_neg g2]
            by_cases g7 : j = 7
            · rw [if_pos g7, m_up_eq g7]
            · rw [if_neg g7, m_up_ne g7]
              by_cases g6 : j = 6
              · rw [if_pos g6, m_up_eq g6]
              · rw [if_neg g6, m_up_ne g6]
      · rw [m_up_other h, m_up_other h, m_up_other h]
      · rw [if_neg q]
      · rw [if_neg q]
    · have q : ¬ τ2.1 5 0 2 < τ2.1 5 0 9 := q
      rw [hJ.2.1, old 2 (by omega) (by omega) (by omega)] at q
      have q : nI (m - G + n) ≤ σ.1 5 0 2 := Int32.not_lt.mp q
      refine hq (m_up (m_up (m_up τ2 5 0 6 (τ2.1 5 0 6 + τ2.1 5 0 3 * nI h)) 5 0 2 (τ2.1 5 0 2 - τ2.1 5 0 9)) 5 0 4 (nI n)) (z_cday (x2 := σ.1 5 0 2 - nI (m - G + n)) (x7 := σ.1 5 0 7) hC hJ (fun j => ?_) (fun c v h => ?_) ?_ ?_)
      · rw [old 6 (by omega) (by omega) (by omega), old 3 (by omega) (by omega) (by omega), old 2 (by omega) (by omega) (by omega), hJ.2.1]
        by_cases g4 : j = 4
        · rw [if_pos g4, m_up_eq g4]
        · rw [if_neg g4, m_up_ne g4]
          by_cases g2 : j = 2
          · rw [if_pos g2, m_up_eq g2]
          · rw [if_neg g2, m_up_ne g2]
            by_cases g7 : j = 7
            · rw [if_pos g7, m_up_ne (by omega), g7]
              exact old 7 (by omega) (by omega) (by omega)
            · rw [if_neg g7]
              by_cases g6 : j = 6
              · rw [if_pos g6, m_up_eq g6]
              · rw [if_neg g6, m_up_ne g6]
      · rw [m_up_other h, m_up_other h, m_up_other h]
      · rw [if_pos q]
      · rw [if_pos q]
  refine m_T_un 40 (fun y pc => Nat.beq y 71 && Nat.beq pc 25) ?_
  refine go _ _ ?_ ?_
  · show (if σ.1 5 0 9 < σ.1 5 0 4 then σ.1 5 0 9 else σ.1 5 0 4) = nI G
    rw [k4, k9, hG]
    by_cases g : m < a
    · rw [if_pos g, if_pos ((nI_ltI (by omega) (by omega)).mpr g)]
    · rw [if_neg g, if_neg (fun q => g ((nI_ltI (by omega) (by omega)).mp q))]
  · show σ.1 5 0 5 + nI 1 = nI (d + 1)
    rw [k5, nI_add]
theorem s_mday {μ : m_M} (hw : q_wf (μ.1 13 3) D N m w a d L K R H) (hd : d + 1 ≤ D) (hh : h ≤ n) (hn : n ≤ 20) (hN : N + n ≤ 60) (hG : G = if m < a then m else a) (hq : ∀ ρ, e_M μ ρ D N (m - G) w a n h (d + 1) (q_LL (q_tu w K R) G m L) K R H (q_GG (q_tu w K R) G m L) → Q (0, [], [vI (nI G)], ρ)) : m_T E 65535 (r + 4) 111 (58, [some (vR 6 0), some (vI (nI n)), some (vI (nI h)), none, none, none], [], μ) Q := by
  obtain ⟨w0, w1, w2, w3, w4, w5, w6, w7, w8, w9, wa, wb, wc⟩ := hw
  have i1 : vp_in (Int32.ofInt 1) 309 := k_in (k := 1) (n := 309) (by decide) (by decide)
  have i2 : vp_in (Int32.ofInt 2) 309 := k_in (k := 2) (n := 309) (by decide) (by decide)
  have i3 : vp_in (Int32.ofInt 3) 309 := k_in (k := 3) (n := 309) (by decide) (by decide)
  have i4 : vp_in (Int32.ofInt 4) 309 := k_in (k := 4) (n := 309) (by decide) (by decide)
  have i5 : vp_in (Int32.ofInt 5) 309 := k_in (k := 5) (n := 309) (by decide) (by decide)
  have i6 : vp_in ((Int8.ofInt 6).toInt32) 309 := k_in (k := 6) (n := 309) (by decide) (by decide)
  have i8 : vp_in ((Int8.ofInt 8).toInt32) 309 := k_in (k := 8) (n := 309) (by decide) (by decide)
  have hGm : G ≤ m ∧ G ≤ a ∧ (G = a ∨ G = m) := by
    rw [hG]
    split <;> omega
  have lo : ∀ j, ¬ j = 4 → (m_up μ 13 3 4 (nI (d + 1))).1 13 3 j = μ.1 13 3 j := fun j hj => m_up_ne hj
  have mw : q_wf ((m_up μ 13 3 4 (nI (d + 1))).1 13 3) D N m w a (d + 1) L K R H := by
    refine ⟨(lo 0 (by omega)).trans w0, w1, (lo 3 (by omega)).trans w2, w3, m_up_eq rfl, hd, (lo 7 (by omega)).trans w6, w7, (lo 8 (by omega)).trans w8, w9, fun i hi => ⟨(lo _ (by omega)).trans (wa i hi).1, (wa i hi).2⟩, wb, fun p hp => ?_⟩
    obtain ⟨x1, x2, x3, x4, x5, x6, x7, x8⟩ := wc p hp
    exact ⟨(lo _ (by omega)).trans x1, x2, x3, (lo _ (by omega)).trans x4, x5, (lo _ (by omega)).trans x6, x7, fun q => (lo _ (by omega)).trans (x8 q)⟩
  have go : ∀ y : Int32, y = nI (d + 1) → m_T E 65535 (r + 4) 111 (70, [some (vR 6 0), some (vI (nI n)), some (vI (nI h)), some (vI (nI 0)), none, none], [], m_up μ 13 3 4 y) Q := fun y hy => by
    subst hy
    refine s_mgo (G := G) hGm.2.1 G 0 m L (m_up μ 13 3 4 (nI (d + 1))) (Nat.zero_add G) hGm.1 hGm.2.2 mw (fun μ1 hM => ?_)
    refine m_T_un 20 (fun y pc => Nat.beq y 111 && Nat.beq pc 131) ?_
    refine s_mjo (N := N) (m := m - G) (μ := μ1) hh hn hN (by omega) (fun μ2 hJ => ?_) n 0 μ1 (by omega) ⟨hM.1.2.2.2.2.2.2.1, hM.1.2.2.2.2.2.2.2.2.1, fun _ _ => rfl, fun _ _ => rfl, fun u hu => absurd hu (by omega), fun _ _ _ _ => rfl, fun u hu => absurd hu (by omega), fun _ _ _ => rfl⟩
    have old : ∀ j, j < 7 → ¬ j = 4 → μ2.1 13 3 j = μ.1 13 3 j := fun j h7 h4 => by
      rw [hJ.2.2.1 j h7, hM.2.2.1 j (by omega), m_up_ne h4]
    refine m_T_un 120 m_no ?_
    refine ⟨i5, i2, i5, i1, i8, fun q => ⟨i1, fun _ => ⟨i1, i6, fun _ => ⟨i6, i3, ?_⟩, fun z => absurd rfl z⟩, fun z => absurd rfl z⟩, fun q => ⟨i1, fun z => absurd z k_no1, fun _ => ⟨i8, i1, i6, fun z => absurd z k_no1, fun _ => ⟨i6, i3, ?_⟩⟩⟩⟩
    · have q : μ2.1 13 3 1 < μ2.1 13 3 8 := q
      rw [hJ.2.1, old 1 (by omega) (by omega)] at q
      have q : ¬ nI (m - G + n) ≤ μ.1 13 3 1 := Int32.not_le.mpr q
      refine hq (m_up (m_up (m_up (m_up μ2 13 3 5 (μ2.1 13 3 5 + nI h * μ2.1 13 3 2)) 13 3 1 (μ2.1 13 3 1 - Int32.ofInt 0)) 13 3 6 (μ2.1 13 3 6 + Int32.ofInt 1)) 13 3 3 (nI n)) (z_mday (x1 := μ.1 13 3 1 - Int32.ofInt 0) (x6 := μ.1 13 3 6 + Int32.ofInt 1) hM hJ (fun j => ?_) (fun c v h => ?_) ?_ ?_)
      · rw [old 5 (by omega) (by omega), old 2 (by omega) (by omega), old 1 (by omega) (by omega), old 6 (by omega) (by omega)]
        simp only [m_up, true_and]
      · rw [m_up_other h, m_up_other h, m_up_other h, m_up_other h]
      · rw [if_neg q]
        exact Int32.sub_zero _
      · rw [if_neg q]
    · have q : ¬ μ2.1 13 3 1 < μ2.1 13 3 8 := q
      rw [hJ.2.1, old 1 (by omega) (by omega)] at q
      have q : nI (m - G + n) ≤ μ.1 13 3 1 := Int32.not_lt.mp q
      refine hq (m_up (m_up (m_up (m_up μ2 13 3 5 (μ2.1 13 3 5 + nI h * μ2.1 13 3 2)) 13 3 1 (μ2.1 13 3 1 - μ2.1 13 3 8)) 13 3 6 (μ2.1 13 3 6 + Int32.ofInt 0)) 13 3 3 (nI n)) (z_mday (x1 := μ.1 13 3 1 - nI (m - G + n)) (x6 := μ.1 13 3 6 + Int32.ofInt 0) hM hJ (fun j => ?_) (fun c v h => ?_) ?_ ?_)
      · rw [old 5 (by omega) (by omega), old 2 (by omega) (by omega), old 1 (by omega) (by omega), old 6 (by omega) (by omega), hJ.2.1]
        simp only [m_up, true_and]
      · rw [m_up_other h, m_up_other h, m_up_other h, m_up_other h]
      · rw [if_pos q]
      · rw [if_pos q]
        exact Int32.add_zero _
  refine m_T_un 40 (fun y pc => Nat.beq y 111 && Nat.beq pc 70) ?_
  refine ⟨i4, i4, go _ ?_⟩
  show μ.1 13 3 4 + nI 1 = nI (d + 1)
  rw [show μ.1 13 3 4 = nI d from w4, nI_add]
end Day
theorem k_20b : ((Int8.ofInt 20).toInt32).toInt = 20 := by decide
theorem k_60b : ((Int8.ofInt 60).toInt32) = nI 60 := rfl
theorem p_day {E : m_E} {D : Nat} {σ : m_M} (hD : D < 512) (hs : q_sim D σ) (a : Int32) (b : Int32) : q_pair E D 11 111 [vI a, vI b] σ := by
  have hs1 : q_sim (D + 1) σ := q_sim_more (Nat.le_succ D) hs
  have hs2 : q_sim (D + 1) (m_up σ 6 0 0 (Int32.ofInt 0)) := z_thr hs1
  obtain ⟨N, m, w, c', d', L, K, R, H, hw, hc⟩ := q_town0 hs.2.2.2.2.2.1
  have hT : q_T σ D N m w c' d' L K R H := ⟨hw, hc⟩
  obtain ⟨⟨w0, w1, w2, w3, w4, w5, w6, w7, w8, w9, wa, wb, wc⟩, c1, c2, c3⟩ := hT
  have hT : q_T σ D N m w c' d' L K R H := ⟨hw, hc⟩
  have hN : σ.1 5 0 8 = nI N := (c1 7 (by omega)).trans w6
  have w6 : σ.1 13 3 7 = nI N := w6
  have i7 : vp_in ((Int8.ofInt 7).toInt32) 309 := k_in (k := 7) (n := 309) (by decide) (by decide)
  have st := hs1.2.2.2.2.1
  refine m_T_un 60 (fun y _ => Nat.beq y 2 || Nat.beq y 71) ?_
  refine ⟨fun g => ?_, fun g => ⟨_, rfl, ?_⟩⟩
  · have g : ¬ σ.1 5 0 0 = 0 := g
    have g' : ¬ σ.1 6 0 7 = 0 := by rw [← st.1]; exact g
    by_cases hn : 0 ≤ a.toInt ∧ a.toInt ≤ 20
    · refine s_outA0 0 20 k_0 k_20b hn.1 hn.2 ⟨fun q => absurd rfl q, fun _ => ?_⟩
      obtain ⟨n, hn21, rfl⟩ := k_of (x := a) (n := 21) (by omega) (by omega)
      by_cases hh : 0 ≤ b.toInt ∧ b.toInt ≤ n
      · refine s_outA0 0 n k_0 (k_nI (by omega)) hh.1 hh.2 ⟨fun _ => ?_, fun q => absurd rfl q⟩
        obtain ⟨h, hhn, rfl⟩ := k_of (x := b) (n := n + 1) (by omega) (by omega)
        by_cases h60 : N + n ≤ 60
        · refine ⟨fun _ => ?_, fun q => ?_⟩
          · refine s_cday (n := n) (h := h) (G := if m < c' then m else c') hT (by omega) (by omega) (by omega) h60 rfl (fun ρ hC => ⟨_, rfl, ?_⟩)
            obtain ⟨⟨k0, k1, k3, k4, k5, k6, k8, k9⟩, ⟨k2, k7⟩, kq, ku, kl, kl2, ko⟩ := hC
            have t13 : (m_up ρ 6 0 0 (Int32.ofInt 0)).1 13 3 = σ.1 13 3 := by rw [m_up_other (by omega), ko 13 3 (by omega) (by omega)]
            have th : ρ.1 6 0 7 = σ.1 6 0 7 := by rw [ko 6 0 (by omega) (by omega)]
            have t7 : ρ.1 13 3 7 = nI N := by rw [ko 13 3 (by omega) (by omega)]; exact w6
            refine m_T_un 60 (fun y pc => Nat.beq y 87 || (Nat.beq y 111 && Nat.beq pc 58)) ?_
            refine ⟨fun _ => ?_, fun q => absurd (th.symm.trans q) g'⟩
            refine s_inA1 0 20 k_L0 k_l20 hn.1 hn.2 ⟨fun q => absurd q k_no1, fun _ => ?_⟩
            refine s_inA1 0 n k_L0 (by rw [Int32.toInt_toInt64]; exact k_nI (by omega)) hh.1 hh.2 ⟨fun _ => ⟨i7, fun _ => ?_, fun q => ?_⟩, fun q => absurd q k_no1⟩
            · refine s_mday (D := D + 1) (N := N) (m := m) (w := w) (a := c') (d := d') (L := L) (K := K) (R := R) (H := H) (G := if m < c' then m else c') (by rw [t13]; exact ⟨w0, w1, w2, w3, w4, by omega, w6, w7, w8, w9, wa, wb, wc⟩) (by omega) (by omega) (by omega) h60 rfl (fun ρ' hM => ⟨rfl, ?_⟩)
              obtain ⟨μ1, M, went, ⟨m0, m2, m3, m4, m5, m7, m8⟩, ⟨m1, m6⟩, ml, ml2, mq, mu, mo⟩ := hM
              rw [t13] at went m2 m5 m1 m6
              have ro : ∀ c v, ¬ (c = 13 ∧ v = 3) → ¬ c = 6 → ¬ (c = 5 ∧ v = 0) → ¬ (c = 12 ∧ v < 5) → ρ'.1 c v = σ.1 c v := fun c v h1 h2 h3 h4 => by
                rw [mo c v h1, m_up_other (by omega), ko c v h3 h4]
              have r5 : ρ'.1 5 0 = ρ.1 5 0 := by rw [mo 5 0 (by omega), m_up_other (by omega)]
              have r12 : ∀ v, ρ'.1 12 v = ρ.1 12 v := fun v => by rw [mo 12 v (by omega), m_up_other (by omega)]
              have r6 : ∀ j, ¬ j = 0 → ρ'.1 6 0 j = σ.1 6 0 j := fun j hj => by rw [mo 6 0 (by omega), m_up_ne hj, ko 6 0 (by omega) (by omega)]
              refine q_sim_town (σ := σ) (fun c v g1 g2 g3 g4 g5 g6 => ro c v g5 g2 g1 g3) (by rw [r5]; exact k0) (r6 1 (by omega)) (r6 7 (by omega)) (r6 9 (by omega)) (r6 10 (by omega)) (r6 22 (by omega)) (q_town_of (z_day (σ := σ) (μ := μ1) (n := n) (h := h) hT M (by omega) h60 (by omega) went (fun j hj => ?_) (fun q hq => ?_) (fun u hu => ?_) (fun i hi => ?_) (fun u hu => ?_) m0 m3 (m4.trans M.2.2.2.2.1.symm) m7 m8 ml ml2 mq mu)) hs1
              · rw [r5]
                have b2 : σ.1 5 0 2 = σ.1 13 3 1 := c1 1 (by omega)
                have b3 : σ.1 5 0 3 = σ.1 13 3 2 := c1 2 (by omega)
                have b6 : σ.1 5 0 6 = σ.1 13 3 5 := c1 5 (by omega)
                have b7 : σ.1 5 0 7 = σ.1 13 3 6 := c1 6 (by omega)
                obtain rfl | rfl | rfl | rfl | rfl | rfl | rfl | rfl | rfl : j = 0 ∨ j = 1 ∨ j = 2 ∨ j = 3 ∨ j = 4 ∨ j = 5 ∨ j = 6 ∨ j = 7 ∨ j = 8 := by omega
                · exact k1.trans (((c1 0 (by omega)).trans w0).trans (m0.trans M.1).symm)
                · exact k2.trans (by rw [b2]; exact m1.symm)
                · exact k3.trans (b3.trans m2.symm)
                · exact k4.trans m3.symm
                · exact k5.trans m4.symm
                · exact k6.trans (by rw [b6, b3, Int32.mul_comm]; exact m5.symm)
                · exact k7.trans (by rw [b2, b7]; exact m6.symm)
                · exact k8.trans m7.symm
                · exact k9.trans m8.symm
              · rw [r12, r12, r12, r12]
                exact kq q hq
              · rw [r12, r12, r12, r12]
                exact ku u hu
              · rw [r12]
                exact kl i hi
              · rw [r12]
                exact kl2 u hu
            · have q : ¬ ρ.1 13 3 7 + nI n ≤ nI 60 := q
              rw [t7, nI_add] at q
              exact absurd (nI_le h60 (by omega)) q
          · have q : ¬ σ.1 5 0 8 + nI n ≤ nI 60 := q
            rw [hN, nI_add] at q
            exact absurd (nI_le h60 (by omega)) q
        · refine ⟨fun q => ?_, fun _ => ⟨_, rfl, ?_⟩⟩
          · have q : σ.1 5 0 8 + nI n ≤ nI 60 := q
            rw [hN, nI_add] at q
            exact absurd q (nI_ge (by omega) (by omega))
          · refine m_T_un 60 (fun y pc => Nat.beq y 87 || (Nat.beq y 111 && Nat.beq pc 58)) ?_
            refine ⟨fun _ => ?_, fun q => absurd q g'⟩
            refine s_inA1 0 20 k_L0 k_l20 hn.1 hn.2 ⟨fun q => absurd q k_no1, fun _ => ?_⟩
            refine s_inA1 0 n k_L0 (by rw [Int32.toInt_toInt64]; exact k_nI (by omega)) hh.1 hh.2 ⟨fun _ => ⟨i7, fun q => ?_, fun _ => ⟨rfl, hs2⟩⟩, fun q => absurd q k_no1⟩
            have q : σ.1 13 3 7 + nI n ≤ nI 60 := q
            rw [w6, nI_add] at q
            exact absurd q (nI_ge (by omega) (by omega))
      · refine s_outA1 0 n k_0 (k_nI (by omega)) (by omega) ⟨fun q => absurd q k_no1, fun _ => ⟨_, rfl, ?_⟩⟩
        refine m_T_un 60 (fun y pc => Nat.beq y 87) ?_
        refine ⟨fun _ => ?_, fun q => absurd q g'⟩
        refine s_inA1 0 20 k_L0 k_l20 hn.1 hn.2 ⟨fun q => absurd q k_no1, fun _ => ?_⟩
        exact s_inA0 0 n k_L0 (by rw [Int32.toInt_toInt64]; exact k_nI (by omega)) (by omega) ⟨fun q => absurd rfl q, fun _ => ⟨rfl, hs2⟩⟩
    · refine s_outA1 0 20 k_0 k_20b (by omega) ⟨fun _ => ⟨_, rfl, ?_⟩, fun q => absurd q k_no1⟩
      refine m_T_un 60 (fun y pc => Nat.beq y 87) ?_
      refine ⟨fun _ => ?_, fun q => absurd q g'⟩
      exact s_inA0 0 20 k_L0 k_l20 (by omega) ⟨fun _ => ⟨rfl, hs2⟩, fun q => absurd rfl q⟩
  · have g : σ.1 5 0 0 = 0 := g
    refine m_T_un 60 (fun y pc => Nat.beq y 87) ?_
    exact ⟨fun q => absurd (st.1.symm.trans g) q, fun _ => ⟨rfl, hs2⟩⟩
