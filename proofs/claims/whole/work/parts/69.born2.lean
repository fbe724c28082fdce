/-! pair born, whole -/
def k_cq : Nat → Nat → Bool := fun y _ => Nat.beq y 119
theorem s_mco {E : m_E} {r N m : Nat} {σ : m_M} {Q : m_F → Prop} {x : Int32} (hn : σ.1 13 3 7 = nI N) (hm : σ.1 13 3 8 = nI m) (h60 : N < 60) (m60 : m < 60) (hq : Q (0, [], [vI (σ.1 13 3 7)], m_up (m_up (m_up (m_up (m_up (m_up (m_up σ 13 3 (69 + 4 * N) x) 13 3 (70 + 4 * N) 0) 13 3 (71 + 4 * N) 0) 13 3 (72 + 4 * N) (-1000000)) 13 3 7 (nI (N + 1))) 13 3 (9 + m) (σ.1 13 3 7)) 13 3 8 (nI (m + 1)))) : m_T E 65535 (r + 1) 119 (0, [some (vR 6 0), some (vI x), none, none], [], σ) Q := by
  have i7 : vp_in ((Int8.ofInt 7).toInt32) 309 := k_in (k := 7) (n := 309) (by decide) (by decide)
  have e0 : (Int8.ofInt 69).toInt32 + Int32.ofInt 4 * σ.1 13 3 7 = nI (69 + 4 * N) := by
    rw [hn, show (Int8.ofInt 69).toInt32 = nI 69 from rfl, show Int32.ofInt 4 = nI 4 from rfl, pk_mul, nI_add]
  have ek : ∀ k, (Int8.ofInt 69).toInt32 + Int32.ofInt 4 * σ.1 13 3 7 + nI k = nI (69 + k + 4 * N) := fun k => by
    rw [e0, nI_add]
    exact congrArg nI (by omega)
  refine m_T_un 60 (fun y _ => Nat.beq y 120) ?_
  refine ⟨i7, show vp_in ((Int8.ofInt 69).toInt32 + Int32.ofInt 4 * σ.1 13 3 7) 309 by rw [e0]; exact k_in (by omega) (by decide), show vp_in ((Int8.ofInt 69).toInt32 + Int32.ofInt 4 * σ.1 13 3 7 + nI 1) 309 by rw [ek]; exact k_in (by omega) (by decide), show vp_in ((Int8.ofInt 69).toInt32 + Int32.ofInt 4 * σ.1 13 3 7 + nI 2) 309 by rw [ek]; exact k_in (by omega) (by decide), show vp_in ((Int8.ofInt 69).toInt32 + Int32.ofInt 4 * σ.1 13 3 7 + nI 3) 309 by rw [ek]; exact k_in (by omega) (by decide), i7, i7, ?_⟩
  have key : ∀ b0 b1 b2 b3 : Int32, b0.toNatClampNeg = 69 + 4 * N → b1.toNatClampNeg = 70 + 4 * N → b2.toNatClampNeg = 71 + 4 * N → b3.toNatClampNeg = 72 + 4 * N → ∀ Q' : m_F → Prop, Q' (0, [], [], m_up (m_up (m_up (m_up (m_up (m_up (m_up σ 13 3 (69 + 4 * N) x) 13 3 (70 + 4 * N) 0) 13 3 (71 + 4 * N) 0) 13 3 (72 + 4 * N) (-1000000)) 13 3 7 (nI (N + 1))) 13 3 (9 + m) (σ.1 13 3 7)) 13 3 8 (nI (m + 1))) → m_T E 65535 r 120 (0, [some (vR 6 0), some (vI (σ.1 13 3 7))], [], m_up (m_up (m_up (m_up (m_up σ 13 3 b0.toNatClampNeg x) 13 3 b1.toNatClampNeg 0) 13 3 b2.toNatClampNeg 0) 13 3 b3.toNatClampNeg (-1000000)) 13 3 7 ((m_up (m_up (m_up (m_up σ 13 3 b0.toNatClampNeg x) 13 3 b1.toNatClampNeg 0) 13 3 b2.toNatClampNeg 0) 13 3 b3.toNatClampNeg (-1000000)).1 13 3 7 + Int32.ofInt 1)) Q' := fun b0 b1 b2 b3 h0 h1 h2 h3 Q' hq' => by
    rw [h0, h1, h2, h3, show (m_up (m_up (m_up (m_up σ 13 3 (69 + 4 * N) x) 13 3 (70 + 4 * N) 0) 13 3 (71 + 4 * N) 0) 13 3 (72 + 4 * N) (-1000000)).1 13 3 7 = nI N by rw [m_up_ne (by omega), m_up_ne (by omega), m_up_ne (by omega), m_up_ne (by omega), hn], show Int32.ofInt 1 = nI 1 from rfl, nI_add]
    refine s_mst (m := m) ?_ m60 hq'
    rw [m_up_ne (by omega), m_up_ne (by omega), m_up_ne (by omega), m_up_ne (by omega), m_up_ne (by omega), hm]
  exact key ((Int8.ofInt 69).toInt32 + Int32.ofInt 4 * σ.1 13 3 7) ((Int8.ofInt 69).toInt32 + Int32.ofInt 4 * σ.1 13 3 7 + nI 1) ((Int8.ofInt 69).toInt32 + Int32.ofInt 4 * σ.1 13 3 7 + nI 2) ((Int8.ofInt 69).toInt32 + Int32.ofInt 4 * σ.1 13 3 7 + nI 3) (by rw [e0, k_cl (by omega)]) (by rw [ek, k_cl (by omega)]) (by rw [ek, k_cl (by omega)]) (by rw [ek, k_cl (by omega)]) _ hq
theorem p_born {E : m_E} {D : Nat} {σ : m_M} (hD : D < 512) (hs : q_sim D σ) : q_pair E D 12 121 [] σ := by
  have hs1 : q_sim (D + 1) σ := q_sim_more (Nat.le_succ D) hs
  have hs2 : q_sim (D + 1) (m_up σ 6 0 0 (Int32.ofInt 0)) := z_thr hs1
  obtain ⟨N, m, w, c', d', L, K, R, H, hw, hc⟩ := q_town0 hs1.2.2.2.2.2.1
  have hT : q_T σ (D + 1) N m w c' d' L K R H := ⟨hw, hc⟩
  obtain ⟨⟨w0, w1, w2, w3, w4, w5, w6, w7, w8, w9, wa, wb, wc⟩, c1, c2, c3⟩ := hT
  have hT : q_T σ (D + 1) N m w c' d' L K R H := ⟨hw, hc⟩
  have hN : σ.1 5 0 8 = nI N := (c1 7 (by omega)).trans w6
  have hm : σ.1 5 0 9 = nI m := (c1 8 (by omega)).trans w8
  have hm' : σ.1 13 3 8 = nI m := w8
  have w6 : σ.1 13 3 7 = nI N := w6
  have i7 : vp_in ((Int8.ofInt 7).toInt32) 309 := k_in (k := 7) (n := 309) (by decide) (by decide)
  have st := hs1.2.2.2.2.1
  refine m_T_un 90 k_cc ?_
  refine ⟨fun g => ?_, fun g => ⟨_, rfl, ?_⟩⟩
  · have g : ¬ σ.1 5 0 0 = 0 := g
    have g' : ¬ σ.1 6 0 7 = 0 := by rw [← st.1]; exact g
    by_cases h60 : N < 60
    · refine ⟨fun q => ?_, fun q => ?_⟩
      · refine s_put (v := 0) N hN (show N < 60 by omega) ?_
        refine s_put (v := 1) N hN (show N < 60 by omega) ?_
        refine s_put (v := 2) N hN (show N < 60 by omega) ?_
        refine s_put (v := 4) m hm (show m < 60 by omega) ?_
        refine s_put (v := 3) N hN (show N < 60 by omega) ?_
        refine ⟨_, rfl, ?_⟩
        refine m_T_un 90 k_cq ?_
        refine ⟨fun _ => ⟨i7, fun _ => s_mco (N := N) (m := m) w6 hm' h60 (by omega) ?_, fun q => ?_⟩, fun q => absurd q g'⟩
        · refine ⟨z_v (w6.trans hN.symm), ?_⟩
          have e8 : σ.1 5 0 9 + Int32.ofInt 1 = nI (m + 1) := by rw [hm, show Int32.ofInt 1 = nI 1 from rfl, nI_add]
          have e7 : σ.1 5 0 8 + Int32.ofInt 1 = nI (N + 1) := by rw [hN, show Int32.ofInt 1 = nI 1 from rfl, nI_add]
          refine q_sim_town (σ := σ) (fun c v g1 g2 g3 g4 g5 g6 => ?_) rfl rfl rfl rfl rfl rfl (q_town_of (z_born hT h60 (fun j => ?_) (fun q => ?_) (fun q => ?_) (fun q => ?_) (fun q => ?_) (fun i => ?_) (fun j => ?_))) hs1
          · rw [m_up_other (by omega), m_up_other (by omega), m_up_other (by omega), m_up_other (by omega), m_up_other (by omega), m_up_other (by omega), m_up_other (by omega), m_up_other (by omega), m_up_other (by omega), m_up_other (by omega), m_up_other (by omega), m_up_other (by omega), m_up_other (by omega), m_up_other (by omega), m_up_other (by omega)]
          · simp [m_up, w6, hN]; rfl
          · simp [m_up]; rfl
          · simp [m_up]
          · simp [m_up]
          · simp [m_up]
          · simp [m_up, hN]; rfl
          · simp [m_up]
            by_cases g : j = 9
            · rw [if_pos g, if_pos g]; exact e8
            · rw [if_neg g, if_neg g]
              by_cases g2 : j = 8
              · rw [if_pos g2, if_pos g2]; exact e7
              · rw [if_neg g2, if_neg g2]
        · have q : nI N = nI 60 := w6.symm.trans q
          exact absurd ((nI_eq (by omega) (by omega)).mp q) (by omega)
      · have q : ¬ σ.1 5 0 8 < nI 60 := q
        rw [hN] at q
        exact absurd (nI_lt h60 (by omega)) q
    · obtain rfl : N = 60 := by omega
      refine ⟨fun q => ?_, fun _ => ⟨_, rfl, ?_⟩⟩
      · have q : σ.1 5 0 8 < nI 60 := q
        rw [hN] at q
        exact absurd q (nI_nlt (Nat.le_refl 60) (by omega))
      · refine m_T_un 60 k_cq ?_
        exact ⟨fun _ => ⟨i7, fun q => absurd w6 q, fun _ => ⟨rfl, hs2⟩⟩, fun q => absurd q g'⟩
  · have g : σ.1 5 0 0 = 0 := g
    refine m_T_un 60 k_cm ?_
    exact ⟨fun q => absurd (st.1.symm.trans g) q, fun _ => ⟨rfl, hs2⟩⟩
