/-! pairs: image, restore -/
theorem q_wf_to {f g : Nat → Int32} {D N m w a d : Nat} {L K R H : Nat → Nat} (e : ∀ j, j < 309 → g j = f j) (h : q_wf f D N m w a d L K R H) : q_wf g D N m w a d L K R H := by
  obtain ⟨a1, a2, a3, a4, a5, a6, a7, a8, a9, aa, ab, ac, ad⟩ := h
  refine ⟨by rw [e _ (by omega)]; exact a1, a2, by rw [e _ (by omega)]; exact a3, a4, by rw [e _ (by omega)]; exact a5, a6, by rw [e _ (by omega)]; exact a7, a8, by rw [e _ (by omega)]; exact a9, aa, fun i hi => ?_, ac, fun p hp => ?_⟩
  · rw [e _ (by omega)]
    exact ab i hi
  · rw [e _ (by omega), e _ (by omega), e _ (by omega), e _ (by omega)]
    exact ad p hp
theorem q_town_to {σ τ : m_M} {D v a off v' : Nat} {f : Nat → Int32} {N m w c d : Nat} {L K R H : Nat → Nat} (hw : q_wf f D N m w c d L K R H) (hc : q_ct σ v' f N m) (e13 : ∀ j, j < 309 → τ.1 13 a (off + j) = f j) (h1 : ∀ j, j < 9 → τ.1 5 v (1 + j) = σ.1 5 v' (1 + j)) (h2 : ∀ k p, k < 4 → p < N → τ.1 12 (5 * v + k) p = σ.1 12 (5 * v' + k) p) (h3 : ∀ i, i < m → τ.1 12 (5 * v + 4) i = σ.1 12 (5 * v' + 4) i) : q_town τ D v a off := by
  refine ⟨N, m, w, c, d, L, K, R, H, q_wf_to e13 hw, ?_, ?_, ?_⟩
  · intro j hj
    dsimp only
    rw [h1 j hj, e13 j (by omega)]
    exact hc.1 j hj
  · intro i hi
    have := hw.2.2.2.2.2.2.2.1
    have := hw.2.2.2.2.2.2.2.2.2.1
    dsimp only
    rw [h3 i hi, e13 (9 + i) (by omega)]
    exact hc.2.1 i hi
  · intro p hp
    have := hw.2.2.2.2.2.2.2.1
    have e0 := h2 0 p (by omega) hp
    rw [Nat.add_zero, Nat.add_zero] at e0
    dsimp only
    rw [e0, h2 1 p (by omega) hp, h2 2 p (by omega) hp, h2 3 p (by omega) hp, e13 (69 + 4 * p) (by omega), e13 (70 + 4 * p) (by omega), e13 (71 + 4 * p) (by omega), e13 (72 + 4 * p) (by omega)]
    exact hc.2.2 p hp
section Img
variable {E : m_E} {r : Nat} {σ : m_M} {Q : m_F → Prop} {x : Int32}
theorem s_img1 (k : Nat) (hk : k < 2) (hx : x = nI k) (hq : Q (0, [], [vR 5 (2 + k)], σ)) : m_T E 65535 r 33 (0, [some (vR 0 0), some (vI x)], [], σ) Q := by
  subst hx
  refine m_T_un 40 m_no ?_
  refine ⟨fun c1 => absurd c1 (nI_pos (by omega)), fun c1 => ⟨fun c2 => ⟨k_in (n := 2) hk (by decide), ?_⟩, fun c2 => absurd (nI_lt hk (by decide)) c2⟩⟩
  have h2 : Q (0, [], [vR 5 (2 + (nI k).toNatClampNeg)], σ) := by rw [k_cl (by omega)]; exact hq
  exact h2
theorem s_img0 (h : x.toInt < 0 ∨ 2 ≤ x.toInt) (hq : Q (0, [], [vN], σ)) : m_T E 65535 r 33 (0, [some (vR 0 0), some (vI x)], [], σ) Q := by
  refine m_T_un 40 m_no ?_
  refine ⟨fun c1 => hq, fun c1 => ⟨fun c2 => ?_, fun c2 => hq⟩⟩
  exfalso
  have c1 : ¬ x < 0 := c1
  have c2 : x < nI 2 := c2
  rw [k_lt] at c1 c2
  rw [k_nI (by decide)] at c2
  have e0 : (0 : Int32).toInt = 0 := by decide
  rw [e0] at c1
  omega
end Img
theorem k_L1 : (Int64.ofNat 1).toInt = 1 := by decide
theorem p_image {E : m_E} {D : Nat} {σ : m_M} (hD : D < 512) (hs : q_sim D σ) (a : Int32) : q_pair E D 32 144 [vI a] σ := by
  have hs1 : q_sim (D + 1) σ := q_sim_more (Nat.le_succ D) hs
  have hs2 : q_sim (D + 1) (m_up σ 6 0 0 (Int32.ofInt 0)) := z_thr hs1
  by_cases hr : 0 ≤ a.toInt ∧ a.toInt < (2 : Nat)
  · obtain ⟨k, hk, rfl⟩ := k_of hr.1 hr.2
    refine m_T_un 60 (fun y _ => Nat.beq y 33 || Nat.beq y 70) ?_
    refine s_img1 k hk rfl ?_
    obtain ⟨a1, a2, a3, a4, a5, a6, a7, a8⟩ := hs1
    rcases a5.2 with hz | hz
    · refine ⟨fun c => ?_, fun _ => ?_⟩
      · have c : ¬ σ.1 5 0 0 = 0 := c
        exact absurd (a5.1.trans hz) c
      refine ⟨-1000002, rfl, ?_⟩
      refine m_T_un 60 (fun y _ => Nat.beq y 87) ?_
      refine s_in1 (show (Int64.ofNat 0).toInt ≤ (nI k).toInt64.toInt by rw [Int32.toInt_toInt64, k_L0]; exact hr.1) (show (nI k).toInt64.toInt ≤ (Int64.ofNat 1).toInt by rw [Int32.toInt_toInt64, k_L1]; omega) ?_
      refine ⟨fun _ => ⟨fun c => absurd hz c, fun _ => ⟨rfl, hs2⟩⟩, fun c => absurd c (by decide)⟩
    · have nz : ¬ σ.1 5 0 0 = 0 := fun c => by
        rw [a5.1, hz] at c
        exact absurd c (by decide)
      refine ⟨fun _ => ?_, fun c => absurd c nz⟩
      obtain ⟨N, m, w, c, d, L, K, R, H, hw, hc⟩ := q_town0 a6
      refine s_bec (v := 2 + k) (w := 0) (N := N) (m := m) (by omega) (by omega) (by omega) ((hc.1 7 (by omega)).trans hw.2.2.2.2.2.2.1) hw.2.2.2.2.2.2.2.1 ((hc.1 8 (by omega)).trans hw.2.2.2.2.2.2.2.2.1) (Nat.le_trans hw.2.2.2.2.2.2.2.2.2.1 hw.2.2.2.2.2.2.2.1) (Or.inr (a5.1.trans hz)) ?_
      intro τ ⟨b1, b2, b3, b4, b5⟩
      have n5 : ∀ u, ¬ u = 2 + k → τ.1 5 u = σ.1 5 u := fun u hu => b4 5 u (by omega) (by omega)
      refine ⟨nI 1, rfl, ?_⟩
      refine m_T_un 60 (fun y pc => Nat.beq y 87 || (Nat.beq y 144 && Nat.beq pc 28)) ?_
      refine s_in1 (show (Int64.ofNat 0).toInt ≤ (nI k).toInt64.toInt by rw [Int32.toInt_toInt64, k_L0]; exact hr.1) (show (nI k).toInt64.toInt ≤ (Int64.ofNat 1).toInt by rw [Int32.toInt_toInt64, k_L1]; omega) ?_
      have e7 : τ.1 6 0 7 = 1 := by rw [b4 6 0 (by omega) (by omega)]; exact hz
      have nz2 : ¬ τ.1 6 0 7 = 0 := fun c => by
        rw [e7] at c
        exact absurd c (by decide)
      refine ⟨fun _ => ⟨fun _ => ?_, fun c => absurd c nz2⟩, fun c => absurd c (by decide)⟩
      refine s_mimg hk ?_
      refine m_T_un 60 m_no ?_
      refine ⟨k_in (n := 2) hk (by decide), ⟨Or.inr rfl, ?_⟩⟩
      refine ⟨rfl, ?_⟩
      have x0 : (nI k).toNatClampNeg = k := k_cl (by omega)
      show q_sim (D + 1) (m_up (m_cp (m_up τ 6 0 0 (Int32.ofInt 0)) 6 3 0 (309 * k) 309) 15 0 (nI k).toNatClampNeg (Int32.ofInt 1))
      rw [x0]
      have g : ∀ c u, ¬ (c = 6 ∧ u = 0) → ¬ (c = 13 ∧ u = 6) → ¬ (c = 15 ∧ u = 0) → (m_up (m_cp (m_up τ 6 0 0 (Int32.ofInt 0)) 6 3 0 (309 * k) 309) 15 0 k (Int32.ofInt 1)).1 c u = τ.1 c u := fun c u h1 h2 h3 => by
        rw [m_up_other h3, m_cp_other h2, m_up_other h1]
      generalize hz' : m_up (m_cp (m_up τ 6 0 0 (Int32.ofInt 0)) 6 3 0 (309 * k) 309) 15 0 k (Int32.ofInt 1) = ρ at g ⊢
      have r6 : ∀ j, ¬ j = 0 → ρ.1 6 0 j = σ.1 6 0 j := fun j hj => by
        rw [← hz', m_up_other (by omega), m_cp_other (by omega)]
        show (if 6 = 6 ∧ 0 = 0 ∧ j = 0 then _ else τ.1 6 0 j) = _
        rw [if_neg (by omega), b4 6 0 (by omega) (by omega)]
      have rin : ∀ j, j < 309 → ρ.1 13 6 (309 * k + j) = σ.1 13 3 j := fun j hj => by
        rw [← hz', m_up_other (by omega), m_cp_in (by omega) (by omega), m_up_other (by omega), b4 13 3 (by omega) (by omega)]
        rw [show 0 + (309 * k + j - 309 * k) = j by omega]
      have rout : ∀ j, (j < 309 * k ∨ 309 * k + 309 ≤ j) → ρ.1 13 6 j = σ.1 13 6 j := fun j hj => by
        rw [← hz', m_up_other (by omega), m_cp_out (by omega), m_up_other (by omega), b4 13 6 (by omega) (by omega)]
      have r15 : ∀ j, ρ.1 15 0 j = if j = k then 1 else σ.1 15 0 j := fun j => by
        rw [← hz']
        show (if 15 = 15 ∧ 0 = 0 ∧ j = k then Int32.ofInt 1 else (m_cp (m_up τ 6 0 0 (Int32.ofInt 0)) 6 3 0 (309 * k) 309).1 15 0 j) = _
        rw [m_cp_other (by omega), m_up_other (by omega), b4 15 0 (by omega) (by omega)]
        by_cases e : j = k
        · rw [if_pos ⟨rfl, rfl, e⟩, if_pos e]; rfl
        · rw [if_neg (fun q => e q.2.2), if_neg e]
      have g2 : ∀ c u, ¬ (c = 6 ∧ u = 0) → ¬ (c = 13 ∧ u = 6) → ¬ (c = 15 ∧ u = 0) → ¬ (c = 5 ∧ u = 2 + k) → ¬ (c = 12 ∧ 5 * (2 + k) ≤ u ∧ u < 5 * (2 + k) + 5) → ρ.1 c u = σ.1 c u := fun c u h1 h2 h3 h4 h5 => by rw [g c u h1 h2 h3, b4 c u h4 h5]
      refine ⟨fun r hr => q_row_eq (g2 _ _ (by omega) (by omega) (by omega) (by omega) (by omega)) (g2 _ _ (by omega) (by omega) (by omega) (by omega) (by omega)) (g2 _ _ (by omega) (by omega) (by omega) (by omega) (by omega)) (g2 _ _ (by omega) (by omega) (by omega) (by omega) (by omega)) (g2 _ _ (by omega) (by omega) (by omega) (by omega) (by omega)) (a1 r hr), ?_, ?_, ?_, ?_, ?_, ?_, ?_⟩
      · rw [g2 0 0 (by omega) (by omega) (by omega) (by omega) (by omega), r6 1 (by omega)]; exact a2
      · rw [g2 0 0 (by omega) (by omega) (by omega) (by omega) (by omega), r6 10 (by omega)]; exact a3
      · exact q_tape_eq (by rw [g2 4 0 (by omega) (by omega) (by omega) (by omega) (by omega)]) (r6 9 (by omega)) (g2 _ _ (by omega) (by omega) (by omega) (by omega) (by omega)) (g2 _ _ (by omega) (by omega) (by omega) (by omega) (by omega)) a4
      · rw [g2 5 0 (by omega) (by omega) (by omega) (by omega) (by omega), r6 7 (by omega)]; exact a5
      · exact q_town_eq (fun j _ => by rw [g2 5 0 (by omega) (by omega) (by omega) (by omega) (by omega)]) (fun i _ => g2 _ _ (by omega) (by omega) (by omega) (by omega) (by omega)) (g2 _ _ (by omega) (by omega) (by omega) (by omega) (by omega)) a6
      · intro k2 hk2
        rw [r15 k2]
        by_cases e : k2 = k
        · subst e
          rw [if_pos rfl]
          refine ⟨?_, Or.inr rfl, fun _ => ⟨(r6 7 (by omega)).trans hz, ?_⟩⟩
          · rw [g 5 (2 + k2) (by omega) (by omega) (by omega), b1 0 (by omega)]
            exact a5.1.trans hz
          · refine q_town_to (v' := 0) hw hc rin (fun j hj => ?_) (fun i p hi hp => ?_) (fun i hi => ?_)
            · rw [g 5 (2 + k2) (by omega) (by omega) (by omega), b1 (1 + j) (by omega)]
            · rw [g 12 (5 * (2 + k2) + i) (by omega) (by omega) (by omega)]
              exact b2 i p hi hp
            · rw [g 12 (5 * (2 + k2) + 4) (by omega) (by omega) (by omega)]
              exact b3 i hi
        · rw [if_neg e]
          obtain ⟨d1, d2, d3⟩ := a7 k2 hk2
          refine ⟨?_, d2, fun q => ⟨(r6 7 (by omega)).trans (d3 q).1, ?_⟩⟩
          · rw [g2 5 (2 + k2) (by omega) (by omega) (by omega) (by omega) (by omega)]; exact d1
          · obtain ⟨N2, m2, w2, c2, y2, L2, K2, R2, H2, hw2, hc2⟩ := (d3 q).2
            refine q_town_to (v' := 2 + k2) hw2 hc2 (fun j hj => ?_) (fun j hj => ?_) (fun i p hi hp => ?_) (fun i hi => ?_)
            · exact rout _ (by omega)
            · rw [g2 5 (2 + k2) (by omega) (by omega) (by omega) (by omega) (by omega)]
            · rw [g2 12 (5 * (2 + k2) + i) (by omega) (by omega) (by omega) (by omega) (by omega)]
            · rw [g2 12 (5 * (2 + k2) + 4) (by omega) (by omega) (by omega) (by omega) (by omega)]
      · exact q_trace_eq (by rw [g2 1 0 (by omega) (by omega) (by omega) (by omega) (by omega)]) (r6 22 (by omega)) (g2 _ _ (by omega) (by omega) (by omega) (by omega) (by omega)) (g2 _ _ (by omega) (by omega) (by omega) (by omega) (by omega)) a8
  · refine m_T_un 60 (fun y _ => Nat.beq y 33 || Nat.beq y 70) ?_
    refine s_img0 (by omega) ?_
    refine ⟨-1000001, rfl, ?_⟩
    refine m_T_un 60 (fun y pc => Nat.beq y 87 || (Nat.beq y 144 && Nat.beq pc 28)) ?_
    refine s_in0 (show a.toInt64.toInt < (Int64.ofNat 0).toInt ∨ (Int64.ofNat 1).toInt < a.toInt64.toInt by rw [Int32.toInt_toInt64, k_L0, k_L1]; omega) ?_
    exact ⟨fun c => absurd rfl c, fun _ => ⟨rfl, hs2⟩⟩
theorem p_restore {E : m_E} {D : Nat} {σ : m_M} (hD : D < 512) (hs : q_sim D σ) (a : Int32) : q_pair E D 34 145 [vI a] σ := by
  have hs1 : q_sim (D + 1) σ := q_sim_more (Nat.le_succ D) hs
  have hs2 : q_sim (D + 1) (m_up σ 6 0 0 (Int32.ofInt 0)) := z_thr hs1
  by_cases hr : 0 ≤ a.toInt ∧ a.toInt < (2 : Nat)
  · obtain ⟨k, hk, rfl⟩ := k_of hr.1 hr.2
    have x0 : (nI k).toNatClampNeg = k := k_cl (by omega)
    refine m_T_un 60 (fun y _ => Nat.beq y 33 || Nat.beq y 70) ?_
    refine s_img1 k hk rfl ?_
    obtain ⟨a1, a2, a3, a4, a5, a6, a7, a8⟩ := hs1
    obtain ⟨d1, d2, d3⟩ := a7 k hk
    rcases d2 with hz | hz
    · refine ⟨fun c => ?_, fun _ => ?_⟩
      · have c : ¬ σ.1 5 (2 + k) 0 = 0 := c
        exact absurd (d1.trans hz) c
      refine ⟨-1000002, rfl, ?_⟩
      refine m_T_un 60 (fun y _ => Nat.beq y 87) ?_
      refine s_in1 (show (Int64.ofNat 0).toInt ≤ (nI k).toInt64.toInt by rw [Int32.toInt_toInt64, k_L0]; exact hr.1) (show (nI k).toInt64.toInt ≤ (Int64.ofNat 1).toInt by rw [Int32.toInt_toInt64, k_L1]; omega) ?_
      refine ⟨fun _ => ⟨k_in (n := 2) hk (by decide), ⟨fun c => absurd ?_ c, fun _ => ⟨rfl, hs2⟩⟩⟩, fun c => absurd c (by decide)⟩
      show σ.1 15 0 (nI k).toNatClampNeg = 0
      rw [x0]; exact hz
    · have nz : ¬ σ.1 5 (2 + k) 0 = 0 := fun c => by
        rw [d1, hz] at c
        exact absurd c (by decide)
      refine ⟨fun _ => ?_, fun c => absurd c nz⟩
      obtain ⟨N, m, w, c, d, L, K, R, H, hw, hc⟩ := (d3 hz).2
      refine s_bec (v := 0) (w := 2 + k) (N := N) (m := m) (by omega) (by omega) (by omega) ((hc.1 7 (by omega)).trans hw.2.2.2.2.2.2.1) hw.2.2.2.2.2.2.2.1 ((hc.1 8 (by omega)).trans hw.2.2.2.2.2.2.2.2.1) (Nat.le_trans hw.2.2.2.2.2.2.2.2.2.1 hw.2.2.2.2.2.2.2.1) (Or.inr (d1.trans hz)) ?_
      intro τ ⟨b1, b2, b3, b4, b5⟩
      refine ⟨nI 1, rfl, ?_⟩
      refine m_T_un 60 (fun y pc => Nat.beq y 87 || (Nat.beq y 145 && Nat.beq pc 30)) ?_
      refine s_in1 (show (Int64.ofNat 0).toInt ≤ (nI k).toInt64.toInt by rw [Int32.toInt_toInt64, k_L0]; exact hr.1) (show (nI k).toInt64.toInt ≤ (Int64.ofNat 1).toInt by rw [Int32.toInt_toInt64, k_L1]; omega) ?_
      have e7 : ¬ τ.1 15 0 (nI k).toNatClampNeg = 0 := fun c => by
        rw [x0, b4 15 0 (by omega) (by omega), hz] at c
        exact absurd c (by decide)
      refine ⟨fun _ => ⟨k_in (n := 2) hk (by decide), ⟨fun _ => ?_, fun c => absurd c e7⟩⟩, fun c => absurd c (by decide)⟩
      refine s_mres hk ?_
      refine ⟨rfl, ?_⟩
      show q_sim (D + 1) (m_cp (m_up τ 6 0 0 (Int32.ofInt 0)) 3 6 (309 * k) 0 309)
      have g : ∀ c u, ¬ (c = 6 ∧ u = 0) → ¬ (c = 13 ∧ u = 3) → (m_cp (m_up τ 6 0 0 (Int32.ofInt 0)) 3 6 (309 * k) 0 309).1 c u = τ.1 c u := fun c u h1 h2 => by
        rw [m_cp_other h2, m_up_other h1]
      generalize hz' : m_cp (m_up τ 6 0 0 (Int32.ofInt 0)) 3 6 (309 * k) 0 309 = ρ at g ⊢
      have r6 : ∀ j, ¬ j = 0 → ρ.1 6 0 j = σ.1 6 0 j := fun j hj => by
        rw [← hz', m_cp_other (by omega)]
        show (if 6 = 6 ∧ 0 = 0 ∧ j = 0 then _ else τ.1 6 0 j) = _
        rw [if_neg (by omega), b4 6 0 (by omega) (by omega)]
      have rin : ∀ j, j < 309 → ρ.1 13 3 j = σ.1 13 6 (309 * k + j) := fun j hj => by
        rw [← hz', m_cp_in (by omega) (by omega), m_up_other (by omega), b4 13 6 (by omega) (by omega), Nat.sub_zero]
      have g2 : ∀ c u, ¬ (c = 6 ∧ u = 0) → ¬ (c = 13 ∧ u = 3) → ¬ (c = 5 ∧ u = 0) → ¬ (c = 12 ∧ u < 5) → ρ.1 c u = σ.1 c u := fun c u h1 h2 h4 h5 => by rw [g c u h1 h2, b4 c u h4 (by omega)]
      refine ⟨fun r hr => q_row_eq (g2 _ _ (by omega) (by omega) (by omega) (by omega)) (g2 _ _ (by omega) (by omega) (by omega) (by omega)) (g2 _ _ (by omega) (by omega) (by omega) (by omega)) (g2 _ _ (by omega) (by omega) (by omega) (by omega)) (g2 _ _ (by omega) (by omega) (by omega) (by omega)) (a1 r hr), ?_, ?_, ?_, ?_, ?_, ?_, ?_⟩
      · rw [g2 0 0 (by omega) (by omega) (by omega) (by omega), r6 1 (by omega)]; exact a2
      · rw [g2 0 0 (by omega) (by omega) (by omega) (by omega), r6 10 (by omega)]; exact a3
      · exact q_tape_eq (by rw [g2 4 0 (by omega) (by omega) (by omega) (by omega)]) (r6 9 (by omega)) (g2 _ _ (by omega) (by omega) (by omega) (by omega)) (g2 _ _ (by omega) (by omega) (by omega) (by omega)) a4
      · rw [g 5 0 (by omega) (by omega), b1 0 (by omega), r6 7 (by omega), (d3 hz).1]
        exact ⟨d1.trans hz, Or.inr rfl⟩
      · refine q_town_to (v' := 2 + k) hw hc (fun j hj => ?_) (fun j hj => ?_) (fun i p hi hp => ?_) (fun i hi => ?_)
        · rw [Nat.zero_add]; exact rin j hj
        · rw [g 5 0 (by omega) (by omega), b1 (1 + j) (by omega)]
        · rw [g 12 (5 * 0 + i) (by omega) (by omega)]
          exact b2 i p hi hp
        · rw [g 12 (5 * 0 + 4) (by omega) (by omega)]
          exact b3 i hi
      · intro k2 hk2
        rw [g2 5 (2 + k2) (by omega) (by omega) (by omega) (by omega), g2 15 0 (by omega) (by omega) (by omega) (by omega)]
        obtain ⟨f1, f2, f3⟩ := a7 k2 hk2
        exact ⟨f1, f2, fun q => ⟨(r6 7 (by omega)).trans (f3 q).1, q_town_eq (fun j _ => by rw [g2 5 (2 + k2) (by omega) (by omega) (by omega) (by omega)]) (fun i _ => g2 _ _ (by omega) (by omega) (by omega) (by omega)) (g2 _ _ (by omega) (by omega) (by omega) (by omega)) (f3 q).2⟩⟩
      · exact q_trace_eq (by rw [g2 1 0 (by omega) (by omega) (by omega) (by omega)]) (r6 22 (by omega)) (g2 _ _ (by omega) (by omega) (by omega) (by omega)) (g2 _ _ (by omega) (by omega) (by omega) (by omega)) a8
  · refine m_T_un 60 (fun y _ => Nat.beq y 33 || Nat.beq y 70) ?_
    refine s_img0 (by omega) ?_
    refine ⟨-1000001, rfl, ?_⟩
    refine m_T_un 60 (fun y pc => Nat.beq y 87 || (Nat.beq y 145 && Nat.beq pc 30)) ?_
    refine s_in0 (show a.toInt64.toInt < (Int64.ofNat 0).toInt ∨ (Int64.ofNat 1).toInt < a.toInt64.toInt by rw [Int32.toInt_toInt64, k_L0, k_L1]; omega) ?_
    exact ⟨fun c => absurd rfl c, fun _ => ⟨rfl, hs2⟩⟩
