/-! pair lasts -/
def q_fh (x : Nat → Nat) : Nat → Int32 → Nat → Nat → Nat → Int32
  | 0, _, _, _, _ => -1000000
  | k + 1, B, P, C, t => if B < nI (P - C + x t) then nI (t + 1) else q_fh x k (B - nI (P - C + x t)) (P - C + x t) (x t) (t + 1)
section Lasts
variable {E : m_E} {r : Nat} {σ : m_M} {Q : m_F → Prop} {s n : Nat} {x : Nat → Nat}
theorem s_cfh (hs : s < 8) (hn : n ≤ 20) (hx : ∀ t, t < n → σ.1 12 (20 + s) t = nI (x t) ∧ x t ≤ 20) : ∀ k t B P C, t + k = n → P < 1000 + 20 * t → C ≤ 20 → Q (0, [], [vI (q_fh x k B P C t)], σ) → m_T E 65535 (r + 1) 84 (20, [some (vR 5 0), some (vR 3 s), some (vI (nI n)), some (vI B), some (vI (nI P)), some (vI (nI C)), some (vI (nI t))], [], σ) Q := by
  intro k
  induction k with
  | zero =>
    intro t B P C ht hP hC hq
    refine m_T_un 40 (fun y pc => (Nat.beq y 84 && Nat.beq pc 20) || Nat.beq y 50) ?_
    exact ⟨fun _ => hq, fun q => absurd (nI_le (show n ≤ t by omega) (by omega)) q⟩
  | succ k ih =>
    intro t B P C ht hP hC hq
    obtain ⟨x1, x2⟩ := hx t (by omega)
    have e0 : nI P - (if nI C < nI P then nI C else nI P) = nI (P - C) := by
      by_cases g : C < P
      · rw [if_pos (nI_lt g (by omega)), pk_sub (by omega)]
      · rw [if_neg (nI_nlt (by omega) (by omega)), pk_sub (by omega)]
        exact congrArg nI (by omega)
    have eP : nI P - (if nI C < nI P then nI C else nI P) + σ.1 12 (20 + s) t = nI (P - C + x t) := by rw [e0, x1, nI_add]
    refine m_T_un 60 (fun y pc => (Nat.beq y 84 && Nat.beq pc 20) || Nat.beq y 50) ?_
    refine ⟨fun q => absurd q (nI_ge (show t < n by omega) (by omega)), fun _ => ?_⟩
    refine s_at t rfl (by rw [m_lenR hs]; omega) ⟨fun q => ?_, fun q => ?_⟩
    · have q : nI P - (if nI C < nI P then nI C else nI P) + σ.1 12 (20 + s) t ≤ B := q
      rw [eP] at q
      rw [show q_fh x (k + 1) B P C t = q_fh x k (B - nI (P - C + x t)) (P - C + x t) (x t) (t + 1) from if_neg (Int32.not_lt.mpr q)] at hq
      have e := ih (t + 1) (B - nI (P - C + x t)) (P - C + x t) (x t) (by omega) (by omega) x2 hq
      rw [nI_succ t, ← eP, ← x1] at e
      exact e
    · have q : ¬ nI P - (if nI C < nI P then nI C else nI P) + σ.1 12 (20 + s) t ≤ B := q
      rw [eP] at q
      rw [show q_fh x (k + 1) B P C t = nI (t + 1) from if_pos (Int32.not_le.mp q), ← nI_add] at hq
      exact hq
theorem s_mfh {B0 : Int32} (hs : s < 8) (hn : n ≤ 20) (hx : ∀ t, t < n → σ.1 13 2 (40 * s + t) = nI (x t) ∧ x t ≤ 20) : ∀ k t B P C, t + k = n → P < 1000 + 20 * t → C ≤ 20 → Q (0, [], [vI (q_fh x k B P C t)], σ) → m_T E 65535 (r + 1) 141 (99, [some (vR 6 0), some (vI (nI s)), some (vI (nI n)), some (vI B0), some (vI B), some (vI (nI P)), some (vI (nI C)), some (vI (nI t))], [], σ) Q := by
  intro k
  induction k with
  | zero =>
    intro t B P C ht hP hC hq
    refine m_T_un 40 (fun y pc => (Nat.beq y 141 && Nat.beq pc 99)) ?_
    exact ⟨fun _ => hq, fun q => absurd (nI_le (show n ≤ t by omega) (by omega)) q⟩
  | succ k ih =>
    intro t B P C ht hP hC hq
    obtain ⟨x1, x2⟩ := hx t (by omega)
    have xi : ((Int8.ofInt 40).toInt32 * nI s + nI t).toNatClampNeg = 40 * s + t := by rw [k_40n, k_cl (by omega)]
    have hv : vp_in ((Int8.ofInt 40).toInt32 * nI s + nI t) 320 := by rw [k_40n]; exact k_in (by omega) (by decide)
    have go : ∀ y : Int32, y = nI (P - C) → m_T E 65535 (r + 1) 141 (121, [some (vR 6 0), some (vI (nI s)), some (vI (nI n)), some (vI B0), some (vI B), some (vI (nI P)), some (vI (nI C)), some (vI (nI t))], [vI y], σ) Q := fun y hy => by
      have eP : y + σ.1 13 2 ((Int8.ofInt 40).toInt32 * nI s + nI t).toNatClampNeg = nI (P - C + x t) := by rw [hy, xi, x1, nI_add]
      refine m_T_un 60 (fun y pc => (Nat.beq y 141 && Nat.beq pc 99)) ?_
      refine ⟨hv, hv, fun q => ?_, fun q => ?_⟩
      · have q : y + σ.1 13 2 ((Int8.ofInt 40).toInt32 * nI s + nI t).toNatClampNeg ≤ B := q
        rw [eP] at q
        rw [show q_fh x (k + 1) B P C t = q_fh x k (B - nI (P - C + x t)) (P - C + x t) (x t) (t + 1) from if_neg (Int32.not_lt.mpr q)] at hq
        have e := ih (t + 1) (B - nI (P - C + x t)) (P - C + x t) (x t) (by omega) (by omega) x2 hq
        rw [nI_succ t, ← eP, ← x1, ← xi] at e
        exact e
      · have q : ¬ y + σ.1 13 2 ((Int8.ofInt 40).toInt32 * nI s + nI t).toNatClampNeg ≤ B := q
        rw [eP] at q
        rw [show q_fh x (k + 1) B P C t = nI (t + 1) from if_pos (Int32.not_le.mp q), ← nI_add] at hq
        exact hq
    refine m_T_un 60 (fun y pc => (Nat.beq y 141 && (Nat.beq pc 99 || Nat.beq pc 121))) ?_
    refine ⟨fun q => absurd q (nI_ge (show t < n by omega) (by omega)), fun _ => ⟨fun q => ?_, fun q => ?_⟩⟩
    · have q : nI P ≤ nI C := q
      rw [nI_leI (by omega) (by omega)] at q
      exact go _ (by rw [show P - C = 0 by omega]; rfl)
    · have q : ¬ nI P ≤ nI C := q
      rw [nI_leI (by omega) (by omega)] at q
      exact go _ (pk_sub (by omega))
end Lasts
def k_ac : Nat → Nat → Bool := fun y _ => Nat.beq y 1 || Nat.beq y 2 || Nat.beq y 54 || Nat.beq y 55 || Nat.beq y 84 || Nat.beq y 167
def k_am : Nat → Nat → Bool := fun y pc => Nat.beq y 86 || Nat.beq y 87 || Nat.beq y 128 || Nat.beq y 129 || (Nat.beq y 141 && Nat.beq pc 99)
theorem p_lasts {E : m_E} {D : Nat} {σ : m_M} (hD : D < 512) (hs : q_sim D σ) (a : Int32) (b : Int32) : q_pair E D 28 141 [vI a, vI b] σ := by
  have hs1 : q_sim (D + 1) σ := q_sim_more (Nat.le_succ D) hs
  have hs2 : q_sim (D + 1) (m_up σ 6 0 0 (Int32.ofInt 0)) := z_thr hs1
  obtain ⟨N, m, w, c', d', L, K, R, H, hw, hc⟩ := q_town0 hs.2.2.2.2.2.1
  obtain ⟨w0, w1, w2, w3, w4, w5, w6, w7, w8, w9, wa, wb, wc⟩ := hw
  obtain ⟨c1, c2, c3⟩ := hc
  have kB : σ.1 5 0 2 = σ.1 13 3 1 := c1 1 (by omega)
  have k4 : σ.1 5 0 4 = nI c' := (c1 3 (by omega)).trans w2
  have k9 : σ.1 5 0 9 = nI m := (c1 8 (by omega)).trans w8
  have j3 : σ.1 13 3 3 = nI c' := w2
  have j8 : σ.1 13 3 8 = nI m := w8
  have i1 : vp_in (Int32.ofInt 1) 309 := k_in (k := 1) (n := 309) (by decide) (by decide)
  have i3 : vp_in (Int32.ofInt 3) 309 := k_in (k := 3) (n := 309) (by decide) (by decide)
  have i8 : vp_in ((Int8.ofInt 8).toInt32) 309 := k_in (k := 8) (n := 309) (by decide) (by decide)
  have st := hs1.2.2.2.2.1
  refine m_T_un 60 k_ac ?_
  refine ⟨fun g => ?_, fun g => ⟨_, rfl, ?_⟩⟩
  · have g : ¬ σ.1 5 0 0 = 0 := g
    have g' : ¬ σ.1 6 0 7 = 0 := by rw [← st.1]; exact g
    by_cases hr : 0 ≤ a.toInt ∧ a.toInt < (8 : Nat)
    · obtain ⟨s, hs8, rfl⟩ := k_of hr.1 hr.2
      refine s_rowAt1 s hs8 rfl ?_
      by_cases hn : 1 ≤ b.toInt ∧ b.toInt ≤ 20
      · obtain ⟨n, hn21, rfl⟩ := k_of (x := b) (n := 21) (by omega) (by omega)
        have n1 : 1 ≤ n := by have := hn.1; rw [k_nI (by omega)] at this; omega
        refine s_outA0 1 20 k_1 k_20b hn.1 hn.2 ⟨fun _ => ?_, fun q => absurd rfl q⟩
        have mo : ∀ (τ : m_M) (Q : m_F → Prop), ¬ τ.1 6 0 7 = 0 → m_T E 65535 19 141 (37, [some (vR 6 0), some (vI (nI s)), some (vI (nI n)), none, none, none, none, none], [], m_up τ 6 0 0 (Int32.ofInt 0)) Q → m_T E 65535 19 141 (0, m_entry 141 [vR 6 0, vI (nI s), vI (nI n)], [], τ) Q := fun τ Q h hh => by
          refine m_T_un 60 (fun y pc => k_am y pc || (Nat.beq y 141 && Nat.beq pc 37)) ?_
          refine ⟨fun _ => ?_, fun q => absurd q h⟩
          refine s_isRow1 hr.1 (by omega) ⟨fun q => absurd q k_no1, fun _ => ?_⟩
          exact s_inA1 1 20 k_L1 k_l20 hn.1 hn.2 ⟨fun _ => hh, fun q => absurd q k_no1⟩
        by_cases hl : q_lack σ s (nI n) = 0
        · by_cases hb : q_btw σ s n 20
          · refine s_rf1 (hi := 20) hs8 (by omega) (by decide) rfl hl hb ⟨fun _ => ?_, fun q => absurd rfl q⟩
            have cf : ∀ Q : m_F → Prop, Q (0, [], [vI (q_fh (k_xs σ s) n (σ.1 5 0 2) m c' 0)], σ) → m_T E 65535 18 84 (0, [some (vR 5 0), some (vR 3 s), some (vI (nI n)), none, none, none, none], [], σ) Q := fun Q hq => by
              have e := s_cfh (E := E) (r := 17) (Q := Q) hs8 (by omega) (fun t ht => k_xsb hb t ht) n 0 (σ.1 5 0 2) m c' (by omega) (by omega) w3 hq
              rw [← k9, ← k4] at e
              refine m_T_un 60 (fun y pc => (Nat.beq y 84 && Nat.beq pc 20)) ?_
              exact e
            refine cf _ ?_
            refine ⟨_, rfl, mo _ _ g' (m_T_un 60 k_am ?_)⟩
            refine s_mlk hs8 (hs1.1 s hs8) ⟨fun _ => ?_, fun q => absurd (q_lk_0 hl) q⟩
            refine s_cmg hs8 (by omega) (hs1.1 s hs8) (fun z hz => ?_)
            have hz : z = true ↔ q_btw σ s n 20 := hz
            rw [hz.mpr hb]
            refine ⟨fun _ => ⟨i1, i8, i3, ?_⟩, fun q => absurd q (by decide)⟩
            have mf : ∀ (τ : m_M) (B P C : Int32), τ.1 13 2 = σ.1 13 2 → B = σ.1 5 0 2 → P = nI m → C = nI c' → ∀ Q : m_F → Prop, Q (0, [], [vI (q_fh (k_xs σ s) n (σ.1 5 0 2) m c' 0)], τ) → m_T E 65535 19 141 (99, [some (vR 6 0), some (vI (nI s)), some (vI (nI n)), some (vI (q_lack σ s (nI n))), some (vI B), some (vI P), some (vI C), some (vI (nI 0))], [], τ) Q := fun τ B P C ht hB hP hC Q hq => by
              subst hB
              subst hP
              subst hC
              obtain ⟨_, -, -, -, -, f⟩ := hs1.1 s hs8
              exact s_mfh (r := 18) hs8 (by omega) (fun t h => by rw [ht, ← f t (by omega)]; exact k_xsb hb t h) n 0 _ m c' (by omega) (by omega) w3 hq
            refine mf _ _ _ _ ?_ kB.symm j8 j3 _ ?_
            · rfl
            · exact ⟨rfl, z_nof hs1⟩
          · refine s_rf0 (hi := 20) hs8 (by omega) (by decide) rfl hl hb ⟨fun q => absurd q k_noB, fun _ => ?_⟩
            refine ⟨_, rfl, mo _ _ g' (m_T_un 60 k_am ?_)⟩
            refine s_mlk hs8 (hs1.1 s hs8) ⟨fun _ => ?_, fun q => absurd (q_lk_0 hl) q⟩
            refine s_cmg hs8 (by omega) (hs1.1 s hs8) (fun z hz => ?_)
            have hz : z = true ↔ q_btw σ s n 20 := hz
            cases z with
            | true => exact absurd (hz.mp rfl) hb
            | false => exact ⟨fun q => absurd rfl q, fun _ => ⟨rfl, hs2⟩⟩
        · refine s_rfl hl ⟨fun q => absurd q (k_fnd hl), fun _ => ⟨_, rfl, mo _ _ g' (m_T_un 60 k_am ?_)⟩⟩
          exact s_mlk hs8 (hs1.1 s hs8) ⟨fun q => absurd q (q_lk_le hl), fun _ => ⟨rfl, z_nof hs1⟩⟩
      · refine s_outA1 1 20 k_1 k_20b (by omega) ⟨fun q => absurd q k_no1, fun _ => ⟨_, rfl, ?_⟩⟩
        refine m_T_un 60 k_am ?_
        refine ⟨fun _ => ?_, fun q => absurd q g'⟩
        refine s_isRow1 hr.1 (by omega) ⟨fun q => absurd q k_no1, fun _ => ?_⟩
        exact s_inA0 1 20 k_L1 k_l20 (by omega) ⟨fun q => absurd rfl q, fun _ => ⟨rfl, hs2⟩⟩
    · refine s_rowAt0 (k_not hr) ⟨_, rfl, ?_⟩
      refine m_T_un 60 k_am ?_
      refine ⟨fun _ => ?_, fun q => absurd q g'⟩
      exact s_isRow0 (k_not hr) ⟨fun _ => ⟨rfl, hs2⟩, fun q => absurd rfl q⟩
  · have g : σ.1 5 0 0 = 0 := g
    refine m_T_un 60 k_am ?_
    exact ⟨fun q => absurd (st.1.symm.trans g) q, fun _ => ⟨rfl, hs2⟩⟩
