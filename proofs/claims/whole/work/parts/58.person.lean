/-! pair person -/
def k_pm : Nat → Nat → Bool := fun y _ => Nat.beq y 116 || Nat.beq y 114 || Nat.beq y 124 || Nat.beq y 113
theorem p_person {E : m_E} {D : Nat} {σ : m_M} (hD : D < 512) (hs : q_sim D σ) (a : Int32) (b : Int32) : q_pair E D 15 126 [vI a, vI b] σ := by
  have hs1 : q_sim (D + 1) σ := q_sim_more (Nat.le_succ D) hs
  have hs2 : q_sim (D + 1) (m_up σ 6 0 0 (Int32.ofInt 0)) := z_thr hs1
  obtain ⟨N, m, w, c, d, L, K, R, H, hw, hc⟩ := q_town0 hs.2.2.2.2.2.1
  have hT : q_T σ D N m w c d L K R H := ⟨hw, hc⟩
  have hT2 : q_T (m_up σ 6 0 0 (Int32.ofInt 0)) D N m w c d L K R H := ⟨hw, hc⟩
  obtain ⟨⟨w0, w1, w2, w3, w4, w5, w6, w7, w8, w9, wa, wb, wc⟩, c1, c2, c3⟩ := hT
  have hT : q_T σ D N m w c d L K R H := ⟨hw, hc⟩
  have hN : σ.1 5 0 8 = nI N := (c1 7 (by omega)).trans w6
  refine m_T_un 60 (fun y _ => Nat.beq y 76 || Nat.beq y 50 || Nat.beq y 77 || Nat.beq y 78 || Nat.beq y 79) ?_
  by_cases hr : 0 ≤ a.toInt ∧ a.toInt < N
  · obtain ⟨p, hp, rfl⟩ := k_of hr.1 hr.2
    refine s_has1 hN w7 hr.1 hr.2 ⟨fun _ => ?_, fun q => absurd q k_no1⟩
    obtain ⟨y1, y2, y3, y4⟩ := c3 p hp
    have mo : ∀ (v : Int32) (b : Int32), m_T E 65535 19 126 (16, [some (vR 6 0), some (vI (nI p)), some (vI b)], [], m_up σ 6 0 0 (Int32.ofInt 0)) (fun g => g.2.2.1 = [vI v] ∧ q_sim (D + 1) g.2.2.2) → m_T E 65535 19 126 (0, m_entry 126 [vR 6 0, vI (nI p), vI b], [], σ) (fun g => g.2.2.1 = [vI v] ∧ q_sim (D + 1) g.2.2.2) := fun v b h => by
      refine m_T_un 60 (fun y pc => Nat.beq y 123 || (Nat.beq y 126 && Nat.beq pc 16)) ?_
      refine s_one1 (N := N) w6 w7 hr.1 hr.2 ⟨fun _ => ?_, fun q => absurd q k_no1⟩
      exact h
    by_cases hb : 0 ≤ b.toInt ∧ b.toInt < (6 : Nat)
    · obtain ⟨k, hk, rfl⟩ := k_of hb.1 hb.2
      obtain rfl | rfl | rfl | rfl | rfl | rfl : k = 0 ∨ k = 1 ∨ k = 2 ∨ k = 3 ∨ k = 4 ∨ k = 5 := by omega
      · refine ⟨m_sw_pick _ _ 0 _ rfl (by decide) (s_at p rfl (show p < 60 by omega) ⟨_, rfl, mo _ _ ?_⟩), fun q => absurd q (by decide)⟩
        refine m_T_un 60 k_pm ?_
        exact ⟨m_sw_pick _ _ 0 _ rfl (by decide) (s_of p 0 (by omega) (by omega) rfl rfl ⟨z_v y1.symm, hs2⟩), fun q => absurd q (by decide)⟩
      · refine ⟨m_sw_pick _ _ 1 _ rfl (by decide) (s_at p rfl (show p < 60 by omega) ⟨_, rfl, mo _ _ ?_⟩), fun q => absurd q (by decide)⟩
        refine m_T_un 60 k_pm ?_
        exact ⟨m_sw_pick _ _ 1 _ rfl (by decide) (s_of p 1 (by omega) (by omega) rfl rfl ⟨z_v (by rw [show 69 + 4 * p + 1 = 70 + 4 * p by omega]; exact y2.symm), hs2⟩), fun q => absurd q (by decide)⟩
      · refine ⟨m_sw_pick _ _ 2 _ rfl (by decide) (s_at p rfl (show p < 60 by omega) ⟨_, rfl, mo _ _ ?_⟩), fun q => absurd q (by decide)⟩
        refine m_T_un 60 k_pm ?_
        exact ⟨m_sw_pick _ _ 2 _ rfl (by decide) (s_of p 2 (by omega) (by omega) rfl rfl ⟨z_v (by rw [show 69 + 4 * p + 2 = 71 + 4 * p by omega]; exact y3.symm), hs2⟩), fun q => absurd q (by decide)⟩
      · refine ⟨m_sw_pick _ _ 3 _ rfl (by decide) ?_, fun q => absurd q (by decide)⟩
        by_cases hi : ∃ i, i < m ∧ L i = p
        · obtain ⟨i, hi, rfl⟩ := hi
          exact s_p1 hT i hi ⟨_, rfl, mo _ _ (m_T_un 60 k_pm ⟨m_sw_pick _ _ 3 _ rfl (by decide) (s_mp1 hT2 i hi ⟨rfl, hs2⟩), fun q => absurd q (by decide)⟩)⟩
        · have hx : ∀ i, i < m → ¬ nI (L i) = nI p := fun i h q => hi ⟨i, h, (nI_eq (by have := (wa i h).2; omega) (by omega)).mp q⟩
          exact s_p0 hT hx ⟨_, rfl, mo _ _ (m_T_un 60 k_pm ⟨m_sw_pick _ _ 3 _ rfl (by decide) (s_mp0 hT2 hx ⟨rfl, hs2⟩), fun q => absurd q (by decide)⟩)⟩
      · refine ⟨m_sw_pick _ _ 4 _ rfl (by decide) ?_, fun q => absurd q (by decide)⟩
        by_cases hi : ∃ i, i < m ∧ L i = p
        · obtain ⟨i, hi, rfl⟩ := hi
          exact s_isIn1 hT i hi ⟨fun q => absurd q k_no1, fun _ => s_cah hT i hi ⟨_, rfl, mo _ _ (m_T_un 60 k_pm ⟨m_sw_pick _ _ 4 _ rfl (by decide) (s_isH1 hT2 i hi ⟨fun q => absurd q k_no1, fun _ => s_mah hT2 i hi ⟨rfl, hs2⟩⟩), fun q => absurd q (by decide)⟩)⟩⟩
        · have hx : ∀ i, i < m → ¬ nI (L i) = nI p := fun i h q => hi ⟨i, h, (nI_eq (by have := (wa i h).2; omega) (by omega)).mp q⟩
          exact s_isIn0 hT hx ⟨fun _ => ⟨_, rfl, mo _ _ (m_T_un 60 k_pm ⟨m_sw_pick _ _ 4 _ rfl (by decide) (s_isH0 hT2 hx ⟨fun _ => ⟨rfl, hs2⟩, fun q => absurd rfl q⟩), fun q => absurd q (by decide)⟩)⟩, fun q => absurd rfl q⟩
      · refine ⟨m_sw_pick _ _ 5 _ rfl (by decide) (s_at p rfl (show p < 60 by omega) ?_), fun q => absurd q (by decide)⟩
        have e : 69 + 4 * p + 3 = 72 + 4 * p := by omega
        rcases y4 with ⟨z1, z2⟩ | ⟨z1, z2⟩
        · refine ⟨fun _ => ⟨_, rfl, mo _ _ (m_T_un 60 k_pm ⟨m_sw_pick _ _ 5 _ rfl (by decide) (s_of p 3 (by omega) (by omega) rfl rfl ⟨z_v (by rw [e]; exact z2), hs2⟩), fun q => absurd q (by decide)⟩)⟩, fun q => ?_⟩
          have q : ¬ σ.1 12 3 p ≤ 0 := q
          have z1 : σ.1 12 3 p = 0 := z1
          rw [z1] at q
          exact absurd (by decide) q
        · refine ⟨fun q => ?_, fun _ => s_at p rfl (show p < 60 by omega) ⟨_, rfl, mo _ _ (m_T_un 60 k_pm ⟨m_sw_pick _ _ 5 _ rfl (by decide) (s_of p 3 (by omega) (by omega) rfl rfl ⟨z_v (by rw [e]; exact z2), hs2⟩), fun q => absurd q (by decide)⟩)⟩⟩
          have q : σ.1 12 3 p ≤ 0 := q
          have z1 : 0 < σ.1 12 3 p := z1
          exact absurd z1 (Int32.not_lt.mpr q)
    · exact ⟨m_sw_none _ _ (show b.toInt < 0 ∨ (0 : Int) + (6 : Nat) ≤ b.toInt by omega), fun _ => ⟨_, rfl, mo _ _ (m_T_un 60 k_pm ⟨m_sw_none _ _ (show b.toInt < 0 ∨ (0 : Int) + (6 : Nat) ≤ b.toInt by omega), fun _ => ⟨rfl, hs2⟩⟩)⟩⟩
  · refine s_has0 hN w7 (by omega) ⟨fun q => absurd rfl q, fun _ => ⟨_, rfl, ?_⟩⟩
    refine m_T_un 60 (fun y _ => Nat.beq y 123 || Nat.beq y 116 || Nat.beq y 114 || Nat.beq y 124 || Nat.beq y 113) ?_
    exact s_one0 (N := N) w6 w7 (by omega) ⟨fun q => absurd rfl q, fun _ => ⟨rfl, hs2⟩⟩
