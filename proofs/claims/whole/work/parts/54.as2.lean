/-! pair as, whole -/
set_option maxRecDepth 20000 in
theorem s_mis {E : m_E} {x : Nat} {σ : m_M} {Q : m_F → Prop} (K w : Nat) (h1 : 1 ≤ K) (h5 : K ≤ 5) (hw : w ≤ 5) (hq : Q (0, [], [vI (k_bit (q_isof K w))], σ)) : m_T E 65535 x 148 (0, [some (vI (nI K)), some (vI (nI w))], [], σ) Q := by
  obtain rfl | rfl | rfl | rfl | rfl : K = 1 ∨ K = 2 ∨ K = 3 ∨ K = 4 ∨ K = 5 := by omega
  all_goals obtain rfl | rfl | rfl | rfl | rfl | rfl : w = 0 ∨ w = 1 ∨ w = 2 ∨ w = 3 ∨ w = 4 ∨ w = 5 := by omega
  all_goals refine m_T_un 120 m_no ?_
  all_goals repeat (first
    | exact ⟨Or.inr rfl, hq⟩
    | exact ⟨Or.inl rfl, hq⟩
    | refine ⟨fun q => absurd q (by decide), fun _ => ?_⟩
    | refine ⟨fun _ => ?_, fun q => absurd q (by decide)⟩)
theorem k_5 : (Int32.ofInt 5).toInt = 5 := by decide
theorem k_l5 : (m_nth m_kL 20 0).toInt = 5 := by decide
theorem p_as {E : m_E} {D : Nat} {σ : m_M} (hD : D < 512) (hs : q_sim D σ) (a : Int32) (b : Int32) : q_pair E D 36 147 [vI a, vI b] σ := by
  have hs1 : q_sim (D + 1) σ := q_sim_more (Nat.le_succ D) hs
  have hs2 : q_sim (D + 1) (m_up σ 6 0 0 (Int32.ofInt 0)) := z_thr hs1
  obtain ⟨N, m, w, c, d, L, K, R, H, ⟨w0, w1, w2, w3, w4, w5, w6, w7, w8, w9, wa, wb, wc⟩, c1, c2, c3⟩ := q_town0 hs.2.2.2.2.2.1
  have hN : σ.1 5 0 8 = nI N := (c1 7 (by omega)).trans w6
  refine m_T_un 60 (fun y _ => Nat.beq y 76 || Nat.beq y 50 || Nat.beq y 2 || Nat.beq y 37) ?_
  by_cases hr : 0 ≤ a.toInt ∧ a.toInt < N
  · obtain ⟨p, hp, rfl⟩ := k_of hr.1 hr.2
    refine s_has1 hN w7 hr.1 hr.2 ⟨fun q => absurd q k_no1, fun _ => ?_⟩
    by_cases hb : 0 ≤ b.toInt ∧ b.toInt ≤ 5
    · obtain ⟨v, hv, rfl⟩ := k_of (n := 6) hb.1 (by omega)
      refine s_outA0 0 5 k_0 k_5 hb.1 hb.2 ⟨fun _ => ?_, fun q => absurd rfl q⟩
      refine s_at p rfl (show p < 60 by omega) ?_
      obtain ⟨x1, x2, x3, -⟩ := wc p hp
      have x4 : σ.1 12 0 p = nI (K p) := (c3 p hp).1.trans x1
      have go : ∀ (z : Bool) (Q : m_F → Prop), q_isof (K p) v = z → Q (0, [], [vI (k_bit z)], σ) → m_T E 65535 18 37 (0, [some (vI (σ.1 12 0 p)), some (vI (nI v)), none, none], [], σ) Q := fun z Q hz h => by
        rw [x4]; exact s_cis _ _ x2 x3 (by omega) (by rw [hz]; exact h)
      have mo : ∀ (z : Bool) (τ : m_M) (Q : m_F → Prop), q_isof (K p) v = z → τ.1 13 3 = σ.1 13 3 → Q (0, [], [vI (k_bit z)], τ) → m_T E 65535 18 148 (0, [some (vI (τ.1 13 3 (69 + 4 * p + 0))), some (vI (nI v))], [], τ) Q := fun z τ Q hz e h => by
        rw [e, Nat.add_zero, x1]; exact s_mis _ _ x2 x3 (by omega) (by rw [hz]; exact h)
      have xi : 0 ≤ (nI v).toInt := hb.1
      cases hB : q_isof (K p) v with
      | true =>
        refine go true _ hB ⟨fun _ => ⟨_, rfl, ?_⟩, fun q => absurd q (by decide)⟩
        refine m_T_un 60 (fun y _ => Nat.beq y 123 || Nat.beq y 116 || Nat.beq y 148 || Nat.beq y 87) ?_
        refine s_one1 (N := N) w6 w7 hr.1 hr.2 ⟨fun q => absurd q k_no1, fun _ => ?_⟩
        refine s_inA1 0 5 k_L0 k_l5 hb.1 hb.2 ⟨fun _ => ?_, fun q => absurd q k_no1⟩
        refine s_of p 0 (by omega) (by omega) rfl rfl ?_
        exact mo true _ _ hB rfl ⟨fun q => absurd q (by decide), fun _ => ⟨rfl, z_nof hs1⟩⟩
      | false =>
        refine go false _ hB ⟨fun q => absurd rfl q, fun _ => ⟨_, rfl, ?_⟩⟩
        refine m_T_un 60 (fun y _ => Nat.beq y 123 || Nat.beq y 116 || Nat.beq y 148 || Nat.beq y 87) ?_
        refine s_one1 (N := N) w6 w7 hr.1 hr.2 ⟨fun q => absurd q k_no1, fun _ => ?_⟩
        refine s_inA1 0 5 k_L0 k_l5 hb.1 hb.2 ⟨fun _ => ?_, fun q => absurd q k_no1⟩
        refine s_of p 0 (by omega) (by omega) rfl rfl ?_
        exact mo false _ _ hB rfl ⟨fun _ => ⟨rfl, z_find hs1⟩, fun q => absurd rfl q⟩
    · refine s_outA1 0 5 k_0 k_5 (by omega) ⟨fun q => absurd q k_no1, fun _ => ⟨_, rfl, ?_⟩⟩
      refine m_T_un 60 (fun y _ => Nat.beq y 123 || Nat.beq y 116 || Nat.beq y 148 || Nat.beq y 87) ?_
      refine s_one1 (N := N) w6 w7 hr.1 hr.2 ⟨fun q => absurd q k_no1, fun _ => ?_⟩
      exact s_inA0 0 5 k_L0 k_l5 (by omega) ⟨fun q => absurd rfl q, fun _ => ⟨rfl, hs2⟩⟩
  · refine s_has0 hN w7 (by omega) ⟨fun _ => ⟨_, rfl, ?_⟩, fun q => absurd rfl q⟩
    refine m_T_un 60 (fun y _ => Nat.beq y 123 || Nat.beq y 116 || Nat.beq y 148 || Nat.beq y 87) ?_
    exact s_one0 (N := N) w6 w7 (by omega) ⟨fun _ => ⟨rfl, hs2⟩, fun q => absurd rfl q⟩
