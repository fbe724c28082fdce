/-! pair town -/
theorem q_sim_tw {D : Nat} {σ τ : m_M} (hc : ∀ c v, ¬ c = 0 → ¬ c = 4 → ¬ c = 6 → ¬ (c = 5 ∧ v < 2) → ¬ (c = 12 ∧ v < 10) → ¬ (c = 13 ∧ (v = 3 ∨ v = 4)) → τ.1 c v = σ.1 c v) (h8 : τ.1 0 0 8 = τ.1 6 0 1) (h07 : τ.1 0 0 7 = τ.1 6 0 10) (h4 : τ.1 4 0 1 = 0) (h9 : τ.1 6 0 9 = 0) (hst : τ.1 5 0 0 = τ.1 6 0 7 ∧ q_bit (τ.1 6 0 7)) (h7 : σ.1 6 0 7 = 1 → τ.1 6 0 7 = 1) (hm : τ.1 6 0 22 = σ.1 6 0 22) (ht : q_town τ D 0 3 0) (h : q_sim D σ) : q_sim D τ := by
  obtain ⟨a1, a2, a3, a4, a5, a6, a7, a8⟩ := h
  have g : ∀ c v, ¬ c = 0 → ¬ c = 4 → ¬ c = 6 → ¬ (c = 5 ∧ v < 2) → ¬ (c = 12 ∧ v < 10) → ¬ (c = 13 ∧ (v = 3 ∨ v = 4)) → τ.1 c v = σ.1 c v := hc
  refine ⟨fun r hr => q_row_eq (g _ _ (by omega) (by omega) (by omega) (by omega) (by omega) (by omega)) (g _ _ (by omega) (by omega) (by omega) (by omega) (by omega) (by omega)) (g _ _ (by omega) (by omega) (by omega) (by omega) (by omega) (by omega)) (g _ _ (by omega) (by omega) (by omega) (by omega) (by omega) (by omega)) (g _ _ (by omega) (by omega) (by omega) (by omega) (by omega) (by omega)) (a1 r hr), h8, h07, ⟨0, by omega, h4, h9, fun j hj => absurd hj (Nat.not_lt_zero j)⟩, hst, ht, ?_, q_trace_eq (by rw [g 1 0 (by omega) (by omega) (by omega) (by omega) (by omega) (by omega)]) hm (g _ _ (by omega) (by omega) (by omega) (by omega) (by omega) (by omega)) (g _ _ (by omega) (by omega) (by omega) (by omega) (by omega) (by omega)) a8⟩
  intro k hk
  rw [g 5 (2 + k) (by omega) (by omega) (by omega) (by omega) (by omega) (by omega), g 15 0 (by omega) (by omega) (by omega) (by omega) (by omega) (by omega)]
  obtain ⟨b1, b2, b3⟩ := a7 k hk
  exact ⟨b1, b2, fun q => ⟨h7 (b3 q).1, q_town_eq (fun j _ => by rw [g 5 (2 + k) (by omega) (by omega) (by omega) (by omega) (by omega) (by omega)]) (fun i _ => g _ _ (by omega) (by omega) (by omega) (by omega) (by omega) (by omega)) (g _ _ (by omega) (by omega) (by omega) (by omega) (by omega) (by omega)) (b3 q).2⟩⟩
theorem p_town {E : m_E} {D : Nat} {σ : m_M} (hD : D < 512) (hs : q_sim D σ) : q_pair E D 9 93 [] σ := by
  have hs1 : q_sim (D + 1) σ := q_sim_more (Nat.le_succ D) hs
  obtain ⟨n, hn, ht1, ht2, htb⟩ := hs1.2.2.2.1
  have hBB : ∀ j, j < n → σ.1 13 5 j = nI ((σ.1 13 5 j).toNatClampNeg) ∧ (σ.1 13 5 j).toNatClampNeg < 256 := fun j hj => by
    obtain ⟨-, b, hb, e⟩ := htb j hj
    rw [e, k_cl (by omega)]
    exact ⟨rfl, hb⟩
  obtain ⟨B, hBd⟩ : ∃ B : Nat → Nat, B = fun j => (σ.1 13 5 j).toNatClampNeg := ⟨_, rfl⟩
  have hBm : ∀ j, j < n → σ.1 13 5 j = nI (B j) ∧ B j < 256 := by rw [hBd]; exact hBB
  have hBc : ∀ j, j < n → σ.1 12 28 j = nI (B j) ∧ B j < 256 := fun j hj => ⟨(htb j hj).1.trans (hBm j hj).1, (hBm j hj).2⟩
  obtain ⟨k, hk⟩ : ∃ k, k = 25 := ⟨25, rfl⟩
  obtain ⟨S7, h7⟩ : ∃ S, S = t_h7 B n := ⟨_, rfl⟩
  obtain ⟨A, hA⟩ : ∃ A, t_lp B n k (S7, 0, fun _ => 0, fun _ => 0, fun _ => 0) = A := ⟨_, rfl⟩
  have o7 : t_ok B n S7 := by rw [h7]; exact t_h7_ok
  obtain ⟨oA, NA⟩ := t_all_ok o7 hA
  have bA : ∀ p, p < A.2.1 → 1 ≤ A.2.2.1 p ∧ A.2.2.1 p ≤ 5 ∧ A.2.2.2.1 p ≤ 9 ∧ A.2.2.2.2 p ≤ 99 := by
    rw [← hA]
    exact t_lp_b k _ (fun p hp => absurd hp (Nat.not_lt_zero p))
  have s4 := oA.2.2.2.1
  have st := hs1.2.2.2.2.1
  refine m_T_un 60 (fun y _ => Nat.beq y 57 || Nat.beq y 70) ?_
  refine s_crt hk h7 hA hn ht1 hBc (fun τ R => ?_)
  obtain ⟨r2, r5, ⟨d1, d2, d3⟩, ⟨e0, e1, e2, e3, e4, e5, e6, e7⟩, ro⟩ := R
  refine ⟨fun q => ?_, fun q => ?_⟩
  · have q : τ.1 4 0 5 = nI 0 := q
    rw [r5, nI_eq (by omega) (by omega)] at q
    have g7 : S7.2.2.2 = 0 := t_lp_0 (B := B) (n := n) k (S7, 0, fun _ => 0, fun _ => 0, fun _ => 0) (by rw [hA]; exact q)
    obtain ⟨-, lw3, -, -, -, cm⟩ := t_h_0 (B := B) (n := n) (by rw [← h7]; exact g7)
    have elw : t_lx (t_lw B (t_h2 B n)) = nI (t_lw B (t_h2 B n)) := by
      unfold t_lx
      rw [show Nat.beq (t_lw B (t_h2 B n)) 3 = false from Bool.eq_false_iff.mpr (fun h => by have := Nat.eq_of_beq_eq_true h; omega)]
      rfl
    rw [if_pos q] at e0
    refine s_bec (v := 0) (w := 1) (N := A.2.1) (m := A.2.1) (by omega) (by omega) (by omega) (by rw [m_up_other (by omega)]; exact d1) (by omega) (by rw [m_up_other (by omega)]; exact d2) (by omega) (Or.inr (by rw [m_up_other (by omega)]; exact e0)) (fun τ2 C2 => ?_)
    obtain ⟨c1, c2, c3, c4, -⟩ := C2
    have f5 : ∀ j, j < 10 → τ2.1 5 0 j = τ.1 5 1 j := fun j hj => (c1 j hj).trans (by rw [m_up_other (by omega)])
    have f12 : ∀ kk p, kk < 4 → p < A.2.1 → τ2.1 12 kk p = τ.1 12 (5 + kk) p := fun kk p h1 h2 => by
      have e := c2 kk p h1 h2
      rw [show 5 * 0 + kk = kk by omega, show 5 * 1 + kk = 5 + kk by omega, m_up_other (by omega)] at e
      exact e
    have f4 : ∀ i, i < A.2.1 → τ2.1 12 4 i = τ.1 12 9 i := fun i hi => by
      have e := c3 i hi
      rw [m_up_other (by omega)] at e
      exact e
    have fo : ∀ c v, ¬ (c = 4 ∧ v = 0) → ¬ (c = 5 ∧ v < 2) → ¬ (c = 12 ∧ v < 10) → τ2.1 c v = σ.1 c v := fun c v u1 u2 u3 => by
      rw [c4 c v (by omega) (by omega), m_up_other (by omega), ro c v u1 (by omega) (by omega)]
    refine ⟨_, rfl, ?_⟩
    refine s_mtw (r := 13) hk h7 hA hn (by rw [fo 6 0 (by omega) (by omega) (by omega)]; exact ht2) (fun j hj => by rw [fo 13 5 (by omega) (by omega) (by omega)]; exact hBm j hj) (fun g => absurd q g) (fun _ ρ O i10 i7 G Or_ => ?_)
    obtain ⟨⟨m0, m1, m2, m3, m4, m5, m6⟩, m7, m8, mp⟩ := G
    have n8 : τ2.1 5 0 8 = nI A.2.1 := (f5 8 (by omega)).trans d1
    refine ⟨z_v n8.symm, ?_⟩
    have p5 : ρ.1 5 0 = τ2.1 5 0 := Or_ 5 0 (by omega) (by omega)
    have p12 : ∀ v, ρ.1 12 v = τ2.1 12 v := fun v => Or_ 12 v (by omega) (by omega)
    refine q_sim_tw (σ := σ) (fun c v u1 u2 u3 u4 u5 u6 => ?_) ?_ ?_ ?_ O.2 ⟨?_, Or.inr i7⟩ (fun _ => i7) ?_ (q_town_of (N := A.2.1) (m := A.2.1) (w := t_lw B (t_h2 B n)) (a := t_vl B (t_h5 B n)) (d := 0) (L := fun i => i) (K := A.2.2.1) (R := A.2.2.2.1) (H := A.2.2.2.2) ⟨⟨m0, by omega, m3, cm, m4, Nat.zero_le _, m7, by omega, m8, Nat.le_refl _, fun i hi => ⟨(mp i hi).2.2.2.2, hi⟩, fun i j _ _ h => h, fun p hp => ?_⟩, fun j hj => ?_, fun i hi => ?_, fun p hp => ?_⟩) hs1
    · rw [Or_ c v (by omega) u6, fo c v (by omega) u4 u5]
    · rw [Or_ 0 0 (by omega) (by omega), fo 0 0 (by omega) (by omega) (by omega), O.1 1 (by omega), fo 6 0 (by omega) (by omega) (by omega)]
      exact hs1.2.1
    · rw [Or_ 0 0 (by omega) (by omega), fo 0 0 (by omega) (by omega) (by omega), i10, fo 6 0 (by omega) (by omega) (by omega)]
      exact hs1.2.2.1
    · rw [Or_ 4 0 (by omega) (by omega), c4 4 0 (by omega) (by omega), m_up_eq rfl]
      rfl
    · rw [p5, i7, f5 0 (by omega)]
      exact e0
    · rw [O.1 22 (by omega), fo 6 0 (by omega) (by omega) (by omega)]
    · obtain ⟨b1, b2, b3, b4⟩ := bA p hp
      obtain ⟨x1, x2, x3, x4, x5⟩ := mp p hp
      exact ⟨x1, b1, b2, x2, b3, x3, b4, fun _ => x4⟩
    · rw [p5, f5 (1 + j) (by omega)]
      obtain rfl | rfl | rfl | rfl | rfl | rfl | rfl | rfl | rfl : j = 0 ∨ j = 1 ∨ j = 2 ∨ j = 3 ∨ j = 4 ∨ j = 5 ∨ j = 6 ∨ j = 7 ∨ j = 8 := by omega
      · exact e1.trans (elw.trans m0.symm)
      · exact e2.trans m1.symm
      · exact e3.trans m2.symm
      · exact e4.trans m3.symm
      · exact e5.trans m4.symm
      · exact e6.trans m5.symm
      · exact e7.trans m6.symm
      · exact d1.trans m7.symm
      · exact d2.trans m8.symm
    · show ρ.1 12 4 i = ρ.1 13 3 (9 + i)
      rw [p12, f4 i hi, (d3 i hi).2.2.2.2]
      exact (mp i hi).2.2.2.2.symm
    · obtain ⟨x1, x2, x3, x4, x5⟩ := mp p hp
      obtain ⟨y1, y2, y3, y4, y5⟩ := d3 p hp
      show ρ.1 12 0 p = ρ.1 13 3 (69 + 4 * p) ∧ ρ.1 12 1 p = ρ.1 13 3 (70 + 4 * p) ∧ ρ.1 12 2 p = ρ.1 13 3 (71 + 4 * p) ∧ ((ρ.1 12 3 p = 0 ∧ ρ.1 13 3 (72 + 4 * p) = -1000000) ∨ (0 < ρ.1 12 3 p ∧ ρ.1 13 3 (72 + 4 * p) = ρ.1 12 3 p))
      rw [p12, p12, p12, p12, f12 0 p (by omega) hp, f12 1 p (by omega) hp, f12 2 p (by omega) hp, f12 3 p (by omega) hp]
      exact ⟨y1.trans x1.symm, y2.trans x2.symm, y3.trans x3.symm, Or.inl ⟨y4, x4⟩⟩
  · have q : ¬ τ.1 4 0 5 = nI 0 := q
    rw [r5, nI_eq (by omega) (by omega)] at q
    have fin : ∀ (x y : Int32), x = nI A.1.2.2.2 → y = nI A.1.1 → ∃ v, [vI (m_nth m_kI 5 0 - y)] = [vI v] ∧ m_T E 65535 19 93 (0, m_entry 93 [vR 6 0], [], m_up (m_up τ 4 0 1 (Int32.ofInt 0)) 0 0 7 x) (fun g => g.2.2.1 = [vI v] ∧ q_sim (D + 1) g.2.2.2) := fun x y hx hy => by
      subst hx
      subst hy
      refine ⟨_, rfl, ?_⟩
      have fo : ∀ c v, ¬ c = 0 → ¬ (c = 4 ∧ v = 0) → ¬ (c = 5 ∧ v < 2) → ¬ (c = 12 ∧ 5 ≤ v ∧ v < 10) → (m_up (m_up τ 4 0 1 (Int32.ofInt 0)) 0 0 7 (nI A.1.2.2.2)).1 c v = σ.1 c v := fun c v u0 u1 u2 u3 => by
        rw [m_up_other (by omega), m_up_other (by omega), ro c v u1 (by omega) (by omega)]
      have fo5 : ∀ v, ¬ v = 1 → (m_up (m_up τ 4 0 1 (Int32.ofInt 0)) 0 0 7 (nI A.1.2.2.2)).1 5 v = σ.1 5 v := fun v u => by
        rw [m_up_other (by omega), m_up_other (by omega), ro 5 v (by omega) (by omega) (by omega)]
      refine s_mtw (r := 13) hk h7 hA hn (by rw [fo 6 0 (by omega) (by omega) (by omega) (by omega)]; exact ht2) (fun j hj => by rw [fo 13 5 (by omega) (by omega) (by omega) (by omega)]; exact hBm j hj) (fun _ ρ O i10 i7 Or_ => ⟨rfl, ?_⟩) (fun g => absurd g q)
      have p13 : ρ.1 13 3 = σ.1 13 3 := by rw [Or_ 13 3 (by omega) (by omega), fo 13 3 (by omega) (by omega) (by omega) (by omega)]
      have j7 : ρ.1 6 0 7 = σ.1 6 0 7 := by rw [i7, fo 6 0 (by omega) (by omega) (by omega) (by omega)]
      refine q_sim_tw (σ := σ) (fun c v u1 u2 u3 u4 u5 u6 => ?_) ?_ ?_ ?_ O.2 ⟨?_, ?_⟩ (fun h => j7.trans h) ?_ ?_ hs1
      · rw [Or_ c v (by omega) (by omega), fo c v u1 (by omega) u4 (by omega)]
      · rw [Or_ 0 0 (by omega) (by omega), m_up_ne (by omega), m_up_other (by omega), ro 0 0 (by omega) (by omega) (by omega), O.1 1 (by omega), fo 6 0 (by omega) (by omega) (by omega) (by omega)]
        exact hs1.2.1
      · rw [Or_ 0 0 (by omega) (by omega), m_up_eq rfl, i10]
      · rw [Or_ 4 0 (by omega) (by omega), m_up_other (by omega), m_up_eq rfl]
        rfl
      · rw [Or_ 5 0 (by omega) (by omega), fo5 0 (by omega), j7]
        exact st.1
      · rw [j7]
        exact st.2
      · rw [O.1 22 (by omega), fo 6 0 (by omega) (by omega) (by omega) (by omega)]
      · exact q_town_eq (fun j _ => by rw [Or_ 5 0 (by omega) (by omega), fo5 0 (by omega)]) (fun i hi => by rw [Or_ 12 _ (by omega) (by omega), fo 12 _ (by omega) (by omega) (by omega) (by omega)]) p13 hs1.2.2.2.2.2.1
    exact fin _ _ r5 r2
