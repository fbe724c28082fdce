/-! pair feed, whole -/
theorem q_sim_tp {D : Nat} {σ τ : m_M} (hc : ∀ c v, ¬ c = 4 → ¬ c = 6 → ¬ (c = 12 ∧ v = 28) → ¬ (c = 13 ∧ v = 5) → ¬ (c = 13 ∧ v = 4) → τ.1 c v = σ.1 c v) (h1 : τ.1 6 0 1 = σ.1 6 0 1) (h7 : τ.1 6 0 7 = σ.1 6 0 7) (ha : τ.1 6 0 10 = σ.1 6 0 10) (hm : τ.1 6 0 22 = σ.1 6 0 22) (ht : q_tape τ) (h : q_sim D σ) : q_sim D τ := by
  obtain ⟨a1, a2, a3, a4, a5, a6, a7, a8⟩ := h
  refine ⟨fun r hr => q_row_eq (hc _ _ (by omega) (by omega) (by omega) (by omega) (by omega)) (hc _ _ (by omega) (by omega) (by omega) (by omega) (by omega)) (hc _ _ (by omega) (by omega) (by omega) (by omega) (by omega)) (hc _ _ (by omega) (by omega) (by omega) (by omega) (by omega)) (hc _ _ (by omega) (by omega) (by omega) (by omega) (by omega)) (a1 r hr), ?_, ?_, ht, ?_, q_town_eq (fun j _ => by rw [hc 5 0 (by omega) (by omega) (by omega) (by omega) (by omega)]) (fun k _ => hc _ _ (by omega) (by omega) (by omega) (by omega) (by omega)) (hc _ _ (by omega) (by omega) (by omega) (by omega) (by omega)) a6, ?_, q_trace_eq (by rw [hc 1 0 (by omega) (by omega) (by omega) (by omega) (by omega)]) hm (hc _ _ (by omega) (by omega) (by omega) (by omega) (by omega)) (hc _ _ (by omega) (by omega) (by omega) (by omega) (by omega)) a8⟩
  · rw [hc 0 0 (by omega) (by omega) (by omega) (by omega) (by omega), h1]; exact a2
  · rw [hc 0 0 (by omega) (by omega) (by omega) (by omega) (by omega), ha]; exact a3
  · rw [hc 5 0 (by omega) (by omega) (by omega) (by omega) (by omega), h7]; exact a5
  · intro k hk
    rw [hc 5 (2 + k) (by omega) (by omega) (by omega) (by omega) (by omega), hc 15 0 (by omega) (by omega) (by omega) (by omega) (by omega)]
    obtain ⟨b1, b2, b3⟩ := a7 k hk
    exact ⟨b1, b2, fun q => ⟨by rw [h7]; exact (b3 q).1, q_town_eq (fun j _ => by rw [hc 5 (2 + k) (by omega) (by omega) (by omega) (by omega) (by omega)]) (fun i _ => hc _ _ (by omega) (by omega) (by omega) (by omega) (by omega)) (hc _ _ (by omega) (by omega) (by omega) (by omega) (by omega)) (b3 q).2⟩⟩
theorem k_1 : (Int32.ofInt 1).toInt = 1 := by decide
theorem k_8 : ((Int8.ofInt 8).toInt32).toInt = 8 := by decide
theorem k_l8 : (m_nth m_kL 2 0).toInt = 8 := by decide
theorem k_500 : (Int16.ofInt 500).toInt32 = nI 500 := rfl
theorem p_feed {E : m_E} {D : Nat} {σ : m_M} (hD : D < 512) (hs : q_sim D σ) (a : Int64) (b : Int32) : q_pair E D 8 92 [vL a, vI b] σ := by
  have hs1 : q_sim (D + 1) σ := q_sim_more (Nat.le_succ D) hs
  have hs2 : q_sim (D + 1) (m_up σ 6 0 0 (Int32.ofInt 0)) := z_thr hs1
  refine m_T_un 60 (fun y pc => Nat.beq y 2 || (Nat.beq y 8 && Nat.beq pc 36)) ?_
  by_cases hb : 1 ≤ b.toInt ∧ b.toInt ≤ 8
  · obtain ⟨n, hn, rfl⟩ := k_of (n := 9) (show 0 ≤ b.toInt by omega) (by omega)
    rw [k_nI (by omega)] at hb
    obtain ⟨L, hL, t1, t2, t3⟩ := hs1.2.2.2.1
    have hb1 : (1 : Int) ≤ (nI n).toInt := by rw [k_nI (by omega)]; exact hb.1
    have hb2 : (nI n).toInt ≤ 8 := by rw [k_nI (by omega)]; exact hb.2
    refine s_outA0 1 8 k_1 k_8 hb1 hb2 ⟨fun _ => ?_, fun q => absurd rfl q⟩
    by_cases hLn : L + n ≤ 500
    · refine ⟨fun _ => ?_, fun q => ?_⟩
      · refine s_cfdE (L := L) t1 hLn (by omega) (fun τ hP => ?_)
        obtain ⟨p1, p2, p3, p4⟩ := hP
        refine ⟨_, rfl, ?_⟩
        refine m_T_un 60 (fun y pc => Nat.beq y 87 || (Nat.beq y 92 && Nat.beq pc 40)) ?_
        refine s_inA1 1 8 k_L1 k_l8 hb1 hb2 ⟨fun _ => ?_, fun q => absurd q k_no1⟩
        have g1 : τ.1 6 0 9 = nI L := by rw [p4 6 0 (by omega) (by omega)]; exact t2
        have g2 : τ.1 13 5 = σ.1 13 5 := p4 13 5 (by omega) (by omega)
        refine ⟨fun _ => ?_, fun q => ?_⟩
        · refine s_mfdE (L := L) g1 hLn (by omega) (fun ρ hP => ?_)
          obtain ⟨r1, r2, r3, r4, r5⟩ := hP
          have c1 : ∀ c v, ¬ c = 4 → ¬ c = 6 → ¬ (c = 12 ∧ v = 28) → ¬ (c = 13 ∧ v = 5) → ¬ (c = 13 ∧ v = 4) → ρ.1 c v = σ.1 c v := fun c v u1 u2 u3 u4 u5 => by
            rw [r4 c v (by omega) (by omega), show (m_up τ 6 0 0 (Int32.ofInt 0)).1 c v = τ.1 c v from m_up_other (by omega), p4 c v (by omega) (by omega)]
          have c6 : ∀ j, ¬ j = 9 → ¬ j = 0 → ρ.1 6 0 j = σ.1 6 0 j := fun j u1 u2 => by
            rw [r5 j u1, show (m_up τ 6 0 0 (Int32.ofInt 0)).1 6 0 j = τ.1 6 0 j from m_up_ne u2, p4 6 0 (by omega) (by omega)]
          have c4 : ρ.1 4 0 1 = τ.1 4 0 1 := by rw [r4 4 0 (by omega) (by omega)]; rfl
          have c12 : ρ.1 12 28 = τ.1 12 28 := by rw [r4 12 28 (by omega) (by omega)]; exact m_up_other (by omega)
          refine ⟨z_v (by rw [r1, p1]), ?_⟩
          refine q_sim_tp (σ := σ) c1 (c6 1 (by omega) (by omega)) (c6 7 (by omega) (by omega)) (c6 10 (by omega) (by omega)) (c6 22 (by omega) (by omega)) ⟨L + n, hLn, by rw [c4, p1]; rfl, r1, fun j hj => ?_⟩ hs1
          by_cases hjL : j < L
          · rw [c12, p3 j hjL, r3 j hjL, show (m_up τ 6 0 0 (Int32.ofInt 0)).1 13 5 = τ.1 13 5 from m_up_other (by omega), g2]
            exact t3 j hjL
          · have e : j = L + (n - 1 - (n - 1 - (j - L))) := by omega
            have e1 := p2 (n - 1 - (j - L)) (Nat.zero_le _) (by omega)
            have e2 := r2 (n - 1 - (j - L)) (Nat.zero_le _) (by omega)
            rw [← e] at e1 e2
            rw [c12, e1, e2, ← f_eq a _ (by omega)]
            exact ⟨rfl, f_b a _⟩
        · have q : ¬ τ.1 6 0 9 + nI n ≤ (Int16.ofInt 500).toInt32 := q
          rw [g1, nI_add] at q
          exact absurd (nI_le hLn (by decide)) q
      · have q : ¬ σ.1 4 0 1 + nI n ≤ (Int16.ofInt 500).toInt32 := q
        rw [t1, nI_add] at q
        exact absurd (nI_le hLn (by decide)) q
    · refine ⟨fun q => ?_, fun q => ⟨_, rfl, ?_⟩⟩
      · have q : σ.1 4 0 1 + nI n ≤ (Int16.ofInt 500).toInt32 := q
        rw [t1, nI_add] at q
        exact absurd q (nI_ge (show 500 < L + n by omega) (by omega))
      · refine m_T_un 60 (fun y pc => Nat.beq y 87 || (Nat.beq y 92 && Nat.beq pc 40)) ?_
        refine s_inA1 1 8 k_L1 k_l8 hb1 hb2 ⟨fun _ => ?_, fun q => absurd q k_no1⟩
        refine ⟨fun q => ?_, fun q => ⟨rfl, hs2⟩⟩
        have q : σ.1 6 0 9 + nI n ≤ (Int16.ofInt 500).toInt32 := q
        rw [t2, nI_add] at q
        exact absurd q (nI_ge (show 500 < L + n by omega) (by omega))
  · refine s_outA1 1 8 k_1 k_8 (by omega) ⟨fun q => absurd q k_no1, fun _ => ⟨_, rfl, ?_⟩⟩
    refine m_T_un 60 (fun y pc => Nat.beq y 87 || (Nat.beq y 92 && Nat.beq pc 40)) ?_
    exact s_inA0 1 8 k_L1 k_l8 (by omega) ⟨fun q => absurd rfl q, fun _ => ⟨rfl, hs2⟩⟩
