/-! pair call, whole -/
def k_cc : Nat → Nat → Bool := fun y _ => Nat.beq y 76 || Nat.beq y 77 || Nat.beq y 48 || Nat.beq y 78 || Nat.beq y 50
def k_cm : Nat → Nat → Bool := fun y _ => Nat.beq y 123 || Nat.beq y 124 || Nat.beq y 116 || Nat.beq y 114 || Nat.beq y 120
theorem k_tn (p k : Nat) : (Int8.ofInt 69).toInt32 + Int32.ofInt 4 * nI p + nI k = nI (69 + 4 * p + k) := by
  rw [show (Int8.ofInt 69).toInt32 = nI 69 from rfl, show Int32.ofInt 4 = nI 4 from rfl, pk_mul, nI_add, nI_add]
theorem s_isH0w {E : m_E} {r : Nat} {σ : m_M} {Q : m_F → Prop} {D N m w a d : Nat} {L K R H : Nat → Nat} (hT : q_wf (σ.1 13 3) D N m w a d L K R H) {x : Int32} (hx : ∀ i, i < m → ¬ nI (L i) = x) (hq : Q (0, [], [vI (Int32.ofInt 0)], σ)) : m_T E 65535 (r + 2) 124 (0, [some (vR 6 0), some (vI x)], [], σ) Q := by
  obtain ⟨w0, w1, w2, w3, w4, w5, w6, w7, w8, w9, wa, wb, wc⟩ := hT
  refine m_T_un 20 (fun y _ => Nat.beq y 114 || Nat.beq y 123) ?_
  by_cases h : 0 ≤ x.toInt ∧ x.toInt < N
  · refine s_one1 (N := N) w6 w7 h.1 h.2 ⟨fun q => absurd q k_no1, fun _ => ?_⟩
    exact s_mpl0 w8 (show m ≤ 60 by omega) (fun t ht q => hx t ht ((wa t ht).1.symm.trans q)) ⟨fun _ => ⟨Or.inl rfl, hq⟩, fun q => absurd rfl q⟩
  · exact s_one0 (N := N) w6 w7 (by omega) ⟨fun _ => ⟨Or.inl rfl, hq⟩, fun q => absurd rfl q⟩
theorem k_pig1 {N m p : Nat} {L : Nat → Nat} (hp : p < N) (hb : ∀ i, i < m → L i < N) (hi : ∀ i j, i < m → j < m → L i = L j → i = j) (hn : ∀ i, i < m → ¬ L i = p) : m < N := by
  have h := k_pig N (m + 1) (fun i => if i = m then p else L i) (fun i hi => by
    show (if i = m then p else L i) < N
    by_cases e1 : i = m
    · rw [if_pos e1]; exact hp
    · rw [if_neg e1]; exact hb i (by omega)) (fun i j hi' hj q => by
    have q : (if i = m then p else L i) = (if j = m then p else L j) := q
    by_cases e1 : i = m <;> by_cases e2 : j = m
    · omega
    · rw [if_pos e1, if_neg e2] at q
      exact absurd q.symm (hn j (by omega))
    · rw [if_neg e1, if_pos e2] at q
      exact absurd q (hn i (by omega))
    · rw [if_neg e1, if_neg e2] at q
      exact hi i j (by omega) (by omega) q)
  omega
theorem s_mst {E : m_E} {r m : Nat} {σ : m_M} {Q : m_F → Prop} {x : Int32} (hm : σ.1 13 3 8 = nI m) (h60 : m < 60) (hq : Q (0, [], [], m_up (m_up σ 13 3 (9 + m) x) 13 3 8 (nI (m + 1)))) : m_T E 65535 r 120 (0, [some (vR 6 0), some (vI x)], [], σ) Q := by
  have i8 : vp_in ((Int8.ofInt 8).toInt32) 309 := k_in (k := 8) (n := 309) (by decide) (by decide)
  have e1 : (Int8.ofInt 9).toInt32 + σ.1 13 3 8 = nI (9 + m) := by rw [hm]; exact k_9 m
  have e2 : (m_up σ 13 3 (9 + m) x).1 13 3 8 + Int32.ofInt 1 = nI (m + 1) := by
    rw [m_up_ne (by omega), hm, show Int32.ofInt 1 = nI 1 from rfl, nI_add]
  refine m_T_un 40 m_no ?_
  refine ⟨i8, show vp_in ((Int8.ofInt 9).toInt32 + σ.1 13 3 8) 309 by rw [e1]; exact k_in (by omega) (by decide), i8, i8, ?_⟩
  have h2 : Q (0, [], [], m_up (m_up σ 13 3 ((Int8.ofInt 9).toInt32 + σ.1 13 3 8).toNatClampNeg x) 13 3 8 ((m_up σ 13 3 ((Int8.ofInt 9).toInt32 + σ.1 13 3 8).toNatClampNeg x).1 13 3 8 + Int32.ofInt 1)) := by
    rw [e1, k_cl (by omega), e2]; exact hq
  exact h2
theorem p_call {E : m_E} {D : Nat} {σ : m_M} (hD : D < 512) (hs : q_sim D σ) (a : Int32) : q_pair E D 14 125 [vI a] σ := by
  have hs1 : q_sim (D + 1) σ := q_sim_more (Nat.le_succ D) hs
  have hs2 : q_sim (D + 1) (m_up σ 6 0 0 (Int32.ofInt 0)) := z_thr hs1
  obtain ⟨N, m, w, c', d', L, K, R, H, hw, hc⟩ := q_town0 hs1.2.2.2.2.2.1
  have hT : q_T σ (D + 1) N m w c' d' L K R H := ⟨hw, hc⟩
  have hT2 : q_T (m_up σ 6 0 0 (Int32.ofInt 0)) (D + 1) N m w c' d' L K R H := ⟨hw, hc⟩
  obtain ⟨⟨w0, w1, w2, w3, w4, w5, w6, w7, w8, w9, wa, wb, wc⟩, c1, c2, c3⟩ := hT
  have hT : q_T σ (D + 1) N m w c' d' L K R H := ⟨hw, hc⟩
  have hN : σ.1 5 0 8 = nI N := (c1 7 (by omega)).trans w6
  have hm : σ.1 5 0 9 = nI m := (c1 8 (by omega)).trans w8
  have hm' : σ.1 13 3 8 = nI m := w8
  refine m_T_un 60 k_cc ?_
  by_cases hr : 0 ≤ a.toInt ∧ a.toInt < N
  · obtain ⟨p, hp, rfl⟩ := k_of hr.1 hr.2
    refine s_has1 hN w7 hr.1 hr.2 ⟨fun _ => ?_, fun q => absurd q k_no1⟩
    have mo : ∀ (τ : m_M) (Q : m_F → Prop), (m_up τ 6 0 0 (Int32.ofInt 0)).1 13 3 7 = nI N → m_T E 65535 19 125 (16, [some (vR 6 0), some (vI (nI p))], [], m_up τ 6 0 0 (Int32.ofInt 0)) Q → m_T E 65535 19 125 (0, m_entry 125 [vR 6 0, vI (nI p)], [], τ) Q := fun τ Q h7 hh => by
      refine m_T_un 60 (fun y pc => k_cm y pc || (Nat.beq y 125 && Nat.beq pc 16)) ?_
      exact s_one1 (N := N) h7 w7 hr.1 hr.2 ⟨fun _ => hh, fun q => absurd q k_no1⟩
    by_cases hi : ∃ i, i < m ∧ L i = p
    · obtain ⟨i, hi, rfl⟩ := hi
      refine s_isIn1 hT i hi ⟨fun q => absurd q k_no1, fun _ => ⟨_, rfl, mo _ _ w6 (m_T_un 60 k_cm ?_)⟩⟩
      exact s_isH1 hT2 i hi ⟨fun q => absurd q k_no1, fun _ => ⟨rfl, hs2⟩⟩
    · have hn : ∀ i, i < m → ¬ L i = p := fun i h q => hi ⟨i, h, q⟩
      have hx : ∀ i, i < m → ¬ nI (L i) = nI p := fun i h q => hn i h ((nI_eq (by have := (wa i h).2; omega) (by omega)).mp q)
      have mN : m < N := k_pig1 hp (fun i h => (wa i h).2) wb hn
      refine s_isIn0 hT hx ⟨fun _ => ?_, fun q => absurd rfl q⟩
      refine s_put p rfl (show p < 60 by omega) ?_
      refine s_put (v := 4) m hm (show m < 60 by omega) ?_
      refine s_put p rfl (show p < 60 by omega) ?_
      refine ⟨_, rfl, mo _ _ w6 (m_T_un 60 k_cm ?_)⟩
      refine s_isH0w (D := D + 1) (N := N) (m := m) (w := w) (a := c') (d := d') (L := L) (K := K) (R := R) (H := H) ?_ hx ⟨fun _ => ?_, fun q => absurd rfl q⟩
      · exact hw
      have v0 : vp_in ((Int8.ofInt 69).toInt32 + Int32.ofInt 4 * nI p + Int32.ofInt 0) 309 := by rw [show Int32.ofInt 0 = nI 0 from rfl, k_tn]; exact k_in (by omega) (by decide)
      have v3 : vp_in ((Int8.ofInt 69).toInt32 + Int32.ofInt 4 * nI p + Int32.ofInt 3) 309 := by rw [show Int32.ofInt 3 = nI 3 from rfl, k_tn]; exact k_in (by omega) (by decide)
      have u0 : ((Int8.ofInt 69).toInt32 + Int32.ofInt 4 * nI p + Int32.ofInt 0).toNatClampNeg = 69 + 4 * p := by rw [show Int32.ofInt 0 = nI 0 from rfl, k_tn, k_cl (by omega), Nat.add_zero]
      have u3 : ((Int8.ofInt 69).toInt32 + Int32.ofInt 4 * nI p + Int32.ofInt 3).toNatClampNeg = 72 + 4 * p := by rw [show Int32.ofInt 3 = nI 3 from rfl, k_tn, k_cl (by omega)]; omega
      have i8 : vp_in ((Int8.ofInt 8).toInt32) 309 := k_in (k := 8) (n := 309) (by decide) (by decide)
      refine ⟨v0, v3, ?_⟩
      rw [u0, u3]
      refine s_mst (m := m) ?_ (by omega) ⟨i8, ?_⟩
      · rw [m_up_ne (by omega), m_up_ne (by omega)]
        exact hm'
      · have e9 : ∀ x : Int32, x = nI (m + 1) → [vI (x - Int32.ofInt 1)] = [vI (nI m)] := fun x h => by
          rw [h, show Int32.ofInt 1 = nI 1 from rfl, pk_sub (by omega)]
          rfl
        have e8 : σ.1 5 0 9 + Int32.ofInt 1 = nI (m + 1) := by rw [hm, show Int32.ofInt 1 = nI 1 from rfl, nI_add]
        refine ⟨(e9 _ rfl).trans (z_v hm.symm), ?_⟩
        refine q_sim_town (σ := σ) (fun c v g1 g2 g3 g4 g5 g6 => ?_) rfl rfl rfl rfl rfl rfl (q_town_of (z_call hT p hp hn (fun j => ?_) (fun q => ?_) ?_ ?_ (fun q => ?_) (fun i => ?_) (fun j => ?_))) hs1
        · rw [m_up_other (by omega), m_up_other (by omega), m_up_other (by omega), m_up_other (by omega), m_up_other (by omega), m_up_other (by omega), m_up_other (by omega), m_up_other (by omega), m_up_other (by omega)]
        · simp [m_up]; rfl
        · simp [m_up]; rfl
        · rw [m_up_other (by omega), m_up_other (by omega), m_up_other (by omega), m_up_other (by omega), m_up_other (by omega), m_up_other (by omega), m_up_other (by omega), m_up_other (by omega), m_up_other (by omega)]
        · rw [m_up_other (by omega), m_up_other (by omega), m_up_other (by omega), m_up_other (by omega), m_up_other (by omega), m_up_other (by omega), m_up_other (by omega), m_up_other (by omega), m_up_other (by omega)]
        · simp [m_up]
        · simp [m_up]
        · simp [m_up]
          by_cases g : j = 9
          · rw [if_pos g, if_pos g]; exact e8
          · rw [if_neg g, if_neg g]
  · refine s_has0 hN w7 (by omega) ⟨fun q => absurd rfl q, fun _ => ⟨_, rfl, ?_⟩⟩
    refine m_T_un 60 k_cm ?_
    exact s_one0 (N := N) w6 w7 (by omega) ⟨fun q => absurd rfl q, fun _ => ⟨rfl, hs2⟩⟩
