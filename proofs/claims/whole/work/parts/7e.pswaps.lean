/-! swaps: the model; the pair -/
section MSwaps
variable {E : m_E} {r : Nat} {σ : m_M} {Q : m_F → Prop} {D N m w a d : Nat} {L K R H : Nat → Nat}
theorem q_hm (hT : q_T σ D N m w a d L K R H) (t : Nat) (ht : t < m) : σ.1 13 3 (9 + t) = nI (L t) ∧ L t < 60 ∧ σ.1 13 3 (69 + 4 * L t + 2) = nI (H (L t)) ∧ H (L t) ≤ 99 := by
  obtain ⟨⟨w0, w1, w2, w3, w4, w5, w6, w7, w8, w9, wa, wb, wc⟩, c1, c2, c3⟩ := hT
  have h1 := wa t ht
  have h2 := wc (L t) h1.2
  exact ⟨h1.1, by omega, by rw [show 69 + 4 * L t + 2 = 71 + 4 * L t by omega]; exact h2.2.2.2.2.2.1, h2.2.2.2.2.2.2.1⟩
theorem s_mor (hT : q_T σ D N m w a d L K R H) (i j : Nat) (hi : i < m) (hj : j < m) (hq : Q (0, [], [vI (nI (H (L j) - H (L i)))], σ)) : m_T E 65535 (r + 1) 140 (0, [some (vR 6 0), some (vI (nI i)), some (vI (nI j)), none], [], σ) Q := by
  have m60 : m ≤ 60 := Nat.le_trans hT.1.2.2.2.2.2.2.2.2.2.1 hT.1.2.2.2.2.2.2.2.1
  obtain ⟨a1, a2, a3, a4⟩ := q_hm hT j hj
  obtain ⟨b1, b2, b3, b4⟩ := q_hm hT i hi
  have v : ∀ t, t < m → vp_in ((Int8.ofInt 9).toInt32 + nI t) 309 := fun t ht => by rw [k_9]; exact k_in (by omega) (by decide)
  have x : ∀ t, t < m → σ.1 13 3 ((Int8.ofInt 9).toInt32 + nI t).toNatClampNeg = σ.1 13 3 (9 + t) := fun t ht => by rw [k_9, k_cl (by omega)]
  refine m_T_un 60 (fun y _ => Nat.beq y 116) ?_
  refine ⟨v j hj, ?_⟩
  refine s_of (L j) 2 (by omega) (by omega) ((x j hj).trans a1) rfl ⟨v i hi, ?_⟩
  refine s_of (L i) 2 (by omega) (by omega) ((x i hi).trans b1) rfl ⟨fun q => ?_, fun q => ?_⟩
  · have q : σ.1 13 3 (69 + 4 * L j + 2) - σ.1 13 3 (69 + 4 * L i + 2) ≤ 0 := q
    rw [a3, b3, k_le, pk_sub_toInt (by omega) (by omega), k_z32] at q
    rw [show H (L j) - H (L i) = 0 by omega] at hq
    exact hq
  · have q : ¬ σ.1 13 3 (69 + 4 * L j + 2) - σ.1 13 3 (69 + 4 * L i + 2) ≤ 0 := q
    rw [a3, b3, k_le, pk_sub_toInt (by omega) (by omega), k_z32] at q
    rw [← pk_sub (by omega), ← a3, ← b3] at hq
    exact hq
theorem s_ms1 {wh : Int32} (hT : q_T σ D N m w a d L K R H) (p : Nat) (hp : p < m) (i : Nat) (hi : i < m) : ∀ k j c1 c2, j + k = m → i < j → m_T E 65535 (r + 2) 139 (160, [some (vR 6 0), some (vI (nI (L p))), some (vI wh), some (vI (q_w1 (q_Gn (fun t => H (L t)) i) k j c1)), some (vI (q_w1 (q_Gp (fun t => H (L t)) i) k j c2)), some (vI (nI (q_y (fun t => H (L t)) p m i m))), some (vI (nI i)), none, none], [], σ) Q → m_T E 65535 (r + 2) 139 (61, [some (vR 6 0), some (vI (nI (L p))), some (vI wh), some (vI c1), some (vI c2), some (vI (nI (q_y (fun t => H (L t)) p m i j))), some (vI (nI i)), some (vI (nI j)), none], [], σ) Q := by
  have m60 : m ≤ 60 := Nat.le_trans hT.1.2.2.2.2.2.2.2.2.2.1 hT.1.2.2.2.2.2.2.2.1
  have hm : σ.1 13 3 8 = nI m := hT.1.2.2.2.2.2.2.2.2.1
  have i8 : vp_in ((Int8.ofInt 8).toInt32) 309 := k_in (k := 8) (n := 309) (by decide) (by decide)
  have hb := hT.1.2.2.2.2.2.2.2.2.2.2.2.1
  have v : ∀ t, t < m → vp_in ((Int8.ofInt 9).toInt32 + nI t) 309 := fun t ht => by rw [k_9]; exact k_in (by omega) (by decide)
  have x : ∀ t, t < m → σ.1 13 3 ((Int8.ofInt 9).toInt32 + nI t).toNatClampNeg = nI (L t) := fun t ht => by rw [k_9, k_cl (by omega)]; exact (q_hm hT t ht).1
  intro k
  induction k with
  | zero =>
    intro j c1 c2 hj hij hq
    obtain rfl : j = m := by omega
    refine m_T_un 60 (fun y pc => (Nat.beq y 139 && (Nat.beq pc 61 || Nat.beq pc 160)) || Nat.beq y 140) ?_
    refine ⟨i8, fun _ => ?_, fun q => ?_⟩
    · refine m_T_mask [true, true, true, true, true, true, true, false, true] ?_
      exact hq
    · have q : ¬ σ.1 13 3 8 ≤ nI j := q
      rw [hm] at q
      exact absurd (nI_le (by omega) (by omega)) q
  | succ k ih =>
    intro j c1 c2 hj hij hq
    have hjm : j < m := by omega
    have e := ih (j + 1) (c1 + q_Gn (fun t => H (L t)) i j) (c2 + q_Gp (fun t => H (L t)) i j) (by omega) (by omega) hq
    rw [← q_ys hij, nI_succ j] at e
    obtain ⟨a1, a2, a3, a4⟩ := q_hm hT j hjm
    obtain ⟨b1, b2, b3, b4⟩ := q_hm hT i hi
    obtain ⟨d1, d2, d3, d4⟩ := q_hm hT p hp
    have inj : ∀ t, t < m → (nI (L t) = nI (L p) ↔ t = p) := fun t ht => by
      rw [nI_eq (by have := (q_hm hT t ht).2.1; omega) (by omega)]
      exact ⟨fun g => hb t p ht hp g, fun g => by rw [g]⟩
    refine m_T_un 90 (fun y pc => (Nat.beq y 139 && (Nat.beq pc 61 || Nat.beq pc 160)) || Nat.beq y 140) ?_
    refine ⟨i8, fun q => ?_, fun _ => ?_⟩
    · have q : σ.1 13 3 8 ≤ nI j := q
      rw [hm] at q
      exact absurd q (nI_ge (by omega) (by omega))
    refine s_mor hT i j hi hjm ⟨fun q => ⟨fun q2 => ?_, fun q2 => ?_⟩, fun q => ⟨fun q2 => ⟨v i hi, fun q3 => ⟨v j hjm, fun q4 => ?_, fun q4 => ?_⟩, fun q3 => ?_⟩, fun q2 => ?_⟩⟩
    · have q : nI (H (L j) - H (L i)) ≤ 0 := q
      have q2 : ¬ nI (H (L j) - H (L i)) = 0 := q2
      have h0 : ¬ 0 < H (L j) - H (L i) := fun g => nI_nle g (by omega) q
      exact absurd (congrArg nI (show H (L j) - H (L i) = 0 by omega)) q2
    · have q2 : nI (H (L j) - H (L i)) = 0 := q2
      have h0 : ¬ 0 < H (L j) - H (L i) := fun g => nI_ne0 g (by omega) q2
      rw [show q_Gn (fun t => H (L t)) i j = Int32.ofInt 0 from if_neg (show ¬ H (L i) < H (L j) by omega), show q_ya (fun t => H (L t)) p i j = Int32.ofInt 0 from if_neg (show ¬ H (L i) < H (L j) by omega)] at e
      refine m_T_mask [true, true, true, true, true, true, true, true, false] ?_
      exact e
    · have q : ¬ nI (H (L j) - H (L i)) ≤ 0 := q
      have q3 : ¬ σ.1 13 3 ((Int8.ofInt 9).toInt32 + nI i).toNatClampNeg = nI (L p) := q3
      have q4 : ¬ σ.1 13 3 ((Int8.ofInt 9).toInt32 + nI j).toNatClampNeg = nI (L p) := q4
      rw [x i hi, inj i hi] at q3
      rw [x j hjm, inj j hjm] at q4
      have h0 : 0 < H (L j) - H (L i) := Nat.pos_of_ne_zero fun g => by
        rw [g] at q
        exact absurd (by decide) q
      have h1 : H (L i) < H (L j) := by omega
      rw [show q_Gn (fun t => H (L t)) i j = Int32.ofInt 1 from if_pos h1, show q_ya (fun t => H (L t)) p i j = Int32.ofInt 0 from (if_pos h1).trans ((if_neg q3).trans (if_neg q4))] at e
      refine m_T_mask [true, true, true, true, true, true, true, true, false] ?_
      exact e
    · have q : ¬ nI (H (L j) - H (L i)) ≤ 0 := q
      have q3 : ¬ σ.1 13 3 ((Int8.ofInt 9).toInt32 + nI i).toNatClampNeg = nI (L p) := q3
      have q4 : σ.1 13 3 ((Int8.ofInt 9).toInt32 + nI j).toNatClampNeg = nI (L p) := q4
      rw [x i hi, inj i hi] at q3
      rw [x j hjm, inj j hjm] at q4
      have h0 : 0 < H (L j) - H (L i) := Nat.pos_of_ne_zero fun g => by
        rw [g] at q
        exact absurd (by decide) q
      have h1 : H (L i) < H (L j) := by omega
      rw [show q_Gn (fun t => H (L t)) i j = Int32.ofInt 1 from if_pos h1, show q_ya (fun t => H (L t)) p i j = Int32.ofInt (-1) from (if_pos h1).trans ((if_neg q3).trans (if_pos q4))] at e
      refine m_T_mask [true, true, true, true, true, true, true, true, false] ?_
      exact e
    · have q : ¬ nI (H (L j) - H (L i)) ≤ 0 := q
      have q3 : σ.1 13 3 ((Int8.ofInt 9).toInt32 + nI i).toNatClampNeg = nI (L p) := q3
      rw [x i hi, inj i hi] at q3
      have h0 : 0 < H (L j) - H (L i) := Nat.pos_of_ne_zero fun g => by
        rw [g] at q
        exact absurd (by decide) q
      have h1 : H (L i) < H (L j) := by omega
      rw [show q_Gn (fun t => H (L t)) i j = Int32.ofInt 1 from if_pos h1, show q_ya (fun t => H (L t)) p i j = Int32.ofInt 1 from (if_pos h1).trans (if_pos q3)] at e
      refine m_T_mask [true, true, true, true, true, true, true, true, false] ?_
      exact e
    · have q : ¬ nI (H (L j) - H (L i)) ≤ 0 := q
      have q2 : nI (H (L j) - H (L i)) = 0 := q2
      rw [q2] at q
      exact absurd (by decide) q
def q_sw (wh : Int32) (h : Nat → Nat) (p m : Nat) : Int32 := if wh = 0 then q_w2 (q_Gn h) m m 0 (Int32.ofInt 0) else if wh = 1 then q_w2 (q_Gp h) m m 0 (Int32.ofInt 0) else nI (q_pb h p m)
theorem s_msw {wh : Int32} (hT : q_T σ D N m w a d L K R H) (p : Nat) (hp : p < m) (hq : Q (0, [], [vI (q_sw wh (fun t => H (L t)) p m)], σ)) : m_T E 65535 (r + 2) 139 (28, [some (vR 6 0), some (vI (nI (L p))), some (vI wh), none, none, none, none, none, none], [], σ) Q := by
  have m60 : m ≤ 60 := Nat.le_trans hT.1.2.2.2.2.2.2.2.2.2.1 hT.1.2.2.2.2.2.2.2.1
  have hm : σ.1 13 3 8 = nI m := hT.1.2.2.2.2.2.2.2.2.1
  have i8 : vp_in ((Int8.ofInt 8).toInt32) 309 := k_in (k := 8) (n := 309) (by decide) (by decide)
  have key : ∀ k i c1 c2, i + k = m → q_w2 (q_Gn (fun t => H (L t))) m k i c1 = q_w2 (q_Gn (fun t => H (L t))) m m 0 (Int32.ofInt 0) → q_w2 (q_Gp (fun t => H (L t))) m k i c2 = q_w2 (q_Gp (fun t => H (L t))) m m 0 (Int32.ofInt 0) → m_T E 65535 (r + 2) 139 (43, [some (vR 6 0), some (vI (nI (L p))), some (vI wh), some (vI c1), some (vI c2), some (vI (nI (q_y (fun t => H (L t)) p m i (i + 1)))), some (vI (nI i)), none, none], [], σ) Q := by
    intro k
    induction k with
    | zero =>
      intro i c1 c2 hi h1 h2
      obtain rfl : i = m := by omega
      have h1 : c1 = q_w2 (q_Gn (fun t => H (L t))) i i 0 (Int32.ofInt 0) := h1
      have h2 : c2 = q_w2 (q_Gp (fun t => H (L t))) i i 0 (Int32.ofInt 0) := h2
      have h3 : q_y (fun t => H (L t)) p i i (i + 1) = q_pb (fun t => H (L t)) p i := by
        rw [q_pb2 i (by omega)]
        unfold q_y
        rw [if_neg (by omega), if_neg (by omega)]
      rw [h1, h2, h3]
      refine m_T_un 60 (fun y pc => (Nat.beq y 139 && (Nat.beq pc 43 || Nat.beq pc 61))) ?_
      refine ⟨i8, fun _ => ⟨fun q => ⟨fun q2 => ?_, fun q2 => ?_⟩, fun q => ?_⟩, fun q => ?_⟩
      · have q : ¬ wh = 0 := q
        have q2 : ¬ wh = 1 := q2
        unfold q_sw at hq
        rw [if_neg q, if_neg q2] at hq
        exact hq
      · have q : ¬ wh = 0 := q
        have q2 : wh = 1 := q2
        unfold q_sw at hq
        rw [if_neg q, if_pos q2] at hq
        exact hq
      · have q : wh = 0 := q
        unfold q_sw at hq
        rw [if_pos q] at hq
        exact hq
      · have q : ¬ σ.1 13 3 8 ≤ nI i := q
        rw [hm] at q
        exact absurd (nI_le (by omega) (by omega)) q
    | succ k ih =>
      intro i c1 c2 hi h1 h2
      refine m_T_un 60 (fun y pc => (Nat.beq y 139 && (Nat.beq pc 43 || Nat.beq pc 61))) ?_
      refine ⟨i8, fun q => ?_, fun _ => ?_⟩
      · have q : σ.1 13 3 8 ≤ nI i := q
        rw [hm] at q
        exact absurd q (nI_ge (by omega) (by omega))
      have e := ih (i + 1) (q_w1 (q_Gn (fun t => H (L t)) i) (m - (i + 1)) (i + 1) c1) (q_w1 (q_Gp (fun t => H (L t)) i) (m - (i + 1)) (i + 1) c2) (by omega) h1 h2
      rw [q_yo hp, nI_succ i] at e
      have f := s_ms1 (E := E) (r := r) (Q := Q) (wh := wh) hT p hp i (by omega) (m - (i + 1)) (i + 1) c1 c2 (by omega) (by omega) (m_T_un 20 (fun y pc => (Nat.beq y 139 && (Nat.beq pc 43))) e)
      rw [nI_succ i] at f
      exact f
  refine m_T_un 40 (fun y pc => (Nat.beq y 139 && (Nat.beq pc 43)) || Nat.beq y 114) ?_
  refine s_mp1 hT p hp ?_
  have e := key m 0 _ _ (by omega) rfl rfl
  rw [q_y0] at e
  exact e
end MSwaps
def k_wc : Nat → Nat → Bool := fun y _ => Nat.beq y 77 || Nat.beq y 82 || Nat.beq y 83
def k_wm : Nat → Nat → Bool := fun y pc => Nat.beq y 124 || Nat.beq y 87 || (Nat.beq y 139 && Nat.beq pc 28)
theorem p_swaps {E : m_E} {D : Nat} {σ : m_M} (hD : D < 512) (hs : q_sim D σ) (a : Int32) (b : Int32) : q_pair E D 27 139 [vI a, vI b] σ := by
  have hs1 : q_sim (D + 1) σ := q_sim_more (Nat.le_succ D) hs
  have hs2 : q_sim (D + 1) (m_up σ 6 0 0 (Int32.ofInt 0)) := z_thr hs1
  obtain ⟨N, m, w, c', d', L, K, R, H, hw, hc⟩ := q_town0 hs.2.2.2.2.2.1
  have hT : q_T σ D N m w c' d' L K R H := ⟨hw, hc⟩
  have hT2 : q_T (m_up σ 6 0 0 (Int32.ofInt 0)) D N m w c' d' L K R H := ⟨hw, hc⟩
  refine m_T_un 60 k_wc ?_
  by_cases hin : ∃ i, i < m ∧ nI (L i) = a
  · obtain ⟨i, hi, rfl⟩ := hin
    refine s_isIn1 hT i hi ⟨fun _ => ?_, fun q => absurd q k_no1⟩
    by_cases hb : 0 ≤ b.toInt ∧ b.toInt < (3 : Nat)
    · obtain ⟨k, hk, rfl⟩ := k_of hb.1 hb.2
      have mo : ∀ v : Int32, v = q_sw (nI k) (fun t => H (L t)) i m → m_T E 65535 19 139 (0, m_entry 139 [vR 6 0, vI (nI (L i)), vI (nI k)], [], σ) (fun g => g.2.2.1 = [vI v] ∧ q_sim (D + 1) g.2.2.2) := fun v hv => by
        refine m_T_un 60 k_wm ?_
        refine s_isH1 hT2 i hi ⟨fun q => absurd q k_no1, fun _ => ?_⟩
        refine s_inA1 0 2 k_L0 (show (m_nth m_kL 1 0).toInt = 2 by decide) hb.1 (by omega) ⟨fun _ => ?_, fun q => absurd q k_no1⟩
        exact s_msw hT2 i hi ⟨z_v hv.symm, hs2⟩
      obtain rfl | rfl | rfl : k = 0 ∨ k = 1 ∨ k = 2 := by omega
      · refine ⟨m_sw_pick _ _ 0 _ rfl (by decide) ?_, fun q => absurd q (by decide)⟩
        exact s_csw hT ⟨_, rfl, mo _ rfl⟩
      · refine ⟨m_sw_pick _ _ 1 _ rfl (by decide) ?_, fun q => absurd q (by decide)⟩
        exact s_csw hT ⟨_, rfl, mo _ rfl⟩
      · refine ⟨m_sw_pick _ _ 2 _ rfl (by decide) ?_, fun q => absurd q (by decide)⟩
        exact s_cps hT i hi ⟨_, rfl, mo _ rfl⟩
    · refine ⟨m_sw_none _ _ (show b.toInt < 0 ∨ (0 : Int) + (3 : Nat) ≤ b.toInt by omega), fun _ => ⟨_, rfl, ?_⟩⟩
      refine m_T_un 60 k_wm ?_
      refine s_isH1 hT2 i hi ⟨fun q => absurd q k_no1, fun _ => ?_⟩
      exact s_inA0 0 2 k_L0 (show (m_nth m_kL 1 0).toInt = 2 by decide) (by omega) ⟨fun q => absurd rfl q, fun _ => ⟨rfl, hs2⟩⟩
  · have hx : ∀ i, i < m → ¬ nI (L i) = a := fun i h q => hin ⟨i, h, q⟩
    refine s_isIn0 hT hx ⟨fun q => absurd rfl q, fun _ => ⟨_, rfl, ?_⟩⟩
    refine m_T_un 60 k_wm ?_
    exact s_isH0 hT2 hx ⟨fun _ => ⟨rfl, hs2⟩, fun q => absurd rfl q⟩
