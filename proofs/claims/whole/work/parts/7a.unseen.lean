/-! pair unseen -/
def q_us (x : Nat → Nat) : Nat → Nat → Int32 → Int32 → Nat → Int32 × Int32
  | 0, _, b, u, _ => (b, u)
  | k + 1, P, b, u, t => if x (3 * t + 1) + x (3 * t + 2) < P + x (3 * t) then q_us x k (x (3 * t + 2)) (b ||| (Int32.ofInt 1 <<< (nI t &&& 31))) (u + nI (P + x (3 * t) - x (3 * t + 1) - x (3 * t + 2))) (t + 1) else q_us x k (x (3 * t + 2)) b u (t + 1)
theorem k_xsB {σ : m_M} {s n hi : Nat} (hh : hi < 1000) (h : q_btw σ s n hi) (t : Nat) (ht : t < n) : σ.1 12 (20 + s) t = nI (k_xs σ s t) ∧ k_xs σ s t ≤ hi := by
  obtain ⟨j, hj, e⟩ := k_of (x := σ.1 12 (20 + s) t) (n := hi + 1) (h t ht).1 (by have := (h t ht).2; omega)
  have e2 : k_xs σ s t = j := by unfold k_xs; rw [e, k_cl (by omega)]
  rw [e2]
  exact ⟨e, by omega⟩
theorem k_3s (a b c : Nat) (ha : a < 10000) (hb : b < 10000) (hc : c < 10000) : (nI a - nI b - nI c).toInt = (a : Int) - b - c := by
  rw [Int32.toInt_sub, pk_sub_toInt (by omega) (by omega), k_nI (by omega)]
  exact Int.bmod_eq_of_le (by omega) (by omega)
theorem k_3p {a b c : Nat} (h : b + c < a) : nI a - nI b - nI c = nI (a - b - c) := by
  rw [pk_sub (by omega), pk_sub (by omega)]
section Unseen
variable {E : m_E} {r : Nat} {σ : m_M} {Q : m_F → Prop} {s n : Nat} {x : Nat → Nat} {v : Int32}
theorem s_cus (hs : s < 8) (hn : n ≤ 13) (hx : ∀ u, u < 3 * n → σ.1 12 (20 + s) u = nI (x u) ∧ x u ≤ 99) : ∀ k t P b u, t + k = n → P ≤ 100 → Q (0, [], [vI (if v = 0 then (q_us x k P b u t).1 else (q_us x k P b u t).2)], σ) → m_T E 65535 (r + 1) 30 (18, [some (vR 0 0), some (vR 3 s), some (vI (nI n)), some (vI v), some (vI (nI P)), some (vI b), some (vI u), some (vI (nI t)), none, none], [], σ) Q := by
  intro k
  induction k with
  | zero =>
    intro t P b u ht hP hq
    refine m_T_un 40 (fun y pc => (Nat.beq y 30 && Nat.beq pc 18) || Nat.beq y 50) ?_
    refine ⟨fun _ => ⟨fun q => ?_, fun q => ?_⟩, fun q => absurd (nI_le (show n ≤ t by omega) (by omega)) q⟩
    · rw [if_neg q] at hq
      exact hq
    · have q : v = 0 := q
      rw [if_pos q] at hq
      exact hq
  | succ k ih =>
    intro t P b u ht hP hq
    obtain ⟨x0, y0⟩ := hx (3 * t) (by omega)
    obtain ⟨x1, y1⟩ := hx (3 * t + 1) (by omega)
    obtain ⟨x2, y2⟩ := hx (3 * t + 2) (by omega)
    have l40 : m_lenN (20 + s) = 40 := m_lenR hs
    have e3 : Int32.ofInt 3 * nI t = nI (3 * t) := by rw [show Int32.ofInt 3 = nI 3 from rfl, pk_mul]
    refine m_T_un 90 (fun y pc => (Nat.beq y 30 && Nat.beq pc 18) || Nat.beq y 50) ?_
    refine ⟨fun q => absurd q (nI_ge (show t < n by omega) (by omega)), fun _ => ?_⟩
    refine s_at (3 * t) e3 (by rw [l40]; omega) ?_
    refine s_at (3 * t + 1) (by rw [e3, show Int32.ofInt 1 = nI 1 from rfl, nI_add]) (by rw [l40]; omega) ?_
    refine s_at (3 * t + 2) (by rw [e3, show Int32.ofInt 2 = nI 2 from rfl, nI_add]) (by rw [l40]; omega) ⟨fun q => ?_, fun q => ?_⟩
    · have q : nI P + σ.1 12 (20 + s) (3 * t) - σ.1 12 (20 + s) (3 * t + 1) ≤ σ.1 12 (20 + s) (3 * t + 2) := q
      rw [x0, x1, x2, nI_add, k_le, pk_sub_toInt (by omega) (by omega), k_nI (by omega)] at q
      rw [show q_us x (k + 1) P b u t = q_us x k (x (3 * t + 2)) b u (t + 1) from if_neg (by omega)] at hq
      have e := ih (t + 1) (x (3 * t + 2)) b u (by omega) (by omega) hq
      rw [nI_succ t, ← x2] at e
      refine m_T_mask [true, true, true, true, true, true, true, true, false, false] ?_
      exact e
    · have q : ¬ nI P + σ.1 12 (20 + s) (3 * t) - σ.1 12 (20 + s) (3 * t + 1) ≤ σ.1 12 (20 + s) (3 * t + 2) := q
      have eD : nI P + σ.1 12 (20 + s) (3 * t) - σ.1 12 (20 + s) (3 * t + 1) - σ.1 12 (20 + s) (3 * t + 2) = nI (P + x (3 * t)) - nI (x (3 * t + 1)) - nI (x (3 * t + 2)) := by rw [x0, x1, x2, nI_add]
      rw [x0, x1, x2, nI_add, k_le, pk_sub_toInt (by omega) (by omega), k_nI (by omega)] at q
      rw [show q_us x (k + 1) P b u t = q_us x k (x (3 * t + 2)) (b ||| (Int32.ofInt 1 <<< (nI t &&& 31))) (u + nI (P + x (3 * t) - x (3 * t + 1) - x (3 * t + 2))) (t + 1) from if_pos (by omega)] at hq
      have e := ih (t + 1) (x (3 * t + 2)) (b ||| (Int32.ofInt 1 <<< (nI t &&& 31))) (u + nI (P + x (3 * t) - x (3 * t + 1) - x (3 * t + 2))) (by omega) (by omega) hq
      rw [← k_3p (by omega), ← eD, nI_succ t, ← x2] at e
      refine m_T_mask [true, true, true, true, true, true, true, true, false, false] ?_
      exact e
theorem s_mbt {w0 k0 : Int32} (hs : s < 8) (hn : n ≤ 13) (hr : q_row σ s) (hy : q_btw σ s (3 * n) 99 → m_T E 65535 (r + 1) 142 (112, [some (vR 6 0), some (vI (nI s)), some (vI (nI n)), some (vI w0), some (vI k0), none, none, none, none, none, none], [], σ) Q) (hno : ¬ q_btw σ s (3 * n) 99 → Q (0, [], [vI (-1000001)], σ)) : ∀ k t, t + k = 3 * n → q_btw σ s t 99 → m_T E 65535 (r + 1) 142 (72, [some (vR 6 0), some (vI (nI s)), some (vI (nI n)), some (vI w0), some (vI k0), some (vI (nI t)), none, none, none, none, none], [], σ) Q := by
  obtain ⟨_, -, -, -, -, f⟩ := hr
  have e3 : Int32.ofInt 3 * nI n = nI (3 * n) := by rw [show Int32.ofInt 3 = nI 3 from rfl, pk_mul]
  intro k
  induction k with
  | zero =>
    intro t ht hb
    obtain rfl : t = 3 * n := by omega
    refine m_T_un 40 (fun y pc => (Nat.beq y 142 && (Nat.beq pc 72 || Nat.beq pc 112)) || Nat.beq y 87) ?_
    refine ⟨fun _ => ?_, fun q => ?_⟩
    · refine m_T_mask [true, true, true, true, true, false, true, true, true, true, true] ?_
      exact hy hb
    · have q : ¬ Int32.ofInt 3 * nI n ≤ nI (3 * n) := q
      rw [e3] at q
      exact absurd (nI_le (Nat.le_refl _) (by omega)) q
  | succ k ih =>
    intro t ht hb
    have hv : vp_in ((Int8.ofInt 40).toInt32 * nI s + nI t) 320 := by rw [k_40n]; exact k_in (by omega) (by decide)
    have hx : σ.1 13 2 ((Int8.ofInt 40).toInt32 * nI s + nI t).toNatClampNeg = σ.1 12 (20 + s) t := by rw [k_40n, k_cl (by omega)]; exact (f t (by omega)).symm
    refine m_T_un 40 (fun y pc => (Nat.beq y 142 && (Nat.beq pc 72 || Nat.beq pc 112)) || Nat.beq y 87) ?_
    refine ⟨fun q => ?_, fun _ => ⟨hv, ?_⟩⟩
    · have q : Int32.ofInt 3 * nI n ≤ nI t := q
      rw [e3] at q
      exact absurd q (nI_ge (by omega) (by omega))
    by_cases g : 0 ≤ (σ.1 12 (20 + s) t).toInt ∧ (σ.1 12 (20 + s) t).toInt ≤ 99
    · have e := ih (t + 1) (by omega) (fun u hu => by
        by_cases e : u = t
        · rw [e]; exact g
        · exact hb u (by omega))
      rw [nI_succ] at e
      exact s_inA1 0 99 k_L0 (show (m_nth m_kL 16 0).toInt = 99 by decide) (by rw [hx]; exact g.1) (by rw [hx]; exact g.2) ⟨fun _ => e, fun q => absurd q k_no1⟩
    · exact s_inA0 0 99 k_L0 (show (m_nth m_kL 16 0).toInt = 99 by decide) (by rw [hx]; omega) ⟨fun q => absurd rfl q, fun _ => hno (fun q => g (q t (by omega)))⟩
theorem s_mus {k0 : Int32} (hs : s < 8) (hn : n ≤ 13) (hx : ∀ u, u < 3 * n → σ.1 13 2 (40 * s + u) = nI (x u) ∧ x u ≤ 99) : ∀ k t P b u, t + k = n → P ≤ 100 → Q (0, [], [vI (if v = 0 then (q_us x k P b u t).1 else (q_us x k P b u t).2)], σ) → m_T E 65535 r 142 (135, [some (vR 6 0), some (vI (nI s)), some (vI (nI n)), some (vI v), some (vI k0), some (vI (nI P)), some (vI b), some (vI u), some (vI (nI t)), none, none], [], σ) Q := by
  intro k
  induction k with
  | zero =>
    intro t P b u ht hP hq
    refine m_T_un 40 (fun y pc => (Nat.beq y 142 && Nat.beq pc 135)) ?_
    refine ⟨fun _ => ⟨fun q => ?_, fun q => ?_⟩, fun q => absurd (nI_le (show n ≤ t by omega) (by omega)) q⟩
    · rw [if_neg q] at hq
      exact hq
    · have q : v = 0 := q
      rw [if_pos q] at hq
      exact hq
  | succ k ih =>
    intro t P b u ht hP hq
    obtain ⟨x0, y0⟩ := hx (3 * t) (by omega)
    obtain ⟨x1, y1⟩ := hx (3 * t + 1) (by omega)
    obtain ⟨x2, y2⟩ := hx (3 * t + 2) (by omega)
    have e0 : (Int8.ofInt 40).toInt32 * nI s + Int32.ofInt 3 * nI t = nI (40 * s + 3 * t) := by rw [show Int32.ofInt 3 = nI 3 from rfl, pk_mul, k_40n]
    have e1 : (Int8.ofInt 40).toInt32 * nI s + Int32.ofInt 3 * nI t + Int32.ofInt 1 = nI (40 * s + (3 * t + 1)) := by rw [e0, show Int32.ofInt 1 = nI 1 from rfl, nI_add, Nat.add_assoc]
    have e2 : (Int8.ofInt 40).toInt32 * nI s + Int32.ofInt 3 * nI t + Int32.ofInt 2 = nI (40 * s + (3 * t + 2)) := by rw [e0, show Int32.ofInt 2 = nI 2 from rfl, nI_add, Nat.add_assoc]
    have v0 : vp_in ((Int8.ofInt 40).toInt32 * nI s + Int32.ofInt 3 * nI t) 320 := by rw [e0]; exact k_in (by omega) (by decide)
    have v1 : vp_in ((Int8.ofInt 40).toInt32 * nI s + Int32.ofInt 3 * nI t + Int32.ofInt 1) 320 := by rw [e1]; exact k_in (by omega) (by decide)
    have v2 : vp_in ((Int8.ofInt 40).toInt32 * nI s + Int32.ofInt 3 * nI t + Int32.ofInt 2) 320 := by rw [e2]; exact k_in (by omega) (by decide)
    have z0 : σ.1 13 2 ((Int8.ofInt 40).toInt32 * nI s + Int32.ofInt 3 * nI t).toNatClampNeg = nI (x (3 * t)) := by rw [e0, k_cl (by omega)]; exact x0
    have z1 : σ.1 13 2 ((Int8.ofInt 40).toInt32 * nI s + Int32.ofInt 3 * nI t + Int32.ofInt 1).toNatClampNeg = nI (x (3 * t + 1)) := by rw [e1, k_cl (by omega)]; exact x1
    have z2 : σ.1 13 2 ((Int8.ofInt 40).toInt32 * nI s + Int32.ofInt 3 * nI t + Int32.ofInt 2).toNatClampNeg = nI (x (3 * t + 2)) := by rw [e2, k_cl (by omega)]; exact x2
    have eD : nI P + σ.1 13 2 ((Int8.ofInt 40).toInt32 * nI s + Int32.ofInt 3 * nI t).toNatClampNeg - σ.1 13 2 ((Int8.ofInt 40).toInt32 * nI s + Int32.ofInt 3 * nI t + Int32.ofInt 1).toNatClampNeg - σ.1 13 2 ((Int8.ofInt 40).toInt32 * nI s + Int32.ofInt 3 * nI t + Int32.ofInt 2).toNatClampNeg = nI (P + x (3 * t)) - nI (x (3 * t + 1)) - nI (x (3 * t + 2)) := by rw [z0, z1, z2, nI_add]
    have le : ∀ y : Int32, y ≤ 0 ↔ y.toInt ≤ 0 := fun y => by rw [k_le, k_z32]
    refine m_T_un 120 (fun y pc => (Nat.beq y 142 && Nat.beq pc 135)) ?_
    refine ⟨fun q => absurd q (nI_ge (show t < n by omega) (by omega)), fun _ => ⟨v0, v1, v2, fun q => ⟨fun _ => ⟨v2, ?_⟩, fun q2 => absurd q q2⟩, fun q => ⟨fun q2 => absurd q2 q, fun _ => ⟨v2, ?_⟩⟩⟩⟩
    · have q : nI P + σ.1 13 2 ((Int8.ofInt 40).toInt32 * nI s + Int32.ofInt 3 * nI t).toNatClampNeg - σ.1 13 2 ((Int8.ofInt 40).toInt32 * nI s + Int32.ofInt 3 * nI t + Int32.ofInt 1).toNatClampNeg - σ.1 13 2 ((Int8.ofInt 40).toInt32 * nI s + Int32.ofInt 3 * nI t + Int32.ofInt 2).toNatClampNeg ≤ 0 := q
      rw [eD, le, k_3s _ _ _ (by omega) (by omega) (by omega)] at q
      rw [show q_us x (k + 1) P b u t = q_us x k (x (3 * t + 2)) b u (t + 1) from if_neg (by omega)] at hq
      have e := ih (t + 1) (x (3 * t + 2)) b u (by omega) (by omega) hq
      rw [nI_succ t, ← z2, ← show b ||| Int32.ofInt 0 = b from Int32.or_zero, ← show u + Int32.ofInt 0 = u from Int32.add_zero u] at e
      refine m_T_mask [true, true, true, true, true, true, true, true, true, false, false] ?_
      exact e
    · have q : ¬ nI P + σ.1 13 2 ((Int8.ofInt 40).toInt32 * nI s + Int32.ofInt 3 * nI t).toNatClampNeg - σ.1 13 2 ((Int8.ofInt 40).toInt32 * nI s + Int32.ofInt 3 * nI t + Int32.ofInt 1).toNatClampNeg - σ.1 13 2 ((Int8.ofInt 40).toInt32 * nI s + Int32.ofInt 3 * nI t + Int32.ofInt 2).toNatClampNeg ≤ 0 := q
      rw [eD, le, k_3s _ _ _ (by omega) (by omega) (by omega)] at q
      rw [show q_us x (k + 1) P b u t = q_us x k (x (3 * t + 2)) (b ||| (Int32.ofInt 1 <<< (nI t &&& 31))) (u + nI (P + x (3 * t) - x (3 * t + 1) - x (3 * t + 2))) (t + 1) from if_pos (by omega)] at hq
      have e := ih (t + 1) (x (3 * t + 2)) (b ||| (Int32.ofInt 1 <<< (nI t &&& 31))) (u + nI (P + x (3 * t) - x (3 * t + 1) - x (3 * t + 2))) (by omega) (by omega) hq
      rw [← k_3p (by omega), ← eD, nI_succ t, ← z2] at e
      refine m_T_mask [true, true, true, true, true, true, true, true, true, false, false] ?_
      exact e
end Unseen
def k_uc : Nat → Nat → Bool := fun y _ => Nat.beq y 1 || Nat.beq y 2 || Nat.beq y 54 || Nat.beq y 55 || Nat.beq y 30 || Nat.beq y 167
def k_um : Nat → Nat → Bool := fun y pc => Nat.beq y 86 || Nat.beq y 87 || Nat.beq y 128 || (Nat.beq y 142 && (Nat.beq pc 72 || Nat.beq pc 112 || Nat.beq pc 135))
theorem k_l13 : (m_nth m_kL 15 0).toInt = 13 := by decide
theorem k_13b : ((Int8.ofInt 13).toInt32).toInt = 13 := by decide
theorem p_unseen {E : m_E} {D : Nat} {σ : m_M} (hD : D < 512) (hs : q_sim D σ) (a : Int32) (b : Int32) (c : Int32) : q_pair E D 29 142 [vI a, vI b, vI c] σ := by
  have hs1 : q_sim (D + 1) σ := q_sim_more (Nat.le_succ D) hs
  have hs2 : q_sim (D + 1) (m_up σ 6 0 0 (Int32.ofInt 0)) := z_thr hs1
  obtain ⟨N, m, w, c', d', L, K, R, H, hw, hc⟩ := q_town0 hs.2.2.2.2.2.1
  obtain ⟨w0, w1, w2, w3, w4, w5, w6, w7, w8, w9, wa, wb, wc⟩ := hw
  obtain ⟨c1, c2, c3⟩ := hc
  have k9 : σ.1 5 0 9 = nI m := (c1 8 (by omega)).trans w8
  have j8 : σ.1 13 3 8 = nI m := w8
  have i8 : vp_in ((Int8.ofInt 8).toInt32) 309 := k_in (k := 8) (n := 309) (by decide) (by decide)
  have st := hs1.2.2.2.2.1
  refine m_T_un 60 k_uc ?_
  refine ⟨fun g => ?_, fun g => ⟨_, rfl, ?_⟩⟩
  · have g : ¬ σ.1 5 0 0 = 0 := g
    have g' : ¬ σ.1 6 0 7 = 0 := by rw [← st.1]; exact g
    by_cases hr : 0 ≤ a.toInt ∧ a.toInt < (8 : Nat)
    · obtain ⟨s, hs8, rfl⟩ := k_of hr.1 hr.2
      refine s_rowAt1 s hs8 rfl ?_
      by_cases hn : 1 ≤ b.toInt ∧ b.toInt ≤ 13
      · obtain ⟨n, hn21, rfl⟩ := k_of (x := b) (n := 14) (by omega) (by omega)
        have n1 : 1 ≤ n := by have := hn.1; rw [k_nI (by omega)] at this; omega
        have e3 : Int32.ofInt 3 * nI n = nI (3 * n) := by rw [show Int32.ofInt 3 = nI 3 from rfl, pk_mul]
        refine s_outA0 1 13 k_1 k_13b hn.1 hn.2 ⟨fun q => absurd rfl q, fun _ => ?_⟩
        by_cases hv : 0 ≤ c.toInt ∧ c.toInt ≤ 1
        · refine s_outA0 0 1 k_0 k_1 hv.1 hv.2 ⟨fun _ => ?_, fun q => absurd rfl q⟩
          have mo : ∀ (τ : m_M) (Q : m_F → Prop), ¬ τ.1 6 0 7 = 0 → m_T E 65535 19 142 (47, [some (vR 6 0), some (vI (nI s)), some (vI (nI n)), some (vI c), none, none, none, none, none, none, none], [], m_up τ 6 0 0 (Int32.ofInt 0)) Q → m_T E 65535 19 142 (0, m_entry 142 [vR 6 0, vI (nI s), vI (nI n), vI c], [], τ) Q := fun τ Q h hh => by
            refine m_T_un 60 (fun y pc => k_um y pc || (Nat.beq y 142 && Nat.beq pc 47)) ?_
            refine ⟨fun _ => ?_, fun q => absurd q h⟩
            refine s_isRow1 hr.1 (by omega) ⟨fun q => absurd q k_no1, fun _ => ?_⟩
            refine s_inA1 1 13 k_L1 k_l13 hn.1 hn.2 ⟨fun q => absurd q k_no1, fun _ => ?_⟩
            exact s_inA1 0 1 k_L0 k_L1 hv.1 hv.2 ⟨fun _ => hh, fun q => absurd q k_no1⟩
          by_cases hl : q_lack σ s (Int32.ofInt 3 * nI n) = 0
          · by_cases hb : q_btw σ s (3 * n) 99
            · refine s_rf1 (n := 3 * n) (hi := 99) hs8 (by omega) (by decide) e3 hl hb ⟨fun _ => ?_, fun q => absurd rfl q⟩
              have cf : ∀ Q : m_F → Prop, Q (0, [], [vI (if c = 0 then (q_us (k_xs σ s) n m (Int32.ofInt 0) (Int32.ofInt 0) 0).1 else (q_us (k_xs σ s) n m (Int32.ofInt 0) (Int32.ofInt 0) 0).2)], σ) → m_T E 65535 18 30 (0, [some (vR 0 0), some (vR 3 s), some (vI (nI n)), some (vI c), none, none, none, none, none, none], [], σ) Q := fun Q hq => by
                have e := s_cus (E := E) (r := 17) (Q := Q) hs8 (by omega) (fun t ht => k_xsB (by omega) hb t ht) n 0 m (Int32.ofInt 0) (Int32.ofInt 0) (by omega) (by omega) hq
                rw [← k9] at e
                refine m_T_un 60 (fun y pc => (Nat.beq y 30 && Nat.beq pc 18)) ?_
                exact e
              refine cf _ ?_
              refine ⟨_, rfl, mo _ _ g' (m_T_un 60 k_um ?_)⟩
              refine s_mlk hs8 (hs1.1 s hs8) ⟨fun _ => ?_, fun q => absurd (q_lk_0 hl) q⟩
              refine s_mbt (r := 18) (n := n) hs8 (by omega) ?_ (fun _ => ?_) (fun q => ?_) (3 * n) 0 (by omega) (fun t ht => absurd ht (by omega))
              · exact hs1.1 s hs8
              rotate_left
              · exact absurd hb q
              refine m_T_un 60 k_um ⟨i8, ?_⟩
              have mf : ∀ (τ : m_M) (P k0 : Int32), τ.1 13 2 = σ.1 13 2 → P = nI m → ∀ Q : m_F → Prop, Q (0, [], [vI (if c = 0 then (q_us (k_xs σ s) n m (Int32.ofInt 0) (Int32.ofInt 0) 0).1 else (q_us (k_xs σ s) n m (Int32.ofInt 0) (Int32.ofInt 0) 0).2)], τ) → m_T E 65535 19 142 (135, [some (vR 6 0), some (vI (nI s)), some (vI (nI n)), some (vI c), some (vI k0), some (vI P), some (vI (Int32.ofInt 0)), some (vI (Int32.ofInt 0)), some (vI (nI 0)), none, none], [], τ) Q := fun τ P k0 ht hP Q hq => by
                subst hP
                obtain ⟨_, -, -, -, -, f⟩ := hs1.1 s hs8
                exact s_mus hs8 (by omega) (fun t h => by rw [ht, ← f t (by omega)]; exact k_xsB (by omega) hb t h) n 0 m _ _ (by omega) (by omega) hq
              refine mf _ _ _ ?_ j8 _ ?_
              · rfl
              · exact ⟨rfl, z_nof hs1⟩
            · refine s_rf0 (n := 3 * n) (hi := 99) hs8 (by omega) (by decide) e3 hl hb ⟨fun q => absurd q k_noB, fun _ => ?_⟩
              refine ⟨_, rfl, mo _ _ g' (m_T_un 60 k_um ?_)⟩
              refine s_mlk hs8 (hs1.1 s hs8) ⟨fun _ => ?_, fun q => absurd (q_lk_0 hl) q⟩
              refine s_mbt (r := 18) (n := n) hs8 (by omega) ?_ (fun q => ?_) (fun _ => ?_) (3 * n) 0 (by omega) (fun t ht => absurd ht (by omega))
              · exact hs1.1 s hs8
              · exact absurd q hb
              · exact ⟨rfl, hs2⟩
          · refine s_rfl hl ⟨fun q => absurd q (k_fnd hl), fun _ => ⟨_, rfl, mo _ _ g' (m_T_un 60 k_um ?_)⟩⟩
            exact s_mlk hs8 (hs1.1 s hs8) ⟨fun q => absurd q (q_lk_le hl), fun _ => ⟨rfl, z_nof hs1⟩⟩
        · refine s_outA1 0 1 k_0 k_1 (by omega) ⟨fun q => absurd q k_no1, fun _ => ⟨_, rfl, ?_⟩⟩
          refine m_T_un 60 k_um ?_
          refine ⟨fun _ => ?_, fun q => absurd q g'⟩
          refine s_isRow1 hr.1 (by omega) ⟨fun q => absurd q k_no1, fun _ => ?_⟩
          refine s_inA1 1 13 k_L1 k_l13 hn.1 hn.2 ⟨fun q => absurd q k_no1, fun _ => ?_⟩
          exact s_inA0 0 1 k_L0 k_L1 (by omega) ⟨fun q => absurd rfl q, fun _ => ⟨rfl, hs2⟩⟩
      · refine s_outA1 1 13 k_1 k_13b (by omega) ⟨fun _ => ⟨_, rfl, ?_⟩, fun q => absurd q k_no1⟩
        refine m_T_un 60 k_um ?_
        refine ⟨fun _ => ?_, fun q => absurd q g'⟩
        refine s_isRow1 hr.1 (by omega) ⟨fun q => absurd q k_no1, fun _ => ?_⟩
        exact s_inA0 1 13 k_L1 k_l13 (by omega) ⟨fun _ => ⟨rfl, hs2⟩, fun q => absurd rfl q⟩
    · refine s_rowAt0 (k_not hr) ⟨_, rfl, ?_⟩
      refine m_T_un 60 k_um ?_
      refine ⟨fun _ => ?_, fun q => absurd q g'⟩
      exact s_isRow0 (k_not hr) ⟨fun _ => ⟨rfl, hs2⟩, fun q => absurd rfl q⟩
  · have g : σ.1 5 0 0 = 0 := g
    refine m_T_un 60 k_um ?_
    exact ⟨fun q => absurd (st.1.symm.trans g) q, fun _ => ⟨rfl, hs2⟩⟩
