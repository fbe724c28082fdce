/-! leaving, both sides; pair smuggle -/
theorem m_cp_upV {σ : m_M} {a b i j n : Nat} {x : Int32} (hx : x = σ.1 13 b (i + n)) : m_up (m_cp σ a b i j n) 13 a (j + n) x = m_cp σ a b i j (n + 1) := by
  subst hx
  refine Prod.ext ?_ rfl
  funext c u t
  simp only [m_up, m_cp]
  by_cases h1 : c = 13 ∧ u = a
  · obtain ⟨rfl, rfl⟩ := h1
    by_cases h2 : t = j + n
    · subst h2
      rw [if_pos ⟨rfl, rfl, rfl⟩, if_pos ⟨rfl, rfl, by omega, by omega⟩, show j + n - j = n by omega]
    · rw [if_neg (by omega)]
      by_cases h3 : j ≤ t ∧ t < j + n
      · rw [if_pos ⟨rfl, rfl, h3⟩, if_pos ⟨rfl, rfl, by omega, by omega⟩]
      · rw [if_neg (by omega), if_neg (by omega)]
  · rw [if_neg (by omega), if_neg (by omega), if_neg (by omega)]
section Leave
variable {E : m_E} {r : Nat} {σ : m_M} {Q : m_F → Prop} {x : Int32} {m i p : Nat}
theorem s_lv (hm : σ.1 5 0 9 = nI m) (m60 : m ≤ 60) (hi : i < m) (hl : σ.1 12 4 i = nI p) (hp : p < 60) (hq : Q (0, [], [], m_up (m_mv (m_up σ 12 3 p x) 4 4 (i + 1) i (m - i - 1)) 5 0 9 (nI (m - 1)))) : m_T E 65535 (r + 2) 75 (0, [some (vR 5 0), some (vI (nI i)), some (vI x)], [], σ) Q := by
  have go : ∀ (τ : m_M) (u v : Int32) (Q' : m_F → Prop), u = nI (i + 1) → v = nI (m - i - 1) → Q' (0, [], [], m_mv τ 4 4 (i + 1) i (m - i - 1)) → m_T E 65535 (r + 1) 49 (0, [some (vR 2 4), some (vR 2 4), some (vI u), some (vI (nI i)), some (vI v), none], [], τ) Q' := fun τ u v Q' hu hv h => by
    subst hu
    subst hv
    exact s_take (show i + 1 + (m - i - 1) ≤ 60 by omega) (show i + (m - i - 1) ≤ 60 by omega) h
  refine m_T_un 60 (fun y _ => Nat.beq y 50 || Nat.beq y 48 || Nat.beq y 49) ?_
  refine s_at i rfl (show i < 60 by omega) ?_
  refine s_put (v := 3) p hl (show p < 60 by omega) ?_
  refine go _ _ _ _ (nI_succ i).symm ?_ ?_
  · show σ.1 5 0 9 - nI i - nI 1 = _
    rw [hm, pk_sub (by omega), pk_sub (by omega)]
  · have e : (m_mv (m_up σ 12 3 p x) 4 4 (i + 1) i (m - i - 1)).1 5 0 9 - Int32.ofInt 1 = nI (m - 1) := by
      rw [m_mv_other (by omega), m_up_other (by omega), hm, show Int32.ofInt 1 = nI 1 from rfl, pk_sub (by omega)]
    rw [← e] at hq
    exact hq
theorem s_mlv (hm : σ.1 13 3 8 = nI m) (m60 : m ≤ 60) (hi : i < m) (he : σ.1 13 3 (9 + i) = x) (hf : ∀ t, t < i → ¬ σ.1 13 3 (9 + t) = x) (hq : Q (0, [], [], m_cp (m_up σ 13 3 8 (nI (m - 1))) 3 3 (9 + i + 1) (9 + i) (m - 1 - i))) : m_T E 65535 (r + 1) 118 (0, [some (vR 6 0), some (vI x), none], [], σ) Q := by
  have i8 : vp_in ((Int8.ofInt 8).toInt32) 309 := k_in (k := 8) (n := 309) (by decide) (by decide)
  have h8 : ∀ t, (m_cp (m_up σ 13 3 8 (nI (m - 1))) 3 3 (9 + i + 1) (9 + i) t).1 13 3 8 = nI (m - 1) := fun t => by
    rw [m_cp_out (by omega), m_up_eq rfl]
  have key : ∀ k t, i + t + k = m - 1 → m_T E 65535 (r + 1) 118 (17, [some (vR 6 0), some (vI x), some (vI (nI (i + t)))], [], m_cp (m_up σ 13 3 8 (nI (m - 1))) 3 3 (9 + i + 1) (9 + i) t) Q := by
    intro k
    induction k with
    | zero =>
      intro t ht
      refine m_T_un 40 (fun y pc => Nat.beq y 118 && Nat.beq pc 17) ?_
      refine ⟨i8, fun _ => ?_, fun q => ?_⟩
      · rw [show m - 1 - i = t by omega] at hq
        exact hq
      · have q : ¬ (m_cp (m_up σ 13 3 8 (nI (m - 1))) 3 3 (9 + i + 1) (9 + i) t).1 13 3 8 ≤ nI (i + t) := q
        rw [h8] at q
        exact absurd (nI_le (by omega) (by omega)) q
    | succ k ih =>
      intro t ht
      have a1 : ((Int8.ofInt 9).toInt32 + nI (i + t)).toNatClampNeg = 9 + i + t := by rw [k_9, k_cl (by omega)]; omega
      have a2 : ((Int8.ofInt 9).toInt32 + nI (i + t) + Int32.ofInt 1).toNatClampNeg = 9 + i + 1 + t := by rw [k_9, show Int32.ofInt 1 = nI 1 from rfl, nI_add, k_cl (by omega)]; omega
      have v1 : vp_in ((Int8.ofInt 9).toInt32 + nI (i + t)) 309 := by rw [k_9]; exact k_in (by omega) (by decide)
      have v2 : vp_in ((Int8.ofInt 9).toInt32 + nI (i + t) + Int32.ofInt 1) 309 := by rw [k_9, show Int32.ofInt 1 = nI 1 from rfl, nI_add]; exact k_in (by omega) (by decide)
      refine m_T_un 40 (fun y pc => Nat.beq y 118 && Nat.beq pc 17) ?_
      refine ⟨i8, fun q => ?_, fun _ => ⟨v2, v1, ?_⟩⟩
      · have q : (m_cp (m_up σ 13 3 8 (nI (m - 1))) 3 3 (9 + i + 1) (9 + i) t).1 13 3 8 ≤ nI (i + t) := q
        rw [h8] at q
        exact absurd q (nI_ge (by omega) (by omega))
      have e := ih (t + 1) (by omega)
      have hu := m_cp_upV (σ := m_up σ 13 3 8 (nI (m - 1))) (a := 3) (b := 3) (i := 9 + i + 1) (j := 9 + i) (n := t) (x := (m_cp (m_up σ 13 3 8 (nI (m - 1))) 3 3 (9 + i + 1) (9 + i) t).1 13 3 (9 + i + 1 + t)) (m_cp_out (by omega))
      rw [← hu, show i + (t + 1) = i + t + 1 by omega, nI_succ, ← a1, ← a2] at e
      exact e
  have e := key (m - 1 - i) 0 (by omega)
  have e8 : σ.1 13 3 8 - Int32.ofInt 1 = nI (m - 1) := by rw [hm, show Int32.ofInt 1 = nI 1 from rfl, pk_sub (by omega)]
  rw [m_cp_0, Nat.add_zero, ← e8] at e
  refine m_T_un 40 (fun y pc => Nat.beq y 114 || (Nat.beq y 118 && Nat.beq pc 17)) ?_
  exact s_mpl1 i hm m60 hi he hf ⟨i8, i8, e⟩
theorem s_isH1w {D N w a d : Nat} {L K R H : Nat → Nat} (hT : q_wf (σ.1 13 3) D N m w a d L K R H) (i : Nat) (hi : i < m) (hq : Q (0, [], [vI (Int32.ofInt 1)], σ)) : m_T E 65535 (r + 2) 124 (0, [some (vR 6 0), some (vI (nI (L i)))], [], σ) Q := by
  obtain ⟨w0, w1, w2, w3, w4, w5, w6, w7, w8, w9, wa, wb, wc⟩ := hT
  have hLi := (wa i hi).2
  refine m_T_un 20 (fun y _ => Nat.beq y 114 || Nat.beq y 123) ?_
  refine s_one1 (N := N) w6 w7 (by rw [k_nI (by omega)]; omega) (by rw [k_nI (by omega)]; omega) ⟨fun q => absurd q k_no1, fun _ => ?_⟩
  refine s_mpl1 i w8 (show m ≤ 60 by omega) hi (wa i hi).1 (fun t ht q => ?_) ⟨fun q => absurd q (k_ne0 (by omega)), fun _ => ⟨Or.inr rfl, hq⟩⟩
  have h1 := (wa t (by omega)).2
  have := wb t i (by omega) hi ((nI_eq (by omega) (by omega)).mp ((wa t (by omega)).1.symm.trans q))
  omega
end Leave
def k_lc : Nat → Nat → Bool := fun y _ => Nat.beq y 76 || Nat.beq y 77 || Nat.beq y 78 || Nat.beq y 75
def k_lm : Nat → Nat → Bool := fun y _ => Nat.beq y 123 || Nat.beq y 124 || Nat.beq y 118
theorem p_smuggle {E : m_E} {D : Nat} {σ : m_M} (hD : D < 512) (hs : q_sim D σ) (a : Int32) : q_pair E D 13 122 [vI a] σ := by
  have hs1 : q_sim (D + 1) σ := q_sim_more (Nat.le_succ D) hs
  have hs2 : q_sim (D + 1) (m_up σ 6 0 0 (Int32.ofInt 0)) := z_thr hs1
  obtain ⟨N, m, w, c', d', L, K, R, H, hw, hc⟩ := q_town0 hs1.2.2.2.2.2.1
  have hT : q_T σ (D + 1) N m w c' d' L K R H := ⟨hw, hc⟩
  have hT2 : q_T (m_up σ 6 0 0 (Int32.ofInt 0)) (D + 1) N m w c' d' L K R H := ⟨hw, hc⟩
  obtain ⟨⟨w0, w1, w2, w3, w4, w5, w6, w7, w8, w9, wa, wb, wc⟩, c1, c2, c3⟩ := hT
  have hT : q_T σ (D + 1) N m w c' d' L K R H := ⟨hw, hc⟩
  have hN : σ.1 5 0 8 = nI N := (c1 7 (by omega)).trans w6
  have hm : σ.1 5 0 9 = nI m := (c1 8 (by omega)).trans w8
  have hm' : σ.1 13 3 8 = nI m := w8
  refine m_T_un 60 k_lc ?_
  by_cases hr : 0 ≤ a.toInt ∧ a.toInt < N
  · obtain ⟨p, hp, rfl⟩ := k_of hr.1 hr.2
    refine s_has1 hN w7 hr.1 hr.2 ⟨fun _ => ?_, fun q => absurd q k_no1⟩
    by_cases hi : ∃ i, i < m ∧ L i = p
    · obtain ⟨i, hi, rfl⟩ := hi
      refine s_isIn1 hT i hi ⟨fun _ => ?_, fun q => absurd q k_no1⟩
      refine s_p1 hT i hi ?_
      refine s_lv (m := m) (p := L i) hm (by omega) hi ((c2 i hi).trans (wa i hi).1) (by omega) ?_
      refine ⟨_, rfl, ?_⟩
      refine m_T_un 60 k_lm ?_
      refine s_one1 (N := N) w6 w7 hr.1 hr.2 ⟨fun _ => ?_, fun q => absurd q k_no1⟩
      refine s_isH1w (D := D + 1) (N := N) (m := m) (w := w) (a := c') (d := d') (L := L) (K := K) (R := R) (H := H) ?_ i hi ⟨fun _ => ?_, fun q => absurd q k_no1⟩
      · exact hw
      refine s_mlv (m := m) (i := i) hm' (by omega) hi (wa i hi).1 (fun t ht q => ?_) ⟨rfl, ?_⟩
      · have h1 := (wa t (by omega)).2
        have := wb t i (by omega) hi ((nI_eq (by omega) (by omega)).mp ((wa t (by omega)).1.symm.trans q))
        omega
      refine q_sim_town (σ := σ) (fun c v g1 g2 g3 g4 g5 g6 => ?_) rfl rfl rfl rfl rfl rfl (q_town_of (z_leave (x := Int32.ofInt 0) (y := -1000000) hT hi (Or.inl ⟨rfl, rfl⟩) (fun j hj => ?_) ?_ ?_ ?_ (fun q => ?_) (fun t ht => ?_) (fun j => ?_))) hs1
      · rw [m_cp_other (by omega), m_up_other (by omega), m_up_other (by omega), m_up_other (by omega), m_mv_other (by omega), m_up_other (by omega)]
      · by_cases g : 9 + i ≤ j ∧ j < 9 + (m - 1)
        · rw [m_cp_in g.1 (by omega), if_neg (by omega), if_neg (by omega), if_pos g, m_up_ne (by omega), m_up_other (by omega), m_up_other (by omega), m_mv_other (by omega), m_up_other (by omega)]
          exact congrArg (σ.1 13 3) (by omega)
        · rw [m_cp_out (by omega), if_neg g]
          by_cases g8 : j = 8
          · rw [m_up_eq g8, if_pos g8]
          · rw [if_neg g8, m_up_ne g8, m_up_other (by omega), m_up_other (by omega), m_mv_other (by omega), m_up_other (by omega)]
            by_cases g9 : j = 72 + 4 * L i
            · rw [if_pos g9, g9]
              exact (wc (L i) (wa i hi).2).2.2.2.2.2.2.2 ⟨i, hi, rfl⟩
            · rw [if_neg g9]
      · rw [m_cp_other (by omega), m_up_other (by omega), m_up_other (by omega), m_up_other (by omega), m_mv_other (by omega), m_up_other (by omega)]
      · rw [m_cp_other (by omega), m_up_other (by omega), m_up_other (by omega), m_up_other (by omega), m_mv_other (by omega), m_up_other (by omega)]
      · rw [m_cp_other (by omega), m_up_other (by omega), m_up_other (by omega), m_up_other (by omega), m_mv_other (by omega), m_up_other (by omega)]
      · rw [m_cp_other (by omega), m_up_other (by omega), m_up_other (by omega), m_up_other (by omega), m_mv_other (by omega)]
        by_cases g : q = L i
        · rw [m_up_eq g, if_pos g]
        · rw [m_up_ne g, if_neg g]
      · rw [m_cp_other (by omega), m_up_other (by omega), m_up_other (by omega), m_up_other (by omega)]
        by_cases g : t < i
        · rw [if_pos g]
          simp only [m_mv]
          rw [if_neg (by omega), m_up_other (by omega)]
        · rw [if_neg g]
          simp only [m_mv]
          rw [if_pos ⟨trivial, trivial, by omega, by omega⟩, m_up_other (by omega)]
          exact congrArg (σ.1 12 4) (by omega)
      · rw [m_cp_other (by omega), m_up_other (by omega), m_up_other (by omega)]
        by_cases g : j = 9
        · rw [m_up_eq g, if_pos g]
        · rw [m_up_ne g, if_neg g, m_mv_other (by omega), m_up_other (by omega)]
    · have hn : ∀ i, i < m → ¬ L i = p := fun i h q => hi ⟨i, h, q⟩
      have hx : ∀ i, i < m → ¬ nI (L i) = nI p := fun i h q => hn i h ((nI_eq (by have := (wa i h).2; omega) (by omega)).mp q)
      refine s_isIn0 hT hx ⟨fun q => absurd rfl q, fun _ => ⟨_, rfl, ?_⟩⟩
      refine m_T_un 60 k_lm ?_
      refine s_one1 (N := N) w6 w7 hr.1 hr.2 ⟨fun _ => ?_, fun q => absurd q k_no1⟩
      exact s_isH0 hT2 hx ⟨fun q => absurd rfl q, fun _ => ⟨rfl, hs2⟩⟩
  · refine s_has0 hN w7 (by omega) ⟨fun q => absurd rfl q, fun _ => ⟨_, rfl, ?_⟩⟩
    refine m_T_un 60 k_lm ?_
    exact s_one0 (N := N) w6 w7 (by omega) ⟨fun q => absurd rfl q, fun _ => ⟨rfl, hs2⟩⟩
