/-! the day that one is out: the model's loop, and both whole -/
def q_out (x : Nat → Nat) (z : Bool) (n A C : Nat) : Int32 := match z with
  | true => q_dp n A C
  | false => q_do x n A C 0
section Out2
variable {E : m_E} {r : Nat} {σ : m_M} {Q : m_F → Prop} {D N m w a d : Nat} {L K R H : Nat → Nat}
theorem s_cdp {s n : Nat} {x : Nat → Nat} {v0 : m_V} (hs : s < 8) (hn : n ≤ 20) (hx : ∀ t, t < n → σ.1 12 (20 + s) t = nI (x t) ∧ x t ≤ 20) (hq : Q (0, [], [vI (-1000000)], σ)) : ∀ k t A C, t + k = n → A + 20 * k < 2000 → C ≤ A → m_T E 65535 (r + 1) 80 (24, [some (vR 5 0), some v0, some (vR 3 s), some (vI (nI n)), some (vI (Int32.ofInt 1)), some (vI (nI A)), some (vI (nI C)), some (vI (nI t))], [], σ) Q := by
  intro k
  induction k with
  | zero =>
    intro t A C ht hA hC
    refine m_T_un 40 (fun y pc => (Nat.beq y 80 && Nat.beq pc 24) || Nat.beq y 50) ?_
    exact ⟨fun _ => hq, fun q => absurd (nI_le (show n ≤ t by omega) (by omega)) q⟩
  | succ k ih =>
    intro t A C ht hA hC
    refine m_T_un 40 (fun y pc => (Nat.beq y 80 && Nat.beq pc 24) || Nat.beq y 50) ?_
    refine ⟨fun q => absurd q (nI_ge (show t < n by omega) (by omega)), fun _ => ⟨fun q => ?_, fun q => absurd (nI_le hC (by omega)) q⟩⟩
    refine s_at t rfl (by rw [m_lenR hs]; omega) ?_
    refine ⟨fun q => absurd q k_no1, fun _ => ?_⟩
    have b := (hx t (by omega)).2
    have e0 := pk_sub hC
    have e1 := (hx t (by omega)).1
    have e := ih (t + 1) (A - C + x t) (x t) (by omega) (by omega) (by omega)
    rw [nI_succ, ← nI_add, ← e0, ← e1] at e
    exact e
theorem k_2i (b t : Nat) : nI b + nI (t + 2) - Int32.ofInt 2 = nI (b + t) := by
  rw [nI_add, show Int32.ofInt 2 = nI 2 from rfl, pk_sub (by omega)]
  exact congrArg nI (by omega)
theorem s_mdo {s n p : Nat} {x : Nat → Nat} (hT : q_T σ D N m w a d L K R H) (hp : p < N) (hz : q_pass w (K p) = false) (hs : s < 8) (hn : n ≤ 20) (hx : ∀ t, t < n → σ.1 13 2 (40 * s + t) = nI (x t) ∧ x t ≤ 20) : ∀ k t B, t + 1 + k = n → B < 1000 → Q (0, [], [vI (q_do x k B (x t) (t + 1))], σ) → m_T E 65535 (r + 3) 130 (24, [some (vR 6 0), some (vI (nI p)), some (vI (nI (40 * s))), some (vI (nI n)), some (vI (nI B)), some (vI (nI (t + 2)))], [], σ) Q := by
  intro k
  induction k with
  | zero =>
    intro t B ht hB hq
    refine m_T_un 40 (fun y pc => (Nat.beq y 130 && Nat.beq pc 24) || Nat.beq y 131) ?_
    exact ⟨fun _ => hq, fun q => absurd (nI_lt (show n < t + 2 by omega) (by omega)) q⟩
  | succ k ih =>
    intro t B ht hB hq
    have b := (hx t (by omega)).2
    have xi : (nI (40 * s) + nI (t + 2) - Int32.ofInt 2).toNatClampNeg = 40 * s + t := by rw [k_2i, k_cl (by omega)]
    have xv : vp_in (nI (40 * s) + nI (t + 2) - Int32.ofInt 2) 320 := by rw [k_2i]; exact k_in (by omega) (by decide)
    refine m_T_un 40 (fun y pc => (Nat.beq y 130 && Nat.beq pc 24) || Nat.beq y 131) ?_
    refine ⟨fun q => absurd q (nI_nlt (show t + 2 ≤ n by omega) (by omega)), fun _ => ?_⟩
    refine s_mps hT p hp rfl rfl ?_
    rw [hz]
    refine ⟨fun q => absurd rfl q, fun _ => ⟨xv, fun q => ?_, fun q => ?_⟩⟩
    · have q : (0 : Int32) ≤ nI B - σ.1 13 2 (nI (40 * s) + nI (t + 2) - Int32.ofInt 2).toNatClampNeg := q
      rw [xi, (hx t (by omega)).1] at q
      have hC : x t ≤ B := Nat.not_lt.mp fun h => Int32.not_lt.mpr q (pk_sneg (by omega) h)
      rw [show q_do x (k + 1) B (x t) (t + 1) = q_do x k (B - x t) (x (t + 1)) (t + 1 + 1) from if_neg (by omega)] at hq
      have e := ih (t + 1) (B - x t) (by omega) (by omega) hq
      rw [show t + 1 + 2 = t + 2 + 1 by omega, nI_succ (t + 2), ← pk_sub hC, ← (hx t (by omega)).1, ← xi] at e
      exact e
    · have q : ¬ (0 : Int32) ≤ nI B - σ.1 13 2 (nI (40 * s) + nI (t + 2) - Int32.ofInt 2).toNatClampNeg := q
      rw [xi, (hx t (by omega)).1] at q
      have hC : B < x t := Nat.not_le.mp fun h => q (by rw [pk_sub h]; exact nI_pos' (by omega))
      rw [show q_do x (k + 1) B (x t) (t + 1) = nI (t + 1 + 1) from if_pos hC] at hq
      exact hq
/-- the class, whole -/
theorem s_dayOut {s n : Nat} {x : Nat → Nat} (hT : q_T σ D N m w a d L K R H) (i : Nat) (hi : i < m) (hs : s < 8) (hn : n ≤ 20) (hx : ∀ t, t < n → σ.1 12 (20 + s) t = nI (x t) ∧ x t ≤ 20) (hq : Q (0, [], [vI (q_out x (q_pass w (K (L i))) n (q_ah w L K R (L i) i m) a)], σ)) : m_T E 65535 (r + 3) 80 (0, [some (vR 5 0), some (vI (nI (L i))), some (vR 3 s), some (vI (nI n)), none, none, none, none], [], σ) Q := by
  have h60 : m ≤ 60 := Nat.le_trans hT.1.2.2.2.2.2.2.2.2.2.1 hT.1.2.2.2.2.2.2.2.1
  have hA : q_ah w L K R (L i) i m ≤ m := q_ah_le m
  have hLi := (hT.1.2.2.2.2.2.2.2.2.2.2.1 i hi).2
  have hc : σ.1 5 0 4 = nI a := (hT.2.1 3 (by omega)).trans hT.1.2.2.1
  have ha := hT.1.2.2.2.1
  refine m_T_un 60 (fun y pc => (Nat.beq y 80 && Nat.beq pc 24) || Nat.beq y 81 || Nat.beq y 79) ?_
  refine s_lps hT (L i) hLi rfl rfl ?_
  refine s_cah hT i hi ?_
  cases hz : q_pass w (K (L i)) with
  | true =>
    rw [hz] at hq
    have e : m_T E 65535 (r + 3) 80 (24, [some (vR 5 0), some (vI (nI (L i))), some (vR 3 s), some (vI (nI n)), some (vI (Int32.ofInt 1)), some (vI (nI (q_ah w L K R (L i) i m))), some (vI (σ.1 5 0 4)), some (vI (nI 0))], [], σ) Q := by
      rw [hc]
      by_cases h : 0 < n ∧ q_ah w L K R (L i) i m < a
      · rw [show q_out x true n (q_ah w L K R (L i) i m) a = nI 1 from if_pos h] at hq
        refine m_T_un 40 (fun y pc => Nat.beq y 50) ?_
        exact ⟨fun q => absurd q (nI_ge h.1 (by omega)), fun _ => ⟨fun q => absurd q (nI_ge h.2 (by omega)), fun _ => hq⟩⟩
      · rw [show q_out x true n (q_ah w L K R (L i) i m) a = -1000000 from if_neg h] at hq
        by_cases h0 : 0 < n
        · exact s_cdp hs hn hx hq n 0 _ _ (by omega) (by omega) (by omega)
        · refine m_T_un 40 (fun y pc => Nat.beq y 50) ?_
          exact ⟨fun _ => hq, fun q => absurd (nI_le (show n ≤ 0 by omega) (by omega)) q⟩
    exact e
  | false =>
    rw [hz] at hq
    have e : m_T E 65535 (r + 3) 80 (24, [some (vR 5 0), some (vI (nI (L i))), some (vR 3 s), some (vI (nI n)), some (vI (Int32.ofInt 0)), some (vI (nI (q_ah w L K R (L i) i m))), some (vI (σ.1 5 0 4)), some (vI (nI 0))], [], σ) Q := by
      rw [hc]
      exact s_cdo hs hn hx n 0 _ _ (by omega) (by omega) ha hq
    exact e
theorem s_outBy {s n : Nat} {x : Nat → Nat} {b y : Int32} (hT : q_T σ D N m w a d L K R H) (i : Nat) (hi : i < m) (hs : s < 8) (hn : n ≤ 20) (h0 : 0 < n) (hx : ∀ t, t < n → σ.1 13 2 (40 * s + t) = nI (x t) ∧ x t ≤ 20) (hy : y = nI (L i)) (hb : b = nI (40 * s)) (hq : Q (0, [], [vI (q_out x (q_pass w (K (L i))) n (q_ah w L K R (L i) i m) a)], σ)) : m_T E 65535 (r + 3) 130 (0, [some (vR 6 0), some (vI y), some (vI b), some (vI (nI n)), none, none], [], σ) Q := by
  subst hy
  subst hb
  have h60 : m ≤ 60 := Nat.le_trans hT.1.2.2.2.2.2.2.2.2.2.1 hT.1.2.2.2.2.2.2.2.1
  have hA : q_ah w L K R (L i) i m ≤ m := q_ah_le m
  have hLi := (hT.1.2.2.2.2.2.2.2.2.2.2.1 i hi).2
  have hc : σ.1 13 3 3 = nI a := hT.1.2.2.1
  have ha := hT.1.2.2.2.1
  refine m_T_un 60 (fun y pc => (Nat.beq y 130 && Nat.beq pc 24) || Nat.beq y 113) ?_
  refine s_mah hT i hi ⟨k_in (k := 3) (n := 309) (by decide) (by decide), fun q => ?_, fun q => ?_⟩
  · have q : (0 : Int32) ≤ nI (q_ah w L K R (L i) i m) - σ.1 13 3 3 := q
    rw [hc] at q
    have hC : a ≤ q_ah w L K R (L i) i m := Nat.not_lt.mp fun h => Int32.not_lt.mpr q (pk_sneg (by omega) h)
    have e : m_T E 65535 (r + 3) 130 (24, [some (vR 6 0), some (vI (nI (L i))), some (vI (nI (40 * s))), some (vI (nI n)), some (vI (nI (q_ah w L K R (L i) i m) - σ.1 13 3 3)), some (vI (nI 2))], [], σ) Q := by
      rw [hc, pk_sub hC]
      cases hz : q_pass w (K (L i)) with
      | true =>
        rw [hz, show q_out x true n (q_ah w L K R (L i) i m) a = -1000000 from if_neg (by omega)] at hq
        refine m_T_un 40 (fun y pc => Nat.beq y 131) ?_
        refine ⟨fun _ => hq, fun _ => ?_⟩
        refine s_mps hT (L i) hLi rfl rfl ?_
        rw [hz]
        exact ⟨fun _ => hq, fun q => absurd q (by decide)⟩
      | false =>
        obtain ⟨k, rfl⟩ : ∃ k, n = k + 1 := ⟨n - 1, by omega⟩
        rw [hz, show q_out x false (k + 1) (q_ah w L K R (L i) i m) a = q_do x k (q_ah w L K R (L i) i m - a) (x 0) 1 from if_neg (by omega)] at hq
        exact s_mdo hT hLi hz hs hn hx k 0 _ (by omega) (by omega) hq
    exact e
  · have q : ¬ (0 : Int32) ≤ nI (q_ah w L K R (L i) i m) - σ.1 13 3 3 := q
    rw [hc] at q
    have hC : q_ah w L K R (L i) i m < a := Nat.not_le.mp fun h => q (by rw [pk_sub h]; exact nI_pos' (by omega))
    obtain ⟨k, rfl⟩ : ∃ k, n = k + 1 := ⟨n - 1, by omega⟩
    cases hz : q_pass w (K (L i)) with
    | true =>
      rw [hz, show q_out x true (k + 1) (q_ah w L K R (L i) i m) a = nI 1 from if_pos ⟨h0, hC⟩] at hq
      exact hq
    | false =>
      rw [hz, show q_out x false (k + 1) (q_ah w L K R (L i) i m) a = nI 1 from if_pos hC] at hq
      exact hq
end Out2
