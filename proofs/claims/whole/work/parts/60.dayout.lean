/-! the day that one is out -/
def q_pass (w k : Nat) : Bool := Nat.beq w 2 && Nat.blt 1 (q_ord k)
def q_do (x : Nat → Nat) : Nat → Nat → Nat → Nat → Int32
  | 0, _, _, _ => -1000000
  | k + 1, A, C, t => if A < C then nI (t + 1) else q_do x k (A - C) (x t) (t + 1)
def q_dp (n A C : Nat) : Int32 := if 0 < n ∧ A < C then nI 1 else -1000000
section Out
variable {E : m_E} {r : Nat} {σ : m_M} {Q : m_F → Prop} {D N m w a d : Nat} {L K R H : Nat → Nat}
theorem s_lps (hT : q_T σ D N m w a d L K R H) (p : Nat) (hp : p < N) {y x : Int32} (hy : y = nI 1) (hx : x = nI p) (hq : Q (0, [], [vI (k_bit (q_pass w (K p)))], σ)) : m_T E 65535 (r + 2) 81 (0, [some (vR 5 0), some (vI y), some (vI x)], [], σ) Q := by
  subst hy
  subst hx
  have b2 := (hT.1.2.2.2.2.2.2.2.2.2.2.2.2 p hp).2.2.2.2.1
  have g1 := q_tcn (w := w) hT.1.2.1 (k := 1) (z := 0) (by omega)
  have g2 := q_tcn (w := w) hT.1.2.1 (k := K p) b2
  have w2 := hT.1.2.1
  refine m_T_un 40 (fun y pc => Nat.beq y 74 || Nat.beq y 73) ?_
  refine s_trn2 (k := 1) (z := 0) ((hT.2.1 0 (by omega)).trans hT.1.1) hT.1.2.1 (by omega) (by omega) ?_
  refine s_trn hT p hp rfl ?_
  have e : q_tc w 1 0 < q_tc w (K p) (R p) ↔ q_pass w (K p) = true := by
    rw [k_lt, g1, g2]
    obtain rfl | rfl | rfl : w = 0 ∨ w = 1 ∨ w = 2 := by omega
    · show ((0 : Nat) : Int) - 0 < ((0 : Nat) : Int) - 0 ↔ false = true
      exact ⟨fun q => absurd q (by decide), fun q => absurd q (by decide)⟩
    · show ((9 : Nat) : Int) - 9 < ((9 - R p : Nat) : Int) - 9 ↔ false = true
      exact ⟨fun q => absurd q (by omega), fun q => absurd q (by decide)⟩
    · show ((1 : Nat) : Int) - 0 < ((q_ord (K p) : Nat) : Int) - 0 ↔ Nat.blt 1 (q_ord (K p)) = true
      rw [Nat.blt_eq]
      omega
  refine ⟨fun q => ?_, fun q => ?_⟩
  · have q : q_tc w (K p) (R p) ≤ q_tc w 1 0 := q
    cases hz : q_pass w (K p) with
    | true => exact absurd (e.mpr hz) (Int32.not_lt.mpr q)
    | false =>
      rw [hz] at hq
      exact ⟨Or.inl rfl, hq⟩
  · have q : ¬ q_tc w (K p) (R p) ≤ q_tc w 1 0 := q
    cases hz : q_pass w (K p) with
    | true =>
      rw [hz] at hq
      exact ⟨Or.inr rfl, hq⟩
    | false =>
      rw [Int32.not_le, e, hz] at q
      exact absurd q (by decide)
theorem s_mps (hT : q_T σ D N m w a d L K R H) (p : Nat) (hp : p < N) {y x : Int32} (hy : y = nI 1) (hx : x = nI p) (hq : Q (0, [], [vI (k_bit (q_pass w (K p)))], σ)) : m_T E 65535 (r + 2) 131 (0, [some (vR 6 0), some (vI x), some (vI y)], [], σ) Q := by
  subst hy
  subst hx
  obtain ⟨⟨w0, w1, w2, w3, w4, w5, w6, w7, w8, w9, wa, wb, wc⟩, c1, c2, c3⟩ := hT
  obtain ⟨x1, x2, x3, x4, x5, -⟩ := wc p hp
  have w0 : σ.1 13 3 0 = nI w := w0
  have i0 : vp_in (Int32.ofInt 0) 309 := k_in (k := 0) (n := 309) (by decide) (by decide)
  have o4 : q_ord (K p) ≤ 4 := by
    unfold q_ord
    cases Nat.beq (K p) 3 <;> cases Nat.beq (K p) 1 <;> cases Nat.beq (K p) 2 <;> cases Nat.beq (K p) 5 <;> decide
  refine m_T_un 60 (fun y _ => Nat.beq y 116 || Nat.beq y 117) ?_
  obtain rfl | rfl | rfl : w = 0 ∨ w = 1 ∨ w = 2 := by omega
  · exact ⟨i0, fun _ => ⟨Or.inl rfl, hq⟩, fun q => absurd (w0.symm.trans q) (by decide)⟩
  · exact ⟨i0, fun _ => ⟨Or.inl rfl, hq⟩, fun q => absurd (w0.symm.trans q) (by decide)⟩
  · refine ⟨i0, fun q => absurd w0 q, fun _ => ?_⟩
    refine s_ord 1 (by omega) (by omega) rfl ?_
    refine s_of p 0 (by omega) (by omega) rfl rfl ?_
    refine s_ord (K p) x2 x3 x1 ⟨fun q => ?_, fun q => ?_⟩
    · have q : nI (q_ord (K p)) ≤ nI 1 := q
      rw [nI_leI (by omega) (by omega)] at q
      have e : q_pass 2 (K p) = false := by
        show Nat.blt 1 (q_ord (K p)) = false
        rw [← Bool.not_eq_true, Nat.blt_eq]
        omega
      rw [e] at hq
      exact ⟨Or.inl rfl, hq⟩
    · have q : ¬ nI (q_ord (K p)) ≤ nI 1 := q
      rw [nI_leI (by omega) (by omega)] at q
      have e : q_pass 2 (K p) = true := by
        show Nat.blt 1 (q_ord (K p)) = true
        rw [Nat.blt_eq]
        omega
      rw [e] at hq
      exact ⟨Or.inr rfl, hq⟩
/-- the class's loop, where none is let pass -/
theorem s_cdo {s n : Nat} {x : Nat → Nat} {v0 : m_V} (hs : s < 8) (hn : n ≤ 20) (hx : ∀ t, t < n → σ.1 12 (20 + s) t = nI (x t) ∧ x t ≤ 20) : ∀ k t A C, t + k = n → A < 1000 → C ≤ 20 → Q (0, [], [vI (q_do x k A C t)], σ) → m_T E 65535 (r + 1) 80 (24, [some (vR 5 0), some v0, some (vR 3 s), some (vI (nI n)), some (vI (Int32.ofInt 0)), some (vI (nI A)), some (vI (nI C)), some (vI (nI t))], [], σ) Q := by
  intro k
  induction k with
  | zero =>
    intro t A C ht hA hC hq
    refine m_T_un 40 (fun y pc => (Nat.beq y 80 && Nat.beq pc 24) || Nat.beq y 50) ?_
    exact ⟨fun _ => hq, fun q => absurd (nI_le (show n ≤ t by omega) (by omega)) q⟩
  | succ k ih =>
    intro t A C ht hA hC hq
    refine m_T_un 40 (fun y pc => (Nat.beq y 80 && Nat.beq pc 24) || Nat.beq y 50) ?_
    refine ⟨fun q => absurd q (nI_ge (show t < n by omega) (by omega)), fun _ => ⟨fun q => ?_, fun q => ?_⟩⟩
    · have q : nI C ≤ nI A := q
      rw [nI_leI (by omega) (by omega)] at q
      rw [show q_do x (k + 1) A C t = q_do x k (A - C) (x t) (t + 1) from if_neg (by omega)] at hq
      refine s_at t rfl (by rw [m_lenR hs]; omega) ?_
      refine ⟨fun _ => ?_, fun q => absurd rfl q⟩
      have e := ih (t + 1) (A - C) (x t) (by omega) (by omega) (hx t (by omega)).2 hq
      rw [nI_succ, ← pk_sub q, ← (hx t (by omega)).1] at e
      exact e
    · have q : ¬ nI C ≤ nI A := q
      rw [nI_leI (by omega) (by omega)] at q
      rw [show q_do x (k + 1) A C t = nI (t + 1) from if_pos (by omega), ← nI_add] at hq
      exact hq
end Out
