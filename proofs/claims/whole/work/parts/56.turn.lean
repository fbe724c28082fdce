/-! the turns of both sides -/
section Turn
variable {E : m_E} {r : Nat} {σ : m_M} {Q : m_F → Prop} {D N m w a d : Nat} {L K R H : Nat → Nat}
theorem s_trn2 (hw : σ.1 5 0 1 = nI w) (w2 : w ≤ 2) (k z : Nat) (k1 : 1 ≤ k) (k5 : k ≤ 5) (hq : Q (0, [], [vI (q_tc w k z)], σ)) : m_T E 65535 r 74 (0, [some (vR 5 0), some (vI (nI k)), some (vI (nI z))], [], σ) Q := by
  refine m_T_un 60 m_no ?_
  obtain rfl | rfl | rfl : w = 0 ∨ w = 1 ∨ w = 2 := by omega
  · refine ⟨fun _ => ⟨fun _ => hq, fun q => absurd (hw.symm.trans q) (by decide)⟩, fun q => absurd (hw.symm.trans q) (by decide)⟩
  · refine ⟨fun _ => ⟨fun q => absurd hw q, fun _ => hq⟩, fun q => absurd (hw.symm.trans q) (by decide)⟩
  · refine ⟨fun q => absurd hw q, fun _ => ?_⟩
    obtain rfl | rfl | rfl | rfl | rfl : k = 1 ∨ k = 2 ∨ k = 3 ∨ k = 4 ∨ k = 5 := by omega
    all_goals exact ⟨fun q => absurd q (by decide), fun _ => ⟨fun q => absurd q (show ¬ ((6 : Int32) ≤ _) by decide), fun _ => ⟨show vp_in _ 6 by unfold vp_in; decide, hq⟩⟩⟩
theorem s_trn (hT : q_T σ D N m w a d L K R H) (p : Nat) (hp : p < N) {x : Int32} (hx : x = nI p) (hq : Q (0, [], [vI (q_tc w (K p) (R p))], σ)) : m_T E 65535 (r + 1) 73 (0, [some (vR 5 0), some (vI x)], [], σ) Q := by
  subst hx
  obtain ⟨⟨w0, w1, w2, w3, w4, w5, w6, w7, w8, w9, wa, wb, wc⟩, c1, c2, c3⟩ := hT
  obtain ⟨x1, x2, x3, x4, x5, -⟩ := wc p hp
  obtain ⟨y1, y2, -⟩ := c3 p hp
  refine m_T_un 60 (fun y _ => Nat.beq y 50 || Nat.beq y 74) ?_
  refine s_at p rfl (show p < 60 by omega) ?_
  refine s_at p rfl (show p < 60 by omega) ?_
  have go : ∀ Q : m_F → Prop, Q (0, [], [vI (q_tc w (K p) (R p))], σ) → m_T E 65535 r 74 (0, [some (vR 5 0), some (vI (σ.1 12 0 p)), some (vI (σ.1 12 1 p))], [], σ) Q := fun Q h => by
    rw [show σ.1 12 0 p = nI (K p) from y1.trans x1, show σ.1 12 1 p = nI (R p) from y2.trans x4]
    exact s_trn2 ((c1 0 (by omega)).trans w0) w1 _ _ x2 x3 h
  exact go _ hq
theorem s_ord (k : Nat) (k1 : 1 ≤ k) (k5 : k ≤ 5) {x : Int32} (hx : x = nI k) (hq : Q (0, [], [vI (nI (q_ord k))], σ)) : m_T E 65535 r 117 (0, [some (vI x)], [], σ) Q := by
  subst hx
  refine m_T_un 60 m_no ?_
  obtain rfl | rfl | rfl | rfl | rfl : k = 1 ∨ k = 2 ∨ k = 3 ∨ k = 4 ∨ k = 5 := by omega
  all_goals repeat (first
    | exact hq
    | refine ⟨fun q => absurd q (by decide), fun _ => ?_⟩
    | refine ⟨fun _ => ?_, fun q => absurd q (by decide)⟩)
theorem s_wt (hT : q_T σ D N m w a d L K R H) (p : Nat) (hp : p < N) {x : Int32} (hx : x = nI p) (hq : Q (0, [], [vI (nI (q_tn w (K p) (R p)))], σ)) : m_T E 65535 (r + 1) 115 (0, [some (vR 6 0), some (vI x)], [], σ) Q := by
  subst hx
  obtain ⟨⟨w0, w1, w2, w3, w4, w5, w6, w7, w8, w9, wa, wb, wc⟩, c1, c2, c3⟩ := hT
  obtain ⟨x1, x2, x3, x4, x5, -⟩ := wc p hp
  have w0 : σ.1 13 3 0 = nI w := w0
  have i0 : vp_in (Int32.ofInt 0) 309 := k_in (k := 0) (n := 309) (by decide) (by decide)
  refine m_T_un 60 (fun y _ => Nat.beq y 116 || Nat.beq y 117) ?_
  obtain rfl | rfl | rfl : w = 0 ∨ w = 1 ∨ w = 2 := by omega
  · exact ⟨i0, fun q => absurd w0 q, fun _ => hq⟩
  · refine ⟨i0, fun _ => ⟨i0, fun q => absurd w0 q, fun _ => ?_⟩, fun q => absurd (w0.symm.trans q) (by decide)⟩
    refine s_of p 1 (by omega) (by omega) rfl rfl ?_
    have e : (Int8.ofInt 9).toInt32 - σ.1 13 3 (69 + 4 * p + 1) = nI (q_tn 1 (K p) (R p)) := by
      rw [show σ.1 13 3 (69 + 4 * p + 1) = nI (R p) by rw [show 69 + 4 * p + 1 = 70 + 4 * p by omega]; exact x4, show (Int8.ofInt 9).toInt32 = nI 9 from rfl, pk_sub x5]
      rfl
    have h2 : Q (0, [], [vI ((Int8.ofInt 9).toInt32 - σ.1 13 3 (69 + 4 * p + 1))], σ) := by rw [e]; exact hq
    exact h2
  · refine ⟨i0, fun _ => ⟨i0, fun _ => ?_, fun q => absurd (w0.symm.trans q) (by decide)⟩, fun q => absurd (w0.symm.trans q) (by decide)⟩
    refine s_of p 0 (by omega) (by omega) rfl rfl ?_
    exact s_ord (K p) x2 x3 x1 hq
theorem q_tcn (w2 : w ≤ 2) {k z : Nat} (z9 : z ≤ 9) : (q_tc w k z).toInt = (q_tn w k z : Int) - (if w = 1 then 9 else 0) := by
  have o4 : q_ord k ≤ 4 := by
    unfold q_ord
    cases Nat.beq k 3 <;> cases Nat.beq k 1 <;> cases Nat.beq k 2 <;> cases Nat.beq k 5 <;> decide
  obtain rfl | rfl | rfl : w = 0 ∨ w = 1 ∨ w = 2 := by omega
  · rfl
  · show (-(nI z)).toInt = ((9 - z : Nat) : Int) - 9
    rw [Int32.toInt_neg, k_nI (by omega)]
    rw [Int.bmod_eq_of_le (by omega) (by omega)]
    omega
  · show (nI (q_ord k)).toInt = (q_ord k : Int) - 0
    rw [k_nI (by omega)]
    omega
end Turn
