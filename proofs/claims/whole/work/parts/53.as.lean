/-! pair as -/
def k_bit (b : Bool) : Int32 := match b with
  | true => Int32.ofInt 1
  | false => Int32.ofInt 0
set_option maxRecDepth 20000 in
theorem s_cis {E : m_E} {x : Nat} {σ : m_M} {Q : m_F → Prop} (K w : Nat) (h1 : 1 ≤ K) (h5 : K ≤ 5) (hw : w ≤ 5) (hq : Q (0, [], [vI (k_bit (q_isof K w))], σ)) : m_T E 65535 x 37 (0, [some (vI (nI K)), some (vI (nI w)), none, none], [], σ) Q := by
  obtain rfl | rfl | rfl | rfl | rfl : K = 1 ∨ K = 2 ∨ K = 3 ∨ K = 4 ∨ K = 5 := by omega
  all_goals obtain rfl | rfl | rfl | rfl | rfl | rfl : w = 0 ∨ w = 1 ∨ w = 2 ∨ w = 3 ∨ w = 4 ∨ w = 5 := by omega
  all_goals refine m_T_un 120 m_no ?_
  all_goals repeat (first
    | exact ⟨Or.inr rfl, hq⟩
    | exact ⟨Or.inl rfl, hq⟩
    | refine ⟨fun q => absurd q (by decide), fun _ => ?_⟩
    | refine ⟨fun _ => ?_, fun q => absurd q (by decide)⟩
    | refine ⟨fun q => absurd q (show ¬ ((6 : Int32) ≤ _) by decide), fun _ => ?_⟩
    | refine ⟨fun _ => ?_, fun q => absurd (show (6 : Int32) ≤ _ by decide) q⟩
    | refine ⟨(show vp_in _ 6 by unfold vp_in; decide), ?_⟩)
