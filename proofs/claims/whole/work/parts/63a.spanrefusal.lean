/-! refusals of two rows (method 18) -/
def k_srf : Nat → Nat → Bool := fun y _ => Nat.beq y 54 || Nat.beq y 19
section SpanRefusal
variable {E : m_E} {r : Nat} {σ : m_M} {Q : m_F → Prop}
/-- what is said of the two rows when they hold items enough -/
theorem s_sr {s s' n : Nat} {h : Int32} {P : Prop} (hl : q_lack σ s (nI n) = 0) (hl' : q_lack σ s' (nI n) = 0)
    (hP : ∀ Q : m_F → Prop, (∀ z : Bool, (z = true ↔ P) → Q (0, [], [vI (k_bit z)], σ)) → m_T E 65535 (r + 2) 19 (0, [some (vR 3 s), some (vR 3 s'), some (vI (nI n)), some (vI h), none], [], σ) Q)
    (hq : ∀ z : Bool, (z = true ↔ P) → Q (0, [], [vI (cond z (Int32.ofInt 0) (m_nth m_kI 1 0))], σ)) : m_T E 65535 (r + 3) 18 (0, [some (vR 0 0), some (vR 3 s), some (vR 3 s'), some (vI (nI n)), some (vI h), none], [], σ) Q := by
  refine m_T_un 60 k_srf ?_
  refine s_lk ⟨fun q => absurd hl q, fun _ => ?_⟩
  refine s_lk ⟨fun _ => ?_, fun q => absurd hl' q⟩
  refine hP _ (fun z hz => ?_)
  cases z with
  | true => exact ⟨fun q => absurd q (by decide), fun _ => hq true hz⟩
  | false => exact ⟨fun _ => hq false hz, fun q => absurd rfl q⟩
theorem s_srz {s s' n : Nat} (hs : s < 8) (hs' : s' < 8) (hn : n ≤ 20) (hl : q_lack σ s (nI n) = 0) (hl' : q_lack σ s' (nI n) = 0) (hq : ∀ z : Bool, (z = true ↔ q_spn σ s s' n) → Q (0, [], [vI (cond z (Int32.ofInt 0) (m_nth m_kI 1 0))], σ)) : m_T E 65535 (r + 3) 18 (0, [some (vR 0 0), some (vR 3 s), some (vR 3 s'), some (vI (nI n)), some (vI (nI 20)), none], [], σ) Q :=
  s_sr hl hl' (fun _ k => s_spn hs hs' hn k) hq
/-- the first row lacks something -/
theorem s_srl {s s' : Nat} {y h : Int32} (hl : ¬ q_lack σ s y = 0) (hq : Q (0, [], [vI (m_nth m_kI 4 0 - q_lack σ s y)], m_up σ 0 0 8 (q_lack σ s y))) : m_T E 65535 (r + 3) 18 (0, [some (vR 0 0), some (vR 3 s), some (vR 3 s'), some (vI y), some (vI h), none], [], σ) Q := by
  refine m_T_un 60 k_srf ?_
  exact s_lk ⟨fun _ => ⟨fun q => absurd q hl, fun _ => hq⟩, fun q => absurd q hl⟩
/-- the second does -/
theorem s_srm {s s' : Nat} {y h : Int32} (hl : q_lack σ s y = 0) (hl' : ¬ q_lack σ s' y = 0) (hq : Q (0, [], [vI (m_nth m_kI 4 0 - q_lack σ s' y)], m_up σ 0 0 8 (q_lack σ s' y))) : m_T E 65535 (r + 3) 18 (0, [some (vR 0 0), some (vR 3 s), some (vR 3 s'), some (vI y), some (vI h), none], [], σ) Q := by
  refine m_T_un 60 k_srf ?_
  refine s_lk ⟨fun q => absurd hl q, fun _ => ?_⟩
  exact s_lk ⟨fun q => absurd q hl', fun _ => hq⟩
end SpanRefusal
