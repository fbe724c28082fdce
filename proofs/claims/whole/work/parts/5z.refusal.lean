/-! refusals of one row, and of two, in one place (methods 167, 18) -/
theorem k_noB : ¬ (m_nth m_kI 1 0 : Int32) = 0 := by decide
theorem k_fnd {σ : m_M} {s : Nat} {y : Int32} (h : ¬ q_lack σ s y = 0) : ¬ m_nth m_kI 4 0 - q_lack σ s y = 0 := by
  unfold q_lack at h ⊢
  by_cases g1 : σ.1 3 s 1 = 0
  · rw [if_pos g1]; decide
  · rw [if_neg g1] at h ⊢
    by_cases g2 : y ≤ σ.1 3 s 3
    · rw [if_pos g2] at h
      exact absurd rfl h
    · rw [if_neg g2]; decide
def k_rfs : Nat → Nat → Bool := fun y _ => Nat.beq y 54 || Nat.beq y 55
section Refusal
variable {E : m_E} {r : Nat} {σ : m_M} {Q : m_F → Prop}
theorem s_rf1 {s n hi : Nat} {y : Int32} (hs : s < 8) (hn : n ≤ 40) (hh : hi < 2 ^ 31) (hy : y = nI n) (hl : q_lack σ s y = 0) (hb : q_btw σ s n hi) (hq : Q (0, [], [vI (Int32.ofInt 0)], σ)) : m_T E 65535 (r + 2) 167 (0, [some (vR 0 0), some (vR 3 s), some (vI y), some (vI (nI hi)), none], [], σ) Q := by
  subst hy
  refine m_T_un 60 k_rfs ?_
  refine s_lk ⟨fun _ => ?_, fun q => absurd hl q⟩
  exact s_btw1 hs hn hh hb ⟨fun q => absurd q k_no1, fun _ => hq⟩
theorem s_rf0 {s n hi : Nat} {y : Int32} (hs : s < 8) (hn : n ≤ 40) (hh : hi < 2 ^ 31) (hy : y = nI n) (hl : q_lack σ s y = 0) (hb : ¬ q_btw σ s n hi) (hq : Q (0, [], [vI (m_nth m_kI 1 0)], σ)) : m_T E 65535 (r + 2) 167 (0, [some (vR 0 0), some (vR 3 s), some (vI y), some (vI (nI hi)), none], [], σ) Q := by
  subst hy
  refine m_T_un 60 k_rfs ?_
  refine s_lk ⟨fun _ => ?_, fun q => absurd hl q⟩
  exact s_btw0 hs hn hh hb ⟨fun _ => hq, fun q => absurd rfl q⟩
theorem s_rfl {s : Nat} {y h : Int32} (hl : ¬ q_lack σ s y = 0) (hq : Q (0, [], [vI (m_nth m_kI 4 0 - q_lack σ s y)], m_up σ 0 0 8 (q_lack σ s y))) : m_T E 65535 (r + 2) 167 (0, [some (vR 0 0), some (vR 3 s), some (vI y), some (vI h), none], [], σ) Q := by
  refine m_T_un 60 k_rfs ?_
  exact s_lk ⟨fun q => absurd q hl, fun _ => hq⟩
end Refusal
