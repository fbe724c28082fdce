/-! the text: the model's town -/
section MLoop
variable {E : m_E} {r : Nat} {μ : m_M} {Q : m_F → Prop} {B : Nat → Nat} {n : Nat}
def k_ml : Nat → Nat → Bool := fun y pc => k_mm y pc || (Nat.beq y 93 && (Nat.beq pc 35 || Nat.beq pc 53 || Nat.beq pc 73))
theorem s_mtl {u : Int32} (hn : n ≤ 500) (hB : ∀ j, j < n → μ.1 13 5 j = nI (B j) ∧ B j < 256) (A0 : t_A) (hq : ∀ τ, y_L μ τ n A0 → m_T E 65535 (r + 5) 93 (73, [some (vR 6 0), some (vI u)], [], τ) Q) : ∀ k A τ, (A.1.2.2.2 = 0 → A.2.1 + k = 25) → t_lp B n k A = A0 → t_ok B n A.1 → A.2.1 ≤ 24 → y_L μ τ n A → m_T E 65535 (r + 5) 93 (35, [some (vR 6 0), some (vI u)], [], τ) Q := by
  have hBt : ∀ τ : m_M, (∀ c v, ¬ (c = 6 ∧ v = 0) → ¬ (c = 13 ∧ v = 4) → τ.1 c v = μ.1 c v) → ∀ j, j < n → τ.1 13 5 j = nI (B j) ∧ B j < 256 := fun τ h j hj => by
    rw [h 13 5 (by omega) (by omega)]
    exact hB j hj
  have p4 := t_pw_lt 4 (by omega)
  have bad : ∀ A τ, ¬ A.1.2.2.2 = 0 → t_ok B n A.1 → A = A0 → y_L μ τ n A → m_T E 65535 (r + 5) 93 (35, [some (vR 6 0), some (vI u)], [], τ) Q := fun A τ g hS hA hL => by
    subst hA
    have l16 : τ.1 6 0 16 = nI A.1.2.2.2 := by
      obtain ⟨⟨fa, h, -⟩, -⟩ := hL
      exact h.2.2.2.2.2.1
    have s4 := hS.2.2.2.1
    refine m_T_un 60 k_ml ?_
    refine s_mnm hn (hBt τ hL.2.2.2.2) hS (y_Lp hL) ⟨fun _ => ?_, fun q => ?_⟩
    · refine m_T_un 60 k_ml ?_
      refine ⟨fun _ => hq τ hL, fun q => ?_⟩
      have q : τ.1 6 0 16 = nI 0 := q
      rw [l16, nI_eq (by omega) (by omega)] at q
      exact absurd q g
    · have q : lg_cmp (lN (t_nv B A.1)) (lN (t_pw 4)) = 0 := q
      have nl := t_nv_lt hS
      rw [lg_cmp_eq, t_lEQ (by omega) (by omega)] at q
      unfold t_nv at q
      rw [if_neg (fun h => g h.1)] at q
      exact absurd q.symm (t_pw_ne 4 (by omega))
  intro k
  induction k with
  | zero =>
    intro A τ hk hA hS hN hL
    exact bad A τ (fun g => by have := hk g; omega) hS hA hL
  | succ k ih =>
    intro A τ hk hA hS hN hL
    by_cases g0 : A.1.2.2.2 = 0
    · have nl := t_nv_lt hS
      have s3 := hS.2.2.1
      have ln : ∃ fa : Int32, τ.1 6 0 13 = nI (t_mt A.1.2.2.1) ∧ τ.1 6 0 16 = nI 0 := by
        obtain ⟨⟨fa, h, -⟩, -⟩ := hL
        exact ⟨fa, h.2.2.1, h.2.2.2.2.2.1.trans (congrArg nI g0)⟩
      obtain ⟨fa, l13, l16⟩ := ln
      have w4 := t_nv_w hS g0 (v := 4) (by omega) (by decide)
      refine m_T_un 60 k_ml ?_
      refine s_mnm hn (hBt τ hL.2.2.2.2) hS (y_Lp hL) ⟨fun q => ?_, fun q => ?_⟩
      · have q : ¬ lg_cmp (lN (t_nv B A.1)) (lN (t_pw 4)) = 0 := q
        rw [lg_cmp_eq, t_lEQ (by omega) (by omega), w4] at q
        have q : t_sw B A.1 4 = false := Bool.eq_false_iff.mpr q
        refine m_T_un 60 (fun y pc => (Nat.beq y 93 && Nat.beq pc 73)) ?_
        refine ⟨fun q2 => absurd l16 q2, fun _ => ⟨fun q2 => ?_, fun q2 => ⟨fun q3 => absurd l16 q3, fun _ => ?_⟩⟩⟩
        · have q2 : τ.1 6 0 13 = nI 1 := q2
          rw [l13, t_mt_eq s3 (by omega)] at q2
          rw [show t_lp B n (k + 1) A = A from if_neg (fun h => h.2 (by omega))] at hA
          subst hA
          exact hq τ hL
        · have q2 : ¬ τ.1 6 0 13 = nI 1 := q2
          rw [l13, t_mt_eq s3 (by omega)] at q2
          have z : ¬ ((A.1.1, A.1.2.1, A.1.2.2.1, 1) : t_S).2.2.2 = 0 := show ¬ 1 = 0 by omega
          have e1 : t_p1 B n A.1 = (A.1.1, A.1.2.1, A.1.2.2.1, 1) := by
            unfold t_p1 t_ac
            rw [if_pos g0, q]
            rfl
          have e5 : t_p5 B n A.1 = (A.1.1, A.1.2.1, A.1.2.2.1, 1) := by
            show t_r4 B n (t_p1 B n A.1) = _
            rw [e1]
            exact t_r4n z
          have es : t_st B n A = ((A.1.1, A.1.2.1, A.1.2.2.1, 1), A.2) := by
            unfold t_st
            rw [if_neg (fun h => by rw [q] at h; exact Bool.noConfusion h.1), e5, if_neg z]
          have el : t_lp B n k ((A.1.1, A.1.2.1, A.1.2.2.1, 1), A.2) = ((A.1.1, A.1.2.1, A.1.2.2.1, 1), A.2) := by
            cases k with
            | zero => rfl
            | succ k => exact if_neg (fun h => z h.1)
          rw [show t_lp B n (k + 1) A = t_lp B n k (t_st B n A) from if_pos ⟨g0, by omega⟩, es, el] at hA
          subst hA
          exact hq _ (y_Lq hL (p_Mb (k := 1) (y_Lp hL)))
      · have q : lg_cmp (lN (t_nv B A.1)) (lN (t_pw 4)) = 0 := q
        rw [lg_cmp_eq, t_lEQ (by omega) (by omega), w4] at q
        have t1 := (t_sw_len q).1
        rw [show t_lp B n (k + 1) A = t_lp B n k (t_st B n A) from if_pos ⟨g0, by omega⟩] at hA
        refine s_mrp hn hB hS hN g0 q hL (fun τ' h' => ?_)
        refine ih (t_st B n A) τ' (fun h => ?_) hA (t_st_ok hS) (t_st_N hN) h'
        have hk := hk g0
        unfold t_st at h ⊢
        by_cases g : t_sw B A.1 4 = true ∧ 24 ≤ A.2.1
        · rw [if_pos g] at h
          exact absurd h (show ¬ 3 = 0 by omega)
        · rw [if_neg g] at h ⊢
          by_cases g2 : (t_p5 B n A.1).2.2.2 = 0
          · rw [if_pos g2]
            show A.2.1 + 1 + k = 25
            omega
          · rw [if_neg g2] at h
            exact absurd h g2
    · refine bad A τ g0 hS ?_ hL
      rw [show t_lp B n (k + 1) A = A from if_neg (fun h => g0 h.1)] at hA
      exact hA
end MLoop
