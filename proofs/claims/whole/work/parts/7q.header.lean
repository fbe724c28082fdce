/-! the text: the town (class) -/
theorem p_Fu {σ τ : m_M} {n f e t ft c v j : Nat} {x : Int32} (hc : ¬ (c = 4 ∧ v = 0)) (h : p_F σ τ n f e t ft) : p_F (m_up σ c v j x) (m_up τ c v j x) n f e t ft := by
  obtain ⟨h1, h2, h3, h4, h5, h6⟩ := h
  have o : ¬ (4 = c ∧ 0 = v) := fun g => hc ⟨g.1.symm, g.2.symm⟩
  refine ⟨by rw [m_up_other o]; exact h1, by rw [m_up_other o]; exact h2, by rw [m_up_other o]; exact h3, by rw [m_up_other o]; exact h4, by rw [m_up_other o]; exact h5, fun c' v' g => ?_⟩
  by_cases g2 : c' = c ∧ v' = v
  · obtain ⟨rfl, rfl⟩ := g2
    funext j'
    by_cases g3 : j' = j
    · rw [m_up_eq g3, m_up_eq g3]
    · rw [m_up_ne g3, m_up_ne g3, h6 _ _ g]
  · rw [m_up_other g2, m_up_other g2, h6 _ _ g]
def z_cl (σ : m_M) : m_M := m_up (m_up (m_up (m_up (m_up (m_up (m_up (m_up (m_up (m_up σ 5 1 0 0) 5 1 1 0) 5 1 2 0) 5 1 3 0) 5 1 4 0) 5 1 5 0) 5 1 6 0) 5 1 7 0) 5 1 8 0) 5 1 9 0
def z_hd (σ : m_M) (B : Nat → Nat) (n : Nat) : m_M := m_up (m_up (m_up (m_up (z_cl σ) 5 1 1 (t_lx (t_lw B (t_h2 B n)))) 5 1 2 (nI (t_vl B (t_h3 B n)))) 5 1 3 (nI (t_vl B (t_h4 B n)))) 5 1 4 (nI (t_vl B (t_h5 B n)))
theorem z_clo {σ : m_M} (c v : Nat) (h : ¬ (c = 5 ∧ v = 1)) : (z_cl σ).1 c v = σ.1 c v := by
  unfold z_cl
  rw [m_up_other h, m_up_other h, m_up_other h, m_up_other h, m_up_other h, m_up_other h, m_up_other h, m_up_other h, m_up_other h, m_up_other h]
theorem z_hdo {σ : m_M} {B : Nat → Nat} {n : Nat} (c v : Nat) (h : ¬ (c = 5 ∧ v = 1)) : (z_hd σ B n).1 c v = σ.1 c v := by
  unfold z_hd
  rw [m_up_other h, m_up_other h, m_up_other h, m_up_other h, z_clo c v h]
section CHeader
variable {E : m_E} {r : Nat} {σ τ : m_M} {Q : m_F → Prop} {B : Nat → Nat} {n : Nat}
theorem s_clp (hn : n ≤ 500) (hB : ∀ j, j < n → σ.1 12 28 j = nI (B j) ∧ B j < 256) (A0 : t_A) (hq : ∀ τ, z_L σ τ n A0 → m_T E 65535 (r + 7) 57 (113, [some (vR 4 0), some (vR 5 1), none], [], τ) Q) : ∀ k t A τ, t + k = 25 → t_lp B n k A = A0 → t_ok B n A.1 → A.2.1 ≤ 24 → z_L σ τ n A → m_T E 65535 (r + 7) 57 (82, [some (vR 4 0), some (vR 5 1), some (vI (nI t))], [], τ) Q := by
  intro k
  induction k with
  | zero =>
    intro t A τ ht hA hS hN hL
    have hA : A = A0 := hA
    subst hA
    refine m_T_un 60 (fun y pc => (Nat.beq y 57 && (Nat.beq pc 82 || Nat.beq pc 113)) || Nat.beq y 65) ?_
    refine ⟨fun _ => ?_, fun q => absurd (nI_lt (show 24 < t by omega) (by omega)) q⟩
    refine m_T_mask [true, true, false] ?_
    exact hq τ hL
  | succ k ih =>
    intro t A τ ht hA hS hN hL
    have o1 := hS.2.2.1
    have o2 := hS.2.2.2.1
    have l4 := hL.1.2.2.2.1
    have l5 := hL.1.2.2.2.2
    have stop : ¬ (A.1.2.2.2 = 0 ∧ ¬ A.1.2.2.1 = 0) → m_T E 65535 (r + 7) 57 (113, [some (vR 4 0), some (vR 5 1), none], [], τ) Q := fun g => by
      rw [show t_lp B n (k + 1) A = A from if_neg g] at hA
      subst hA
      exact hq τ hL
    refine m_T_un 60 (fun y pc => (Nat.beq y 57 && (Nat.beq pc 82 || Nat.beq pc 113)) || Nat.beq y 65) ?_
    refine ⟨fun q => absurd q (nI_nlt (show t ≤ 24 by omega) (by omega)), fun _ => ⟨fun q => ?_, fun q => ⟨fun q2 => ?_, fun q2 => ?_⟩⟩⟩
    · have q : ¬ τ.1 4 0 5 = nI 0 := q
      rw [l5, nI_eq (by omega) (by omega)] at q
      refine m_T_mask [true, true, false] ?_
      exact stop (fun g => q g.1)
    · have q2 : τ.1 4 0 4 = nI 0 := q2
      rw [l4, nI_eq (by omega) (by omega)] at q2
      refine m_T_mask [true, true, false] ?_
      exact stop (fun g => g.2 q2)
    · have q : τ.1 4 0 5 = nI 0 := q
      have q2 : ¬ τ.1 4 0 4 = nI 0 := q2
      rw [l5, nI_eq (by omega) (by omega)] at q
      rw [l4, nI_eq (by omega) (by omega)] at q2
      rw [show t_lp B n (k + 1) A = t_lp B n k (t_st B n A) from if_pos ⟨q, q2⟩] at hA
      refine s_crp hn hB hS hN hL (fun τ' h' => ?_)
      have e := ih (t + 1) (t_st B n A) τ' (by omega) hA (t_st_ok hS) (t_st_N hN) h'
      rw [nI_succ t] at e
      exact e
/-- what the class has read -/
def z_R (σ τ : m_M) (B : Nat → Nat) (n : Nat) (A : t_A) : Prop := τ.1 4 0 2 = nI A.1.1 ∧ τ.1 4 0 5 = nI A.1.2.2.2 ∧ z_D τ A.2.1 A.2.2.1 A.2.2.2.1 A.2.2.2.2 ∧ (τ.1 5 1 0 = (if A.1.2.2.2 = 0 then 1 else 0) ∧ τ.1 5 1 1 = t_lx (t_lw B (t_h2 B n)) ∧ τ.1 5 1 2 = nI (t_vl B (t_h3 B n)) ∧ τ.1 5 1 3 = nI (t_vl B (t_h4 B n)) ∧ τ.1 5 1 4 = nI (t_vl B (t_h5 B n)) ∧ τ.1 5 1 5 = 0 ∧ τ.1 5 1 6 = 0 ∧ τ.1 5 1 7 = 0) ∧ (∀ c v, ¬ (c = 4 ∧ v = 0) → ¬ (c = 5 ∧ v = 1) → ¬ (c = 12 ∧ 5 ≤ v ∧ v < 10) → τ.1 c v = σ.1 c v)
end CHeader
theorem t_lp_ok {B : Nat → Nat} {n : Nat} : ∀ k A, t_ok B n A.1 → A.2.1 ≤ 24 → t_ok B n (t_lp B n k A).1 ∧ (t_lp B n k A).2.1 ≤ 24
  | 0, A, h1, h2 => ⟨h1, h2⟩
  | k + 1, A, h1, h2 => by
    unfold t_lp
    split
    · exact t_lp_ok k _ (t_st_ok h1) (t_st_N h2)
    · exact ⟨h1, h2⟩
theorem t_all_ok {B : Nat → Nat} {n k : Nat} {S : t_S} {f g h : Nat → Nat} {A : t_A} (hS : t_ok B n S) (hA : t_lp B n k (S, 0, f, g, h) = A) : t_ok B n A.1 ∧ A.2.1 ≤ 24 := by
  have e := t_lp_ok (B := B) (n := n) k (S, 0, f, g, h) hS (Nat.zero_le 24)
  rw [hA] at e
  exact e
section CTown
variable {E : m_E} {r : Nat} {σ τ : m_M} {Q : m_F → Prop} {B : Nat → Nat} {n : Nat}
theorem s_crt {k : Nat} {A : t_A} {S7 : t_S} (hk : k = 25) (h7 : S7 = t_h7 B n) (hA : t_lp B n k (S7, 0, fun _ => 0, fun _ => 0, fun _ => 0) = A) (hn : n ≤ 500) (h1 : σ.1 4 0 1 = nI n) (hB : ∀ j, j < n → σ.1 12 28 j = nI (B j) ∧ B j < 256) (hq : ∀ τ, z_R σ τ B n A → Q (0, [], [], τ)) : m_T E 65535 (r + 7) 57 (0, [some (vR 4 0), some (vR 5 1), none], [], σ) Q := by
  have o7 : t_ok B n S7 := by rw [h7]; exact t_h7_ok
  have hBo : ∀ τ : m_M, (∀ c v, ¬ (c = 4 ∧ v = 0) → ¬ (c = 5 ∧ v = 1) → τ.1 c v = σ.1 c v) → ∀ j, j < n → τ.1 12 28 j = nI (B j) ∧ B j < 256 := fun τ h j hj => by
    rw [h 12 28 (by omega) (by omega)]
    exact hB j hj
  have fin : ∀ τ, z_L (z_hd σ B n) τ n A → m_T E 65535 (r + 7) 57 (113, [some (vR 4 0), some (vR 5 1), none], [], τ) Q := fun τ hL => by
    obtain ⟨⟨a1, a2, a3, a4, a5⟩, ⟨d1, d2, d3⟩, h5, h6⟩ := hL
    have o := (t_all_ok o7 hA).1.2.2.2.1
    have z : ∀ x : Int32, x = (if A.1.2.2.2 = 0 then 1 else 0) → Q (0, [], [], m_up τ 5 1 0 x) := fun x hx => by
      refine hq _ ⟨by rw [m_up_other (by omega)]; exact a2, by rw [m_up_other (by omega)]; exact a5, ⟨by rw [m_up_ne (by omega)]; exact d1, by rw [m_up_ne (by omega)]; exact d2, ?_⟩, ⟨(m_up_eq rfl).trans hx, ?_, ?_, ?_, ?_, ?_, ?_, ?_⟩, fun c v g1 g2 g3 => by rw [m_up_other g2, h6 c v g1 g2 g3, z_hdo c v g2]⟩
      · rw [m_up_other (by omega), m_up_other (by omega), m_up_other (by omega), m_up_other (by omega), m_up_other (by omega)]
        exact d3
      all_goals rw [m_up_ne (by omega), h5 _ (by omega) (by omega)]; simp [z_hd, z_cl, m_up]
    refine m_T_un 60 m_no ?_
    refine ⟨fun q => ⟨Or.inl rfl, ?_⟩, fun q => ⟨Or.inr rfl, ?_⟩⟩
    · have q : ¬ τ.1 4 0 5 = nI 0 := q
      rw [a5, nI_eq (by omega) (by omega)] at q
      exact z _ (by rw [if_neg q]; rfl)
    · have q : τ.1 4 0 5 = nI 0 := q
      rw [a5, nI_eq (by omega) (by omega)] at q
      exact z _ (by rw [if_pos q]; rfl)
  obtain ⟨f0, hf0⟩ := k_any (σ.1 4 0 2)
  obtain ⟨t0, ht0⟩ := k_any (σ.1 4 0 4)
  have F0 : p_C (z_cl σ) (m_up (m_up (z_cl σ) 4 0 3 (nI 0)) 4 0 5 (nI 0)) n (f0, 0, t0, 0) := by
    refine ⟨?_, ?_, m_up_ne (by omega) |>.trans (m_up_eq rfl), ?_, m_up_eq rfl, fun c v g => by rw [m_up_other g, m_up_other g]⟩
    · rw [m_up_ne (by omega), m_up_ne (by omega), z_clo 4 0 (by omega)]
      exact h1
    · rw [m_up_ne (by omega), m_up_ne (by omega), z_clo 4 0 (by omega)]
      exact hf0
    · rw [m_up_ne (by omega), m_up_ne (by omega), z_clo 4 0 (by omega)]
      exact ht0
  refine m_T_un 90 (fun y pc => Nat.beq pc 0 && (Nat.beq y 58 || Nat.beq y 60 || Nat.beq y 63 || Nat.beq y 64 || Nat.beq y 62) || (Nat.beq y 57 && Nat.beq pc 82)) ?_
  refine ⟨Or.inl rfl, ?_⟩
  refine s_cnx0 (σ := z_cl σ) (S := (f0, 0, t0, 0)) hn (hBo _ (fun c v _ g2 => z_clo c v g2)) (Nat.zero_le n) F0 (fun τ1 C1 => ?_)
  have C1 : p_C (z_cl σ) τ1 n (t_h1 B n) := C1
  refine s_crw (σ := z_cl σ) hn (hBo _ (fun c v _ g2 => z_clo c v g2)) t_h1_ok C1 (show 0 < 10 by omega) (fun τ2 C2 => ?_)
  have C2 : p_C (z_cl σ) τ2 n (t_h2 B n) := C2
  refine s_crl (σ := z_cl σ) hn (hBo _ (fun c v _ g2 => z_clo c v g2)) t_h2_ok C2 (fun τ3 C3 => ?_)
  have C3 : p_C _ (m_up τ3 5 1 1 (t_lx (t_lw B (t_h2 B n)))) n (t_h3 B n) := p_Fu (by omega) C3
  refine s_crn (most := 999) hn (hBo _ (fun c v _ g2 => by rw [m_up_other g2, z_clo c v g2])) t_h3_ok C3 (by omega) rfl (fun τ4 C4 => ?_)
  have C4 : p_C _ (m_up τ4 5 1 2 (nI (t_vl B (t_h3 B n)))) n (t_h4 B n) := p_Fu (by omega) C4
  refine s_crn (most := 99) hn (hBo _ (fun c v _ g2 => by rw [m_up_other g2, m_up_other g2, z_clo c v g2])) t_h4_ok C4 (by omega) rfl (fun τ5 C5 => ?_)
  have C5 : p_C _ (m_up τ5 5 1 3 (nI (t_vl B (t_h4 B n)))) n (t_h5 B n) := p_Fu (by omega) C5
  refine s_crn (most := 20) hn (hBo _ (fun c v _ g2 => by rw [m_up_other g2, m_up_other g2, m_up_other g2, z_clo c v g2])) t_h5_ok C5 (by omega) rfl (fun τ6 C6 => ?_)
  have C6 : p_C (z_hd σ B n) (m_up τ6 5 1 4 (nI (t_vl B (t_h5 B n)))) n (t_h6 B n) := p_Fu (by omega) C6
  have loop : ∀ τ7, p_C (z_hd σ B n) τ7 n S7 → m_T E 65535 (r + 7) 57 (82, [some (vR 4 0), some (vR 5 1), some (vI (nI 0))], [], τ7) Q := fun τ7 C7 => by
    obtain ⟨a1, a2, a3, a4, a5, a6⟩ := C7
    refine s_clp (σ := z_hd σ B n) hn (hBo _ (fun c v _ g2 => z_hdo c v g2)) A fin k 0 (S7, 0, fun _ => 0, fun _ => 0, fun _ => 0) τ7 (by omega) hA o7 (Nat.zero_le 24) ⟨⟨a1, a2, a3, a4, a5⟩, ⟨?_, ?_, fun p hp => absurd hp (Nat.not_lt_zero p)⟩, fun j _ _ => by rw [a6 5 1 (by omega)], fun c v g1 g2 _ => a6 c v g1⟩
    · rw [a6 5 1 (by omega)]
      simp [z_hd, z_cl, m_up]
      rfl
    · rw [a6 5 1 (by omega)]
      simp [z_hd, z_cl, m_up]
      rfl
  have o6 := t_h6_ok (B := B) (n := n)
  have l6 : (m_up τ6 5 1 4 (nI (t_vl B (t_h5 B n)))).1 4 0 4 = nI (t_h6 B n).2.2.1 := C6.2.2.2.1
  refine ⟨fun q => ?_, fun q => ?_⟩
  · have q : ¬ (m_up τ6 5 1 4 (nI (t_vl B (t_h5 B n)))).1 4 0 4 = nI 3 := q
    rw [l6, nI_eq (by have := o6.2.2.1; omega) (by omega)] at q
    exact s_cac hn (hBo _ (fun c v _ g2 => z_hdo c v g2)) o6 C6 (Nat.beq (t_h6 B n).2.2.1 3) (by rw [show Nat.beq (t_h6 B n).2.2.1 3 = false from Bool.eq_false_iff.mpr (fun h => q (Nat.eq_of_beq_eq_true h))]; rfl) (fun τ7 C7 => loop τ7 (by rw [h7]; exact C7))
  · have q : (m_up τ6 5 1 4 (nI (t_vl B (t_h5 B n)))).1 4 0 4 = nI 3 := q
    rw [l6, nI_eq (by have := o6.2.2.1; omega) (by omega)] at q
    exact s_cac hn (hBo _ (fun c v _ g2 => z_hdo c v g2)) o6 C6 (Nat.beq (t_h6 B n).2.2.1 3) (by rw [show Nat.beq (t_h6 B n).2.2.1 3 = true from Nat.beq_eq.mpr q]; rfl) (fun τ7 C7 => loop τ7 (by rw [h7]; exact C7))
end CTown
