/-! spans of at most 9 -/
def q_di9 (σ : m_M) (s s' n : Nat) : Prop := ∀ t, t < n → 0 ≤ (σ.1 12 (20 + s') t - σ.1 12 (20 + s) t).toInt ∧ (σ.1 12 (20 + s') t - σ.1 12 (20 + s) t).toInt ≤ 9
def q_sp9 (σ : m_M) (s s' n : Nat) : Prop := q_btw σ s n 20 ∧ q_btw σ s' n 20 ∧ q_di9 σ s s' n
theorem q_di9_succ {σ : m_M} {s s' t : Nat} : q_di9 σ s s' (t + 1) ↔ (q_di9 σ s s' t ∧ 0 ≤ (σ.1 12 (20 + s') t - σ.1 12 (20 + s) t).toInt ∧ (σ.1 12 (20 + s') t - σ.1 12 (20 + s) t).toInt ≤ 9) := by
  constructor
  · intro h
    exact ⟨fun u hu => h u (by omega), h t (by omega)⟩
  · intro h u hu
    by_cases e : u = t
    · rw [e]; exact h.2
    · exact h.1 u (by omega)
section Span9
variable {E : m_E} {r : Nat} {σ : m_M} {Q : m_F → Prop}
theorem s_spl9 {s s' n : Nat} (hs : s < 8) (hs' : s' < 8) (hn : n ≤ 20) (hq : ∀ z : Bool, (z = true ↔ q_di9 σ s s' n) → Q (0, [], [vI (k_bit z)], σ)) : m_T E 65535 (r + 2) 19 (24, [some (vR 3 s), some (vR 3 s'), some (vI (nI n)), some (vI (nI 9)), none], [], σ) Q := by
  have key : ∀ k t, t + k = n → q_di9 σ s s' t → m_T E 65535 (r + 2) 19 (27, [some (vR 3 s), some (vR 3 s'), some (vI (nI n)), some (vI (nI 9)), some (vI (nI t))], [], σ) Q := by
    intro k
    induction k with
    | zero =>
      intro t ht hb
      obtain rfl : t = n := by omega
      refine m_T_un 40 (fun y pc => (Nat.beq y 19 && Nat.beq pc 27) || Nat.beq y 50 || Nat.beq y 2) ?_
      exact ⟨fun _ => ⟨Or.inr rfl, hq true ⟨fun _ => hb, fun _ => rfl⟩⟩, fun q => absurd (nI_le (Nat.le_refl t) (by omega)) q⟩
    | succ k ih =>
      intro t ht hb
      refine m_T_un 40 (fun y pc => (Nat.beq y 19 && Nat.beq pc 27) || Nat.beq y 50 || Nat.beq y 2) ?_
      refine ⟨fun q => absurd q (nI_ge (show t < n by omega) (by omega)), fun _ => ?_⟩
      refine s_at t rfl (by rw [m_lenR hs']; omega) ?_
      refine s_at t rfl (by rw [m_lenR hs]; omega) ?_
      by_cases g : 0 ≤ (σ.1 12 (20 + s') t - σ.1 12 (20 + s) t).toInt ∧ (σ.1 12 (20 + s') t - σ.1 12 (20 + s) t).toInt ≤ 9
      · have e := ih (t + 1) (by omega) (q_di9_succ.mpr ⟨hb, g⟩)
        rw [nI_succ t] at e
        exact s_outA0 0 9 k_0 (k_nI (n := 9) (by decide)) g.1 g.2 ⟨fun _ => e, fun q => absurd rfl q⟩
      · refine s_outA1 0 9 k_0 (k_nI (n := 9) (by decide)) (by omega) ⟨fun q => absurd q k_no1, fun _ => ⟨Or.inl rfl, hq false ⟨fun q => absurd q (by decide), fun q => ?_⟩⟩⟩
        exact absurd (q t (by omega)) g
  refine m_T_un 40 (fun y pc => Nat.beq y 19 && Nat.beq pc 27) ?_
  exact key n 0 (by omega) (fun t ht => absurd ht (by omega))
theorem s_spn9 {s s' n : Nat} (hs : s < 8) (hs' : s' < 8) (hn : n ≤ 20) (hq : ∀ z : Bool, (z = true ↔ q_sp9 σ s s' n) → Q (0, [], [vI (k_bit z)], σ)) : m_T E 65535 (r + 2) 19 (0, [some (vR 3 s), some (vR 3 s'), some (vI (nI n)), some (vI (nI 9)), none], [], σ) Q := by
  refine m_T_un 40 (fun y pc => (Nat.beq y 19 && Nat.beq pc 24) || Nat.beq y 55) ?_
  by_cases h1 : q_btw σ s n 20
  · refine s_btw1 (hi := 20) hs (by omega) (by decide) h1 ⟨fun q => absurd q k_no1, fun _ => ?_⟩
    by_cases h2 : q_btw σ s' n 20
    · refine s_btw1 (hi := 20) hs' (by omega) (by decide) h2 ⟨fun _ => ?_, fun q => absurd q k_no1⟩
      exact s_spl9 hs hs' hn (fun z hz => hq z (by rw [hz]; exact ⟨fun q => ⟨h1, h2, q⟩, fun q => q.2.2⟩))
    · exact s_btw0 (hi := 20) hs' (by omega) (by decide) h2 ⟨fun q => absurd rfl q, fun _ => ⟨Or.inl rfl, hq false ⟨fun q => absurd q (by decide), fun q => absurd q.2.1 h2⟩⟩⟩
  · exact s_btw0 (hi := 20) hs (by omega) (by decide) h1 ⟨fun _ => ⟨Or.inl rfl, hq false ⟨fun q => absurd q (by decide), fun q => absurd q.1 h1⟩⟩, fun q => absurd rfl q⟩
theorem s_msl9 {s s' n : Nat} (hs : s < 8) (hs' : s' < 8) (hn : n ≤ 20) (hr : q_row σ s) (hr' : q_row σ s') (P : Prop) : ∀ k t (z : Bool), t + k = n → (z = true ↔ (P ∧ q_di9 σ s s' t)) → (∀ z : Bool, (z = true ↔ (P ∧ q_di9 σ s s' n)) → Q (0, [], [vI (k_bit z)], σ)) → m_T E 65535 (r + 1) 133 (28, [some (vR 6 0), some (vI (nI s)), some (vI (nI s')), some (vI (nI n)), some (vI (nI 9)), some (vI (k_bit z)), some (vI (nI t))], [], σ) Q := by
  obtain ⟨_, -, -, -, -, f⟩ := hr
  obtain ⟨_, -, -, -, -, f'⟩ := hr'
  intro k
  induction k with
  | zero =>
    intro t z ht hz hq
    obtain rfl : t = n := by omega
    refine m_T_un 40 (fun y pc => (Nat.beq y 133 && Nat.beq pc 28) || Nat.beq y 87) ?_
    cases z with
    | true => exact ⟨fun _ => ⟨Or.inr rfl, hq true hz⟩, fun q => absurd (nI_le (Nat.le_refl t) (by omega)) q⟩
    | false => exact ⟨fun _ => ⟨Or.inl rfl, hq false hz⟩, fun q => absurd (nI_le (Nat.le_refl t) (by omega)) q⟩
  | succ k ih =>
    intro t z ht hz hq
    have hv : ∀ u, u < 8 → vp_in ((Int8.ofInt 40).toInt32 * nI u + nI t) 320 := fun u hu => by rw [k_40n]; exact k_in (by omega) (by decide)
    have hx : σ.1 13 2 ((Int8.ofInt 40).toInt32 * nI s + nI t).toNatClampNeg = σ.1 12 (20 + s) t := by rw [k_40n, k_cl (by omega)]; exact (f t (by omega)).symm
    have hx' : σ.1 13 2 ((Int8.ofInt 40).toInt32 * nI s' + nI t).toNatClampNeg = σ.1 12 (20 + s') t := by rw [k_40n, k_cl (by omega)]; exact (f' t (by omega)).symm
    refine m_T_un 40 (fun y pc => (Nat.beq y 133 && Nat.beq pc 28) || Nat.beq y 87) ?_
    cases z with
    | false =>
      refine ⟨fun q => absurd q (nI_ge (show t < n by omega) (by omega)), fun _ => ⟨fun _ => ⟨Or.inl rfl, hq false ⟨fun q => absurd q (by decide), fun q => ?_⟩⟩, fun q => absurd rfl q⟩⟩
      exact hz.mpr ⟨q.1, fun u hu => q.2 u (by omega)⟩
    | true =>
      refine ⟨fun q => absurd q (nI_ge (show t < n by omega) (by omega)), fun _ => ⟨fun q => absurd q (by decide), fun _ => ⟨hv s' hs', hv s hs, ?_⟩⟩⟩
      by_cases g : 0 ≤ (σ.1 12 (20 + s') t - σ.1 12 (20 + s) t).toInt ∧ (σ.1 12 (20 + s') t - σ.1 12 (20 + s) t).toInt ≤ 9
      · have e := ih (t + 1) true (by omega) (by rw [q_di9_succ]; exact ⟨fun _ => ⟨(hz.mp rfl).1, (hz.mp rfl).2, g⟩, fun _ => rfl⟩) hq
        rw [nI_succ t] at e
        exact s_inA1 0 9 k_L0 (by rw [Int32.toInt_toInt64]; exact k_nI (n := 9) (by decide)) (by rw [hx, hx']; exact g.1) (by rw [hx, hx']; exact g.2) e
      · have e := ih (t + 1) false (by omega) (by rw [q_di9_succ]; exact ⟨fun q => absurd q (by decide), fun q => absurd q.2.2 g⟩) hq
        rw [nI_succ t] at e
        exact s_inA0 0 9 k_L0 (by rw [Int32.toInt_toInt64]; exact k_nI (n := 9) (by decide)) (by rw [hx, hx']; omega) e
theorem s_msp9 {s s' n : Nat} (hs : s < 8) (hs' : s' < 8) (hn : n ≤ 20) (hr : q_row σ s) (hr' : q_row σ s') (hq : ∀ z : Bool, (z = true ↔ q_sp9 σ s s' n) → Q (0, [], [vI (k_bit z)], σ)) : m_T E 65535 (r + 2) 133 (0, [some (vR 6 0), some (vI (nI s)), some (vI (nI s')), some (vI (nI n)), some (vI (nI 9)), none, none], [], σ) Q := by
  refine m_T_un 40 (fun y pc => (Nat.beq y 133 && Nat.beq pc 28) || Nat.beq y 129) ?_
  have e0 : q_di9 σ s s' 0 := fun t ht => absurd ht (by omega)
  refine s_cmg hs (by omega) hr (fun z hz => ?_)
  cases z with
  | false =>
    refine ⟨fun _ => ?_, fun q => absurd rfl q⟩
    exact s_msl9 hs hs' hn hr hr' (q_btw σ s n 20 ∧ q_btw σ s' n 20) n 0 false (by omega) ⟨fun q => absurd q (by decide), fun q => hz.mpr q.1.1⟩ (fun z hz => hq z (by rw [hz]; exact ⟨fun q => ⟨q.1.1, q.1.2, q.2⟩, fun q => ⟨⟨q.1, q.2.1⟩, q.2.2⟩⟩))
  | true =>
    refine ⟨fun q => absurd q (by decide), fun _ => ?_⟩
    refine s_cmg hs' (by omega) hr' (fun z' hz' => ?_)
    cases z' with
    | false =>
      refine ⟨fun _ => ?_, fun q => absurd rfl q⟩
      exact s_msl9 hs hs' hn hr hr' (q_btw σ s n 20 ∧ q_btw σ s' n 20) n 0 false (by omega) ⟨fun q => absurd q (by decide), fun q => hz'.mpr q.1.2⟩ (fun z hz => hq z (by rw [hz]; exact ⟨fun q => ⟨q.1.1, q.1.2, q.2⟩, fun q => ⟨⟨q.1, q.2.1⟩, q.2.2⟩⟩))
    | true =>
      refine ⟨fun q => absurd q (by decide), fun _ => ?_⟩
      exact s_msl9 hs hs' hn hr hr' (q_btw σ s n 20 ∧ q_btw σ s' n 20) n 0 true (by omega) ⟨fun _ => ⟨⟨hz.mp rfl, hz'.mp rfl⟩, e0⟩, fun _ => rfl⟩ (fun z hz => hq z (by rw [hz]; exact ⟨fun q => ⟨q.1.1, q.1.2, q.2⟩, fun q => ⟨⟨q.1, q.2.1⟩, q.2.2⟩⟩))
theorem s_srz9 {s s' n : Nat} (hs : s < 8) (hs' : s' < 8) (hn : n ≤ 20) (hl : q_lack σ s (nI n) = 0) (hl' : q_lack σ s' (nI n) = 0) (hq : ∀ z : Bool, (z = true ↔ q_sp9 σ s s' n) → Q (0, [], [vI (cond z (Int32.ofInt 0) (m_nth m_kI 1 0))], σ)) : m_T E 65535 (r + 3) 18 (0, [some (vR 0 0), some (vR 3 s), some (vR 3 s'), some (vI (nI n)), some (vI (nI 9)), none], [], σ) Q :=
  s_sr hl hl' (fun _ k => s_spn9 hs hs' hn k) hq
end Span9
