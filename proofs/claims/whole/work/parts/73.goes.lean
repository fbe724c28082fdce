/-! day: those who go out (class) -/
def d_C (τ : m_M) (U L : Nat → Nat) (m g : Nat) (x : Int32) (τ' : m_M) : Prop := τ'.1 5 0 9 = nI (m - g) ∧ (∀ i, i < m - g → τ'.1 12 4 i = nI (q_LL U g m L i)) ∧ (∀ q, τ'.1 12 3 q = if q_GG U g m L q = true then x else τ.1 12 3 q) ∧ (∀ j, ¬ j = 9 → τ'.1 5 0 j = τ.1 5 0 j) ∧ (∀ c v, ¬ (c = 5 ∧ v = 0) → ¬ (c = 12 ∧ (v = 3 ∨ v = 4)) → τ'.1 c v = τ.1 c v)
def d_1 (τ : m_M) (L : Nat → Nat) (m i : Nat) (x : Int32) : m_M := m_up (m_mv (m_up τ 12 3 (L i) x) 4 4 (i + 1) i (m - i - 1)) 5 0 9 (nI (m - 1))
theorem d_1l {τ : m_M} {L : Nat → Nat} {m i : Nat} {x : Int32} (hi : i < m) (hl : ∀ t, t < m → τ.1 12 4 t = nI (L t)) (t : Nat) (ht : t < m - 1) : (d_1 τ L m i x).1 12 4 t = nI (q_pp i L t) := by
  unfold d_1 q_pp
  rw [m_up_other (by omega)]
  simp only [m_mv]
  by_cases g : t < i
  · rw [if_neg (by omega), if_pos g, m_up_other (by omega)]
    exact hl t (by omega)
  · rw [if_pos ⟨trivial, trivial, by omega, by omega⟩, if_neg g, m_up_other (by omega), show i + 1 + (t - i) = t + 1 by omega]
    exact hl (t + 1) (by omega)
theorem d_13 {τ : m_M} {L : Nat → Nat} {m i : Nat} {x : Int32} (q : Nat) : (d_1 τ L m i x).1 12 3 q = if q = L i then x else τ.1 12 3 q := by
  unfold d_1
  rw [m_up_other (by omega), m_mv_other (by omega)]
  by_cases g : q = L i
  · rw [m_up_eq g, if_pos g]
  · rw [m_up_ne g, if_neg g]
theorem d_15 {τ : m_M} {L : Nat → Nat} {m i : Nat} {x : Int32} (j : Nat) (hj : ¬ j = 9) : (d_1 τ L m i x).1 5 0 j = τ.1 5 0 j := by
  unfold d_1
  rw [m_up_ne hj, m_mv_other (by omega), m_up_other (by omega)]
theorem d_1o {τ : m_M} {L : Nat → Nat} {m i : Nat} {x : Int32} (c v : Nat) (h1 : ¬ (c = 5 ∧ v = 0)) (h2 : ¬ (c = 12 ∧ (v = 3 ∨ v = 4))) : (d_1 τ L m i x).1 c v = τ.1 c v := by
  unfold d_1
  rw [m_up_other h1, m_mv_other (by omega), m_up_other (by omega)]
theorem d_1w {τ : m_M} {w N m i : Nat} {L K R : Nat → Nat} {x : Int32} (hi : i < m) (hc : q_cw τ w N m L K R) : q_cw (d_1 τ L m i x) w N (m - 1) (q_pp i L) K R := by
  obtain ⟨h1, w2, hm, mN, N60, hl, hk⟩ := hc
  refine ⟨(d_15 1 (by omega)).trans h1, w2, m_up_eq rfl, by omega, N60, fun t ht => ⟨d_1l hi (fun t ht => (hl t ht).1) t ht, ?_⟩, fun p hp => ?_⟩
  · show (if t < i then L t else L (t + 1)) < N
    by_cases g : t < i
    · rw [if_pos g]; exact (hl t (by omega)).2
    · rw [if_neg g]; exact (hl (t + 1) (by omega)).2
  · rw [d_1o 12 0 (by omega) (by omega), d_1o 12 1 (by omega) (by omega)]
    exact hk p hp
theorem d_Cs {τ τ' : m_M} {L U : Nat → Nat} {m g : Nat} {x : Int32} (h : d_C (d_1 τ L m (q_ft U L m) x) U (q_pp (q_ft U L m) L) (m - 1) g x τ') : d_C τ U L m (g + 1) x τ' := by
  obtain ⟨a1, a2, a3, a4, a5⟩ := h
  refine ⟨by rw [a1]; exact congrArg nI (by omega), fun i hi => a2 i (by omega), fun q => ?_, fun j hj => (a4 j hj).trans (d_15 j hj), fun c v h1 h2 => (a5 c v h1 h2).trans (d_1o c v h1 h2)⟩
  rw [a3 q, d_13]
  show (if q_GG U g (m - 1) (q_pp (q_ft U L m) L) q = true then x else if q = L (q_ft U L m) then x else τ.1 12 3 q) = if (Nat.beq q (L (q_ft U L m)) || q_GG U g (m - 1) (q_pp (q_ft U L m) L) q) = true then x else τ.1 12 3 q
  by_cases e : q = L (q_ft U L m)
  · rw [if_pos e, ite_self, show Nat.beq q (L (q_ft U L m)) = true from Nat.beq_eq.mpr e, Bool.true_or, if_pos rfl]
  · rw [if_neg e, show Nat.beq q (L (q_ft U L m)) = false from Bool.eq_false_iff.mpr (fun h => e (Nat.eq_of_beq_eq_true h)), Bool.false_or]
section Goes
variable {E : m_E} {r : Nat} {Q : m_F → Prop} {w N : Nat} {K R : Nat → Nat} {a b : m_V} {x : Int32}
theorem s_cgo {G : Nat} (hG : G ≤ 60) : ∀ (g k m : Nat) (L : Nat → Nat) (τ : m_M), k + g = G → g ≤ m → q_cw τ w N m L K R → τ.1 5 0 5 = x → (∀ τ', d_C τ (q_tu w K R) L m g x τ' → m_T E 65535 (r + 3) 71 (49, [some (vR 5 0), some a, some b, some (vI (nI G)), some (vI (nI G))], [], τ') Q) → m_T E 65535 (r + 3) 71 (25, [some (vR 5 0), some a, some b, some (vI (nI G)), some (vI (nI k))], [], τ) Q := by
  intro g
  induction g with
  | zero =>
    intro k m L τ hk hg hc hx hq
    obtain rfl : k = G := by omega
    refine m_T_un 40 (fun y pc => (Nat.beq y 71 && (Nat.beq pc 25 || Nat.beq pc 49)) || Nat.beq y 72 || Nat.beq y 75) ?_
    refine ⟨fun _ => hq τ ⟨hc.2.2.1, fun i hi => (hc.2.2.2.2.2.1 i hi).1, fun q => (if_neg Bool.false_ne_true).symm, fun _ _ => rfl, fun _ _ _ _ => rfl⟩, fun q => absurd (nI_le (Nat.le_refl k) (by omega)) q⟩
  | succ g ih =>
    intro k m L τ hk hg hc hx hq
    have f1 := q_ft_lt (U := q_tu w K R) (L := L) m (by omega)
    have hl := hc.2.2.2.2.2.1
    have mN := hc.2.2.2.1
    have N60 := hc.2.2.2.2.1
    refine m_T_un 40 (fun y pc => (Nat.beq y 71 && (Nat.beq pc 25 || Nat.beq pc 49)) || Nat.beq y 72 || Nat.beq y 75) ?_
    refine ⟨fun q => absurd q (nI_ge (by omega) (by omega)), fun _ => ?_⟩
    refine s_pof hc (by omega) ?_
    refine s_lv (m := m) (p := L (q_ft (q_tu w K R) L m)) hc.2.2.1 (by omega) f1 (hl _ f1).1 (by have := (hl _ f1).2; omega) ?_
    have e := ih (k + 1) (m - 1) (q_pp (q_ft (q_tu w K R) L m) L) (d_1 τ L m (q_ft (q_tu w K R) L m) x) (by omega) (by omega) (d_1w f1 hc) ((d_15 5 (by omega)).trans hx) (fun τ' h => hq τ' (d_Cs h))
    rw [nI_succ] at e
    unfold d_1 at e
    rw [← hx] at e
    exact e
end Goes
