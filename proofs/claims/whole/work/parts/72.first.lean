/-! day: who goes out first -/
def q_ft (U L : Nat → Nat) : Nat → Nat
  | 0 => 0
  | n + 1 => if U (L n) < U (L (q_ft U L n)) then n else q_ft U L n
def q_pp (i : Nat) (L : Nat → Nat) : Nat → Nat := fun t => if t < i then L t else L (t + 1)
def q_LL (U : Nat → Nat) : Nat → Nat → (Nat → Nat) → Nat → Nat
  | 0, _, L => L
  | g + 1, m, L => q_LL U g (m - 1) (q_pp (q_ft U L m) L)
def q_GG (U : Nat → Nat) : Nat → Nat → (Nat → Nat) → Nat → Bool
  | 0, _, _ => fun _ => false
  | g + 1, m, L => fun q => Nat.beq q (L (q_ft U L m)) || q_GG U g (m - 1) (q_pp (q_ft U L m) L) q
theorem q_ft_lt {U L : Nat → Nat} : ∀ n, 0 < n → q_ft U L n < n
  | 0, h => absurd h (by omega)
  | n + 1, _ => by
    unfold q_ft
    split
    · omega
    · by_cases h : 0 < n
      · have := q_ft_lt (U := U) (L := L) n h
        omega
      · obtain rfl : n = 0 := by omega
        exact Nat.zero_lt_succ 0
theorem q_ft_le {U L : Nat → Nat} : ∀ n t, t < n → U (L (q_ft U L n)) ≤ U (L t)
  | 0, t, h => absurd h (by omega)
  | n + 1, t, h => by
    unfold q_ft
    have ih := fun h => q_ft_le (U := U) (L := L) n t h
    split
    · next g =>
      by_cases e : t = n
      · rw [e]; exact Nat.le_refl _
      · have := ih (by omega)
        omega
    · next g =>
      by_cases e : t = n
      · rw [e]; omega
      · exact ih (by omega)
theorem q_ft_fst {U L : Nat → Nat} : ∀ n t, t < q_ft U L n → U (L (q_ft U L n)) < U (L t)
  | 0, t, h => absurd h (by unfold q_ft; omega)
  | n + 1, t, h => by
    unfold q_ft at h ⊢
    by_cases g : U (L n) < U (L (q_ft U L n))
    · rw [if_pos g] at h ⊢
      have := q_ft_le (U := U) (L := L) n t h
      omega
    · rw [if_neg g] at h ⊢
      exact q_ft_fst n t h
/-- the class's town alone -/
def q_cw (τ : m_M) (w N m : Nat) (L K R : Nat → Nat) : Prop := τ.1 5 0 1 = nI w ∧ w ≤ 2 ∧ τ.1 5 0 9 = nI m ∧ m ≤ N ∧ N ≤ 60 ∧ (∀ i, i < m → τ.1 12 4 i = nI (L i) ∧ L i < N) ∧ (∀ p, p < N → τ.1 12 0 p = nI (K p) ∧ 1 ≤ K p ∧ K p ≤ 5 ∧ τ.1 12 1 p = nI (R p) ∧ R p ≤ 9)
def q_tu (w : Nat) (K R : Nat → Nat) : Nat → Nat := fun p => q_tn w (K p) (R p)
section First
variable {E : m_E} {r : Nat} {σ : m_M} {Q : m_F → Prop} {w N m : Nat} {L K R : Nat → Nat}
theorem s_trnC (hc : q_cw σ w N m L K R) (p : Nat) (hp : p < N) {x : Int32} (hx : x = nI p) (hq : Q (0, [], [vI (q_tc w (K p) (R p))], σ)) : m_T E 65535 (r + 1) 73 (0, [some (vR 5 0), some (vI x)], [], σ) Q := by
  subst hx
  obtain ⟨h1, w2, hm, mN, N60, hl, hk⟩ := hc
  obtain ⟨x1, x2, x3, x4, x5⟩ := hk p hp
  refine m_T_un 60 (fun y _ => Nat.beq y 50 || Nat.beq y 74) ?_
  refine s_at p rfl (show p < 60 by omega) ?_
  refine s_at p rfl (show p < 60 by omega) ?_
  have go : ∀ Q : m_F → Prop, Q (0, [], [vI (q_tc w (K p) (R p))], σ) → m_T E 65535 r 74 (0, [some (vR 5 0), some (vI (σ.1 12 0 p)), some (vI (σ.1 12 1 p))], [], σ) Q := fun Q h => by
    rw [x1, x4]
    exact s_trn2 h1 w2 _ _ x2 x3 h
  exact go _ hq
theorem s_pof (hc : q_cw σ w N m L K R) (m1 : 1 ≤ m) (hq : Q (0, [], [vI (nI (q_ft (q_tu w K R) L m))], σ)) : m_T E 65535 (r + 2) 72 (0, [some (vR 5 0), none, none], [], σ) Q := by
  have w2 := hc.2.1
  have hm := hc.2.2.1
  have mN := hc.2.2.2.1
  have N60 := hc.2.2.2.2.1
  have hl := hc.2.2.2.2.2.1
  have hk := hc.2.2.2.2.2.2
  have key : ∀ k i, i + k = m → 1 ≤ i → m_T E 65535 (r + 2) 72 (4, [some (vR 5 0), some (vI (nI (q_ft (q_tu w K R) L i))), some (vI (nI i))], [], σ) Q := by
    intro k
    induction k with
    | zero =>
      intro i hi i1
      refine m_T_un 40 (fun y pc => (Nat.beq y 72 && Nat.beq pc 4) || Nat.beq y 50 || Nat.beq y 73) ?_
      refine ⟨fun _ => ?_, fun q => ?_⟩
      · obtain rfl : i = m := by omega
        exact hq
      · have q : ¬ σ.1 5 0 9 ≤ nI i := q
        rw [hm] at q
        exact absurd (nI_le (by omega) (by omega)) q
    | succ k ih =>
      intro i hi i1
      have f1 := q_ft_lt (U := q_tu w K R) (L := L) i i1
      have g1 := q_tcn (w := w) w2 (k := K (L i)) (hk (L i) (hl i (by omega)).2).2.2.2.2
      have g2 := q_tcn (w := w) w2 (k := K (L (q_ft (q_tu w K R) L i))) (hk (L (q_ft (q_tu w K R) L i)) (hl _ (by omega)).2).2.2.2.2
      refine m_T_un 40 (fun y pc => (Nat.beq y 72 && Nat.beq pc 4) || Nat.beq y 50 || Nat.beq y 73) ?_
      refine ⟨fun q => ?_, fun _ => ?_⟩
      · have q : σ.1 5 0 9 ≤ nI i := q
        rw [hm] at q
        exact absurd q (nI_ge (by omega) (by omega))
      refine s_at i rfl (show i < 60 by omega) ?_
      refine s_trnC hc (L i) (hl i (by omega)).2 (hl i (by omega)).1 ?_
      refine s_at (q_ft (q_tu w K R) L i) rfl (show q_ft (q_tu w K R) L i < 60 by omega) ?_
      refine s_trnC hc (L (q_ft (q_tu w K R) L i)) (hl _ (by omega)).2 (hl _ (by omega)).1 ?_
      have e := ih (i + 1) (by omega) (by omega)
      rw [nI_succ i] at e
      refine ⟨fun q => ?_, fun q => ?_⟩
      · have q : q_tc w (K (L (q_ft (q_tu w K R) L i))) (R (L (q_ft (q_tu w K R) L i))) ≤ q_tc w (K (L i)) (R (L i)) := q
        rw [k_le, g1, g2] at q
        rw [show q_ft (q_tu w K R) L (i + 1) = q_ft (q_tu w K R) L i from if_neg (show ¬ (q_tn w (K (L i)) (R (L i)) < q_tn w (K (L (q_ft (q_tu w K R) L i))) (R (L (q_ft (q_tu w K R) L i)))) by omega)] at e
        exact e
      · have q : ¬ q_tc w (K (L (q_ft (q_tu w K R) L i))) (R (L (q_ft (q_tu w K R) L i))) ≤ q_tc w (K (L i)) (R (L i)) := q
        rw [k_le, g1, g2] at q
        rw [show q_ft (q_tu w K R) L (i + 1) = i from if_pos (show q_tn w (K (L i)) (R (L i)) < q_tn w (K (L (q_ft (q_tu w K R) L i))) (R (L (q_ft (q_tu w K R) L i))) by omega)] at e
        exact e
  refine m_T_un 40 (fun y pc => Nat.beq y 72 && Nat.beq pc 4) ?_
  have e := key (m - 1) 1 (by omega) (by omega)
  rw [show q_ft (q_tu w K R) L 1 = 0 from if_neg (Nat.lt_irrefl _)] at e
  exact e
end First
