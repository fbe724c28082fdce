/-! the text: the model's town, whole -/
theorem t_st_b {B : Nat → Nat} {n : Nat} {A : t_A} (h : ∀ p, p < A.2.1 → 1 ≤ A.2.2.1 p ∧ A.2.2.1 p ≤ 5 ∧ A.2.2.2.1 p ≤ 9 ∧ A.2.2.2.2 p ≤ 99) : ∀ p, p < (t_st B n A).2.1 → 1 ≤ (t_st B n A).2.2.1 p ∧ (t_st B n A).2.2.1 p ≤ 5 ∧ (t_st B n A).2.2.2.1 p ≤ 9 ∧ (t_st B n A).2.2.2.2 p ≤ 99 := by
  unfold t_st
  by_cases g : t_sw B A.1 4 = true ∧ 24 ≤ A.2.1
  · rw [if_pos g]
    exact h
  · rw [if_neg g]
    by_cases g2 : (t_p5 B n A.1).2.2.2 = 0
    · rw [if_pos g2]
      obtain ⟨-, -, k1, r1, h1, -⟩ := t_p_0 g2
      have k5 := t_kd_le (B := B) (t_p1 B n A.1)
      intro p hp
      have hp : p < A.2.1 + 1 := hp
      show 1 ≤ (if p = A.2.1 then t_kd B (t_p1 B n A.1) else A.2.2.1 p) ∧ (if p = A.2.1 then t_kd B (t_p1 B n A.1) else A.2.2.1 p) ≤ 5 ∧ (if p = A.2.1 then t_vl B (t_p2 B n A.1) else A.2.2.2.1 p) ≤ 9 ∧ (if p = A.2.1 then t_vl B (t_p3 B n A.1) else A.2.2.2.2 p) ≤ 99
      by_cases g3 : p = A.2.1
      · rw [if_pos g3, if_pos g3, if_pos g3]
        exact ⟨k1, k5, r1, h1⟩
      · rw [if_neg g3, if_neg g3, if_neg g3]
        exact h p (by omega)
    · rw [if_neg g2]
      exact h
theorem t_lp_b {B : Nat → Nat} {n : Nat} : ∀ k A, (∀ p, p < A.2.1 → 1 ≤ A.2.2.1 p ∧ A.2.2.1 p ≤ 5 ∧ A.2.2.2.1 p ≤ 9 ∧ A.2.2.2.2 p ≤ 99) → ∀ p, p < (t_lp B n k A).2.1 → 1 ≤ (t_lp B n k A).2.2.1 p ∧ (t_lp B n k A).2.2.1 p ≤ 5 ∧ (t_lp B n k A).2.2.2.1 p ≤ 9 ∧ (t_lp B n k A).2.2.2.2 p ≤ 99
  | 0, A, h => h
  | k + 1, A, h => by
    unfold t_lp
    by_cases g : A.1.2.2.2 = 0 ∧ ¬ A.1.2.2.1 = 0
    · rw [if_pos g]
      exact t_lp_b k _ (t_st_b h)
    · rw [if_neg g]
      exact h
theorem t_lp_0 {B : Nat → Nat} {n : Nat} : ∀ k A, (t_lp B n k A).1.2.2.2 = 0 → A.1.2.2.2 = 0
  | 0, A, h => h
  | k + 1, A, h => by
    unfold t_lp at h
    by_cases g : A.1.2.2.2 = 0 ∧ ¬ A.1.2.2.1 = 0
    · exact g.1
    · rw [if_neg g] at h
      exact h
/-- what the model leaves as it was -/
def y_O (τ ρ : m_M) : Prop := (∀ j, (1 ≤ j ∧ j < 7) ∨ j = 8 ∨ 17 < j → ρ.1 6 0 j = τ.1 6 0 j) ∧ ρ.1 6 0 9 = 0
def y_G (ρ : m_M) (B : Nat → Nat) (n : Nat) (A : t_A) : Prop := (ρ.1 13 3 0 = nI (t_lw B (t_h2 B n)) ∧ ρ.1 13 3 1 = nI (t_vl B (t_h3 B n)) ∧ ρ.1 13 3 2 = nI (t_vl B (t_h4 B n)) ∧ ρ.1 13 3 3 = nI (t_vl B (t_h5 B n)) ∧ ρ.1 13 3 4 = 0 ∧ ρ.1 13 3 5 = 0 ∧ ρ.1 13 3 6 = 0) ∧ ρ.1 13 3 7 = nI A.2.1 ∧ ρ.1 13 3 8 = nI A.2.1 ∧ ∀ p, p < A.2.1 → ρ.1 13 3 (69 + 4 * p) = nI (A.2.2.1 p) ∧ ρ.1 13 3 (70 + 4 * p) = nI (A.2.2.2.1 p) ∧ ρ.1 13 3 (71 + 4 * p) = nI (A.2.2.2.2 p) ∧ ρ.1 13 3 (72 + 4 * p) = -1000000 ∧ ρ.1 13 3 (9 + p) = nI p
section MTown
variable {E : m_E} {r : Nat} {τ : m_M} {Q : m_F → Prop} {B : Nat → Nat} {n : Nat}
def k_mt : Nat → Nat → Bool := fun y pc => (Nat.beq pc 0 && (Nat.beq y 95 || Nat.beq y 99)) || (Nat.beq y 93 && (Nat.beq pc 11 || Nat.beq pc 31 || Nat.beq pc 35 || Nat.beq pc 73 || Nat.beq pc 103 || Nat.beq pc 128))
theorem s_mtw {k : Nat} {A : t_A} {S7 : t_S} (hk : k = 25) (h7 : S7 = t_h7 B n) (hA : t_lp B n k (S7, 0, fun _ => 0, fun _ => 0, fun _ => 0) = A) (hn : n ≤ 500) (h9 : τ.1 6 0 9 = nI n) (hB : ∀ j, j < n → τ.1 13 5 j = nI (B j) ∧ B j < 256)
    (hq1 : ¬ A.1.2.2.2 = 0 → ∀ ρ, y_O τ ρ → ρ.1 6 0 10 = nI A.1.2.2.2 → ρ.1 6 0 7 = τ.1 6 0 7 → (∀ c v, ¬ (c = 6 ∧ v = 0) → ¬ (c = 13 ∧ v = 4) → ρ.1 c v = τ.1 c v) → Q (0, [], [vI (m_nth m_kI 5 0 - nI A.1.1)], ρ))
    (hq0 : A.1.2.2.2 = 0 → ∀ ρ, y_O τ ρ → ρ.1 6 0 10 = τ.1 6 0 10 → ρ.1 6 0 7 = 1 → y_G ρ B n A → (∀ c v, ¬ (c = 6 ∧ v = 0) → ¬ (c = 13 ∧ (v = 3 ∨ v = 4)) → ρ.1 c v = τ.1 c v) → Q (0, [], [vI (nI A.2.1)], ρ)) : m_T E 65535 (r + 6) 93 (0, [some (vR 6 0), none], [], τ) Q := by
  have o7 : t_ok B n S7 := by rw [h7]; exact t_h7_ok
  obtain ⟨oA, NA⟩ := t_all_ok o7 hA
  obtain ⟨t0, ht0⟩ := k_any (τ.1 6 0 13)
  obtain ⟨f0, hf0⟩ := k_any (τ.1 6 0 14)
  obtain ⟨l0, hl0⟩ := k_any (τ.1 6 0 15)
  have go : ∀ X : m_M, X.1 6 0 11 = nI n → X.1 6 0 12 = nI 0 → X.1 6 0 13 = nI t0 → X.1 6 0 14 = nI f0 → X.1 6 0 15 = nI l0 → X.1 6 0 16 = nI 0 → X.1 6 0 9 = 0 → (∀ j, (1 ≤ j ∧ j < 9) ∨ j = 10 ∨ 17 < j → X.1 6 0 j = τ.1 6 0 j) → (∀ c v, ¬ (c = 6 ∧ v = 0) → X.1 c v = τ.1 c v) → ∀ Q' : m_F → Prop, (∀ τ1, p_M X τ1 n (t_h1 B n) → Q' (0, [], [], τ1)) → m_T E 65535 (r + 4) 95 (0, [some (vR 6 0), none], [], X) Q' := fun X a1 a2 a3 a4 a5 a6 a7 a8 a9 Q' hq' => by
    refine s_mnx0 (μ := X) (B := B) (n := n) (e := 0) (tk := t0) (f0 := f0) (tl := l0) (ft := 0) (fa := X.1 6 0 17) hn (fun j hj => by rw [a9 13 5 (by omega)]; exact hB j hj) (Nat.zero_le n) ⟨⟨a1, a2, a3, a4, a5, a6, rfl⟩, fun _ _ => rfl, fun _ _ _ => rfl⟩ (fun τ1 N1 => hq' τ1 ⟨_, N1, fun g => absurd rfl g⟩)
  have after : ∀ X τ1 : m_M, X.1 6 0 9 = 0 → (∀ j, (1 ≤ j ∧ j < 9) ∨ j = 10 ∨ 17 < j → X.1 6 0 j = τ.1 6 0 j) → (∀ c v, ¬ (c = 6 ∧ v = 0) → X.1 c v = τ.1 c v) → p_M X τ1 n (t_h1 B n) → m_T E 65535 (r + 6) 93 (11, [some (vR 6 0), some (vI (nI 0))], [], τ1) Q := fun X τ1 a7 a8 a9 C1 => by
    refine s_mcl (fun τ2 z1 z2 => ?_)
    have H2 : y_H X τ2 n (t_h1 B n) (fun _ => 0) := by
      obtain ⟨fa, ⟨c1, c2, c3⟩, c4⟩ := C1
      refine ⟨⟨fa, ⟨by rw [z2 6 0 (by omega)]; exact c1, fun _ _ => rfl, fun _ _ _ => rfl⟩, c4⟩, z1, fun j g => by rw [z2 6 0 (by omega)]; exact c2 j g, fun c v g1 g2 => (z2 c v g2).trans (c3 c v g1)⟩
    refine m_T_un 20 k_mt ?_
    refine s_mrt hn (fun j hj => by rw [a9 13 5 (by omega)]; exact hB j hj) H2 (fun τ3 a b c d H3 hv => ?_)
    have L3 : y_L τ3 τ3 n (S7, 0, fun _ => 0, fun _ => 0, fun _ => 0) := by
      obtain ⟨⟨fa, ⟨c1, -⟩, c4⟩, f, -⟩ := H3
      rw [← h7] at c1 c4
      exact ⟨⟨fa, c1, c4⟩, ⟨f 7 (by omega), f 8 (by omega), fun p hp => absurd hp (Nat.not_lt_zero p)⟩, fun _ _ => rfl, fun _ _ => rfl, fun _ _ _ _ => rfl⟩
    obtain ⟨-, f3, g3, h3⟩ := H3
    refine s_mtl (μ := τ3) (B := B) (n := n) hn (fun j hj => by rw [h3 13 5 (by omega) (by omega), a9 13 5 (by omega)]; exact hB j hj) A (fun τ4 L4 => ?_) k (S7, 0, fun _ => 0, fun _ => 0, fun _ => 0) τ3 (fun _ => by show 0 + k = 25; omega) hA o7 (Nat.zero_le 24) L3
    obtain ⟨⟨fa, ⟨b1, b2, b3, b4, b5, b6, b7⟩, b8⟩, ⟨d1, d2, d3⟩, e1, e2, e3⟩ := L4
    have s4 := oA.2.2.2.1
    have six : ∀ j, (1 ≤ j ∧ j < 9) ∨ j = 10 ∨ 17 < j → τ4.1 6 0 j = τ.1 6 0 j := fun j hj => by
      rw [e2 j (by omega), g3 j (by omega), a8 j hj]
    have six9 : τ4.1 6 0 9 = 0 := by rw [e2 9 (by omega), g3 9 (by omega), a7]
    have oth : ∀ c v, ¬ (c = 6 ∧ v = 0) → ¬ (c = 13 ∧ v = 4) → τ4.1 c v = τ.1 c v := fun c v u1 u2 => by
      rw [e3 c v u1 u2, h3 c v u1 u2, a9 c v u1]
    refine m_T_un 40 k_mt ?_
    refine ⟨fun q => ⟨Or.inr rfl, ?_⟩, fun q => ?_⟩
    · have q : τ4.1 6 0 16 ≤ 0 := q
      have g : A.1.2.2.2 = 0 := by
        rw [b6] at q
        exact Nat.eq_zero_of_not_pos fun h => nI_nle h (by omega) q
      have g7 : S7.2.2.2 = 0 := by
        have e := t_lp_0 (B := B) (n := n) k (S7, 0, fun _ => 0, fun _ => 0, fun _ => 0) (by rw [hA]; exact g)
        exact e
      obtain ⟨v1, v2, v3, v4⟩ := hv (by rw [← h7]; exact g7)
      refine s_mcf (fun τ5 y1 y2 => ?_)
      have i7 : vp_in ((Int8.ofInt 7).toInt32) 309 := k_in (k := 7) (n := 309) (by decide) (by decide)
      refine m_T_un 20 k_mt ⟨i7, ?_⟩
      have y1 : ∀ j, j < 309 → τ5.1 13 3 j = τ4.1 13 4 j := fun j hj => by rw [y1 j hj, m_up_other (by omega)]
      have n7 : τ5.1 13 3 7 = nI A.2.1 := (y1 7 (by omega)).trans d1
      have hd : ∀ j, j < 7 → τ5.1 13 3 j = z_F (fun _ => 0) a b c d j := fun j hj => by rw [y1 j (by omega), e1 j hj, f3 j (by omega)]
      have fin : Q (0, [], [vI (τ5.1 13 3 7)], τ5) := by
        rw [n7]
        refine hq0 g τ5 ⟨fun j hj => ?_, ?_⟩ ?_ ?_ ⟨⟨?_, ?_, ?_, ?_, hd 4 (by omega), hd 5 (by omega), hd 6 (by omega)⟩, n7, (y1 8 (by omega)).trans d2, fun p hp => ?_⟩ (fun c v u1 u2 => ?_)
        · rw [y2 6 0 (by omega), m_up_ne (by omega)]
          exact six j (by omega)
        · rw [y2 6 0 (by omega), m_up_ne (by omega)]
          exact six9
        · rw [y2 6 0 (by omega), m_up_ne (by omega)]
          exact six 10 (by omega)
        · rw [y2 6 0 (by omega), m_up_eq rfl]
          rfl
        · exact (hd 0 (by omega)).trans v1
        · exact (hd 1 (by omega)).trans v2
        · exact (hd 2 (by omega)).trans v3
        · exact (hd 3 (by omega)).trans v4
        · rw [y1 _ (by omega), y1 _ (by omega), y1 _ (by omega), y1 _ (by omega), y1 _ (by omega)]
          exact d3 p hp
        · rw [y2 c v (by omega), m_up_other (by omega), oth c v u1 (by omega)]
      exact fin
    · have q : ¬ τ4.1 6 0 16 ≤ 0 := q
      have g : ¬ A.1.2.2.2 = 0 := fun h => by
        rw [b6, h] at q
        exact absurd (by decide) q
      have fin : ∀ (x y : Int32), x = nI A.1.2.2.2 → y = nI A.1.1 → Q (0, [], [vI (m_nth m_kI 5 0 - y)], m_up τ4 6 0 10 x) := fun x y hx hy => by
        subst hx
        subst hy
        refine hq1 g _ ⟨fun j hj => ?_, ?_⟩ (m_up_eq rfl) ?_ (fun c v u1 u2 => ?_)
        · rw [m_up_ne (by omega)]
          exact six j (by omega)
        · rw [m_up_ne (by omega)]
          exact six9
        · rw [m_up_ne (by omega)]
          exact six 7 (by omega)
        · rw [m_up_other u1]
          exact oth c v u1 u2
      exact fin _ _ b6 (b7.trans (b8 g))
  refine m_T_un 60 k_mt ?_
  refine go _ ?_ ?_ ?_ ?_ ?_ ?_ ?_ (fun j hj => ?_) (fun c v h => ?_) _ (fun τ1 C1 => ?_)
  · rw [m_up_ne (by omega), m_up_ne (by omega), m_up_ne (by omega), m_up_eq rfl]
    exact h9
  · rw [m_up_ne (by omega), m_up_eq rfl]
    rfl
  · rw [m_up_ne (by omega), m_up_ne (by omega), m_up_ne (by omega), m_up_ne (by omega), m_up_ne (by omega)]
    exact ht0
  · rw [m_up_ne (by omega), m_up_ne (by omega), m_up_ne (by omega), m_up_ne (by omega), m_up_ne (by omega)]
    exact hf0
  · rw [m_up_ne (by omega), m_up_ne (by omega), m_up_ne (by omega), m_up_ne (by omega), m_up_ne (by omega)]
    exact hl0
  · rw [m_up_eq rfl]
    rfl
  · rw [m_up_ne (by omega), m_up_ne (by omega), m_up_eq rfl]
    rfl
  · rw [m_up_ne (by omega), m_up_ne (by omega), m_up_ne (by omega), m_up_ne (by omega), m_up_ne (by omega)]
  · rw [m_up_other h, m_up_other h, m_up_other h, m_up_other h, m_up_other h]
  · refine after _ τ1 ?_ (fun j hj => ?_) (fun c v h => ?_) C1
    · rw [m_up_ne (by omega), m_up_ne (by omega), m_up_eq rfl]
      rfl
    · rw [m_up_ne (by omega), m_up_ne (by omega), m_up_ne (by omega), m_up_ne (by omega), m_up_ne (by omega)]
    · rw [m_up_other h, m_up_other h, m_up_other h, m_up_other h, m_up_other h]
end MTown
