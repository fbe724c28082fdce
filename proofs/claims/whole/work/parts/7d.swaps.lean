/-! swaps: counts -/
def q_w1 (G : Nat → Int32) : Nat → Nat → Int32 → Int32
  | 0, _, c => c
  | k + 1, j, c => q_w1 G k (j + 1) (c + G j)
def q_w2 (G : Nat → Nat → Int32) (m : Nat) : Nat → Nat → Int32 → Int32
  | 0, _, c => c
  | k + 1, i, c => q_w2 G m k (i + 1) (q_w1 (G i) (m - (i + 1)) (i + 1) c)
def q_Gn (h : Nat → Nat) (i j : Nat) : Int32 := if h i < h j then nI 1 else nI 0
def q_Gp (h : Nat → Nat) (i j : Nat) : Int32 := nI (h j - h i)
def q_pb (h : Nat → Nat) (i : Nat) : Nat → Nat
  | 0 => 0
  | t + 1 => if h i < h t ∨ (h t = h i ∧ t < i) then q_pb h i t + 1 else q_pb h i t
def q_lo (h : Nat → Nat) (p : Nat) : Nat → Nat
  | 0 => 0
  | t + 1 => if h t < h p then q_lo h p t + 1 else q_lo h p t
def q_hi (h : Nat → Nat) (p : Nat) : Nat → Nat
  | 0 => 0
  | t + 1 => if p < t ∧ h p < h t then q_hi h p t + 1 else q_hi h p t
theorem q_lo_le {h : Nat → Nat} {p : Nat} : ∀ t, q_lo h p t ≤ t
  | 0 => Nat.le_refl 0
  | t + 1 => by
    have := q_lo_le (h := h) (p := p) t
    unfold q_lo
    split <;> omega
theorem q_hi_le {h : Nat → Nat} {p : Nat} : ∀ t, q_hi h p t ≤ t
  | 0 => Nat.le_refl 0
  | t + 1 => by
    have := q_hi_le (h := h) (p := p) t
    unfold q_hi
    split <;> omega
theorem q_hi_0 {h : Nat → Nat} {p : Nat} : ∀ t, t ≤ p + 1 → q_hi h p t = 0
  | 0, _ => rfl
  | t + 1, g => by
    unfold q_hi
    rw [if_neg (by omega)]
    exact q_hi_0 t (by omega)
theorem q_pb_le {h : Nat → Nat} {p : Nat} : ∀ t, q_pb h p t ≤ t
  | 0 => Nat.le_refl 0
  | t + 1 => by
    have := q_pb_le (h := h) (p := p) t
    unfold q_pb
    split <;> omega
theorem q_pb1 {h : Nat → Nat} {p : Nat} : ∀ t, t ≤ p → q_pb h p t + q_lo h p t = t
  | 0, _ => rfl
  | t + 1, g => by
    have ih := q_pb1 (h := h) (p := p) t (by omega)
    unfold q_pb q_lo
    by_cases e : h t < h p
    · rw [if_neg (by omega), if_pos e]
      omega
    · rw [if_pos (by omega), if_neg e]
      omega
theorem q_pb2 {h : Nat → Nat} {p : Nat} : ∀ t, p ≤ t → q_pb h p t = p - q_lo h p p + q_hi h p t
  | 0, g => by
    obtain rfl : p = 0 := by omega
    rfl
  | t + 1, g => by
    by_cases e : p = t + 1
    · have h1 := q_pb1 (h := h) (p := p) p (Nat.le_refl p)
      rw [q_hi_0 (t + 1) (by omega), ← e]
      omega
    · have ih := q_pb2 (h := h) (p := p) t (by omega)
      unfold q_pb
      rw [show q_hi h p (t + 1) = (if p < t ∧ h p < h t then q_hi h p t + 1 else q_hi h p t) from rfl]
      by_cases e2 : p = t
      · subst e2
        rw [if_neg (by omega), if_neg (by omega)]
        exact ih
      · by_cases e3 : h p < h t
        · rw [if_pos (Or.inl e3), if_pos ⟨by omega, e3⟩]
          omega
        · rw [if_neg (by omega), if_neg (by omega)]
          exact ih
def q_y (h : Nat → Nat) (p m i j : Nat) : Nat := if i < p then (if p < j ∧ h i < h p then p - q_lo h p i - 1 else p - q_lo h p i) else if i = p then p - q_lo h p p + q_hi h p j else p - q_lo h p p + q_hi h p m
theorem q_y0 {h : Nat → Nat} {p m : Nat} : q_y h p m 0 1 = p := by
  unfold q_y
  by_cases g : 0 < p
  · rw [if_pos g, if_neg (by omega)]
    rfl
  · obtain rfl : p = 0 := by omega
    rw [if_neg g, if_pos rfl, q_hi_0 1 (by omega)]
    rfl
theorem q_yo {h : Nat → Nat} {p m i : Nat} (hp : p < m) : q_y h p m (i + 1) (i + 1 + 1) = q_y h p m i m := by
  unfold q_y
  by_cases g : i < p
  · rw [if_pos g]
    have e : (if p < m ∧ h i < h p then p - q_lo h p i - 1 else p - q_lo h p i) = p - q_lo h p (i + 1) := by
      rw [show q_lo h p (i + 1) = (if h i < h p then q_lo h p i + 1 else q_lo h p i) from rfl]
      by_cases g2 : h i < h p
      · rw [if_pos ⟨hp, g2⟩, if_pos g2]
        omega
      · rw [if_neg (by omega), if_neg g2]
    rw [e]
    by_cases g3 : i + 1 < p
    · rw [if_pos g3, if_neg (by omega)]
    · obtain rfl : i + 1 = p := by omega
      rw [if_neg g3, if_pos rfl, q_hi_0 (i + 1 + 1) (by omega), Nat.add_zero]
  · rw [if_neg g, if_neg (by omega), if_neg (by omega)]
    by_cases g2 : i = p
    · rw [if_pos g2]
    · rw [if_neg g2]
theorem q_yle {h : Nat → Nat} {p m i j : Nat} (hp : p < m) (hj : j ≤ m) : q_y h p m i j ≤ 2 * m := by
  have h1 := q_hi_le (h := h) (p := p) j
  have h2 := q_hi_le (h := h) (p := p) m
  unfold q_y
  split
  · split <;> omega
  · split <;> omega
/-- the model's step: what is added -/
def q_ya (h : Nat → Nat) (p i j : Nat) : Int32 := if h i < h j then (if i = p then Int32.ofInt 1 else if j = p then Int32.ofInt (-1) else Int32.ofInt 0) else Int32.ofInt 0
theorem q_ys {h : Nat → Nat} {p m i j : Nat} (hij : i < j) : nI (q_y h p m i j) + q_ya h p i j = nI (q_y h p m i (j + 1)) := by
  have z0 : ∀ y : Nat, nI y + Int32.ofInt 0 = nI y := fun y => by rw [show Int32.ofInt 0 = nI 0 from rfl, nI_add, Nat.add_zero]
  have lo := q_lo_le (h := h) (p := p) i
  unfold q_ya q_y
  by_cases g : i < p
  · rw [if_pos g, if_pos g]
    by_cases e : j = p
    · subst e
      by_cases g2 : h i < h j
      · rw [if_pos g2, if_neg (by omega), if_pos rfl, if_neg (by omega), if_pos ⟨by omega, g2⟩]
        obtain ⟨y, hy⟩ : ∃ y, j - q_lo h j i = y + 1 := ⟨j - q_lo h j i - 1, by omega⟩
        rw [hy, k_pred]
        rfl
      · rw [if_neg g2, if_neg (by omega), if_neg (by omega), z0]
    · have ev : (if h i < h j then (if i = p then Int32.ofInt 1 else if j = p then Int32.ofInt (-1) else Int32.ofInt 0) else Int32.ofInt 0) = Int32.ofInt 0 := by
        rw [if_neg (show ¬ i = p by omega), if_neg e, ite_self]
      rw [ev, z0]
      by_cases g2 : p < j
      · by_cases g3 : h i < h p
        · rw [if_pos ⟨g2, g3⟩, if_pos ⟨by omega, g3⟩]
        · rw [if_neg (by omega), if_neg (by omega)]
      · rw [if_neg (by omega), if_neg (by omega)]
  · rw [if_neg g, if_neg g]
    by_cases e : i = p
    · subst e
      rw [if_pos rfl, if_pos rfl, if_pos rfl, show q_hi h i (j + 1) = (if i < j ∧ h i < h j then q_hi h i j + 1 else q_hi h i j) from rfl]
      by_cases g2 : h i < h j
      · rw [if_pos g2, if_pos ⟨hij, g2⟩, show Int32.ofInt 1 = nI 1 from rfl, nI_add]
        rfl
      · rw [if_neg g2, if_neg (by omega), z0]
    · rw [if_neg e, if_neg e, if_neg e]
      have ev : (if h i < h j then (if j = p then Int32.ofInt (-1) else Int32.ofInt 0) else Int32.ofInt 0) = Int32.ofInt 0 := by
        rw [if_neg (show ¬ j = p by omega), ite_self]
      rw [ev, z0]
/-! swaps: the class -/
section Swaps
variable {E : m_E} {r : Nat} {σ : m_M} {Q : m_F → Prop} {D N m w a d : Nat} {L K R H : Nat → Nat}
def q_G (z : Int32) (h : Nat → Nat) : Nat → Nat → Int32 := if z = 0 then q_Gn h else q_Gp h
theorem q_hs (hT : q_T σ D N m w a d L K R H) (t : Nat) (ht : t < m) : σ.1 12 4 t = nI (L t) ∧ L t < 60 ∧ σ.1 12 2 (L t) = nI (H (L t)) ∧ H (L t) ≤ 99 := by
  obtain ⟨⟨w0, w1, w2, w3, w4, w5, w6, w7, w8, w9, wa, wb, wc⟩, c1, c2, c3⟩ := hT
  have h1 := wa t ht
  have h2 := wc (L t) h1.2
  have h3 := c3 (L t) h1.2
  exact ⟨(c2 t ht).trans h1.1, by omega, h3.2.2.1.trans h2.2.2.2.2.2.1, h2.2.2.2.2.2.2.1⟩
theorem s_cs1 {z : Int32} (hT : q_T σ D N m w a d L K R H) (i : Nat) (hi : i < m) : ∀ k j c, j + k = m → m_T E 65535 (r + 2) 82 (84, [some (vR 5 0), some (vI z), some (vI (q_w1 (q_G z (fun t => H (L t)) i) k j c)), some (vI (nI i)), none, none], [], σ) Q → m_T E 65535 (r + 2) 82 (17, [some (vR 5 0), some (vI z), some (vI c), some (vI (nI i)), some (vI (nI j)), none], [], σ) Q := by
  have m60 : m ≤ 60 := Nat.le_trans hT.1.2.2.2.2.2.2.2.2.2.1 hT.1.2.2.2.2.2.2.2.1
  have hm : σ.1 5 0 9 = nI m := (hT.2.1 8 (by omega)).trans hT.1.2.2.2.2.2.2.2.2.1
  intro k
  induction k with
  | zero =>
    intro j c hj hq
    refine m_T_un 60 (fun y pc => (Nat.beq y 82 && (Nat.beq pc 17 || Nat.beq pc 84)) || Nat.beq y 50) ?_
    refine ⟨fun _ => ?_, fun q => ?_⟩
    · refine m_T_mask [true, true, true, true, false, true] ?_
      exact hq
    · have q : ¬ σ.1 5 0 9 ≤ nI j := q
      rw [hm] at q
      exact absurd (nI_le (by omega) (by omega)) q
  | succ k ih =>
    intro j c hj hq
    obtain ⟨a1, a2, a3, a4⟩ := q_hs hT j (by omega)
    obtain ⟨b1, b2, b3, b4⟩ := q_hs hT i hi
    have e := ih (j + 1) (c + q_G z (fun t => H (L t)) i j) (by omega) hq
    rw [nI_succ j] at e
    refine m_T_un 60 (fun y pc => (Nat.beq y 82 && (Nat.beq pc 17 || Nat.beq pc 84)) || Nat.beq y 50) ?_
    refine ⟨fun q => ?_, fun _ => ?_⟩
    · have q : σ.1 5 0 9 ≤ nI j := q
      rw [hm] at q
      exact absurd q (nI_ge (by omega) (by omega))
    refine s_at (v := 4) j rfl (show j < 60 by omega) ?_
    refine s_at (v := 2) (L j) a1 (show L j < 60 by omega) ?_
    refine s_at (v := 4) i rfl (show i < 60 by omega) ?_
    refine s_at (v := 2) (L i) b1 (show L i < 60 by omega) ⟨fun q => ?_, fun q => ⟨fun q2 => ?_, fun q2 => ?_⟩⟩
    · have q : σ.1 12 2 (L j) - σ.1 12 2 (L i) ≤ 0 := q
      rw [a3, b3, k_le, pk_sub_toInt (by omega) (by omega), k_z32] at q
      have ez : c + q_G z (fun t => H (L t)) i j = c := by
        have e0 : q_G z (fun t => H (L t)) i j = 0 := by
          unfold q_G
          by_cases g : z = 0
          · rw [if_pos g]
            exact if_neg (show ¬ H (L i) < H (L j) by omega)
          · rw [if_neg g]
            show nI (H (L j) - H (L i)) = nI 0
            exact congrArg nI (by omega)
        rw [e0, Int32.add_zero]
      rw [ez] at e
      refine m_T_mask [true, true, true, true, true, false] ?_
      exact e
    · have q : ¬ σ.1 12 2 (L j) - σ.1 12 2 (L i) ≤ 0 := q
      rw [a3, b3, k_le, pk_sub_toInt (by omega) (by omega), k_z32] at q
      have ez : q_G z (fun t => H (L t)) i j = Int32.ofInt 1 := by
        unfold q_G
        rw [if_pos q2]
        exact if_pos (show H (L i) < H (L j) by omega)
      rw [ez] at e
      refine m_T_mask [true, true, true, true, true, false] ?_
      exact e
    · have q : ¬ σ.1 12 2 (L j) - σ.1 12 2 (L i) ≤ 0 := q
      rw [a3, b3, k_le, pk_sub_toInt (by omega) (by omega), k_z32] at q
      have ez : q_G z (fun t => H (L t)) i j = σ.1 12 2 (L j) - σ.1 12 2 (L i) := by
        unfold q_G
        rw [if_neg q2, a3, b3, pk_sub (by omega)]
        rfl
      rw [ez] at e
      refine m_T_mask [true, true, true, true, true, false] ?_
      exact e
theorem s_csw {z : Int32} (hT : q_T σ D N m w a d L K R H) (hq : Q (0, [], [vI (q_w2 (q_G z (fun t => H (L t))) m m 0 (Int32.ofInt 0))], σ)) : m_T E 65535 (r + 2) 82 (0, [some (vR 5 0), some (vI z), none, none, none, none], [], σ) Q := by
  have m60 : m ≤ 60 := Nat.le_trans hT.1.2.2.2.2.2.2.2.2.2.1 hT.1.2.2.2.2.2.2.2.1
  have hm : σ.1 5 0 9 = nI m := (hT.2.1 8 (by omega)).trans hT.1.2.2.2.2.2.2.2.2.1
  have key : ∀ k i c, i + k = m → Q (0, [], [vI (q_w2 (q_G z (fun t => H (L t))) m k i c)], σ) → m_T E 65535 (r + 2) 82 (4, [some (vR 5 0), some (vI z), some (vI c), some (vI (nI i)), none, none], [], σ) Q := by
    intro k
    induction k with
    | zero =>
      intro i c hi hq
      refine m_T_un 60 (fun y pc => (Nat.beq y 82 && (Nat.beq pc 4 || Nat.beq pc 17))) ?_
      refine ⟨fun _ => hq, fun q => ?_⟩
      have q : ¬ σ.1 5 0 9 ≤ nI i := q
      rw [hm] at q
      exact absurd (nI_le (by omega) (by omega)) q
    | succ k ih =>
      intro i c hi hq
      refine m_T_un 60 (fun y pc => (Nat.beq y 82 && (Nat.beq pc 4 || Nat.beq pc 17))) ?_
      refine ⟨fun q => ?_, fun _ => ?_⟩
      · have q : σ.1 5 0 9 ≤ nI i := q
        rw [hm] at q
        exact absurd q (nI_ge (by omega) (by omega))
      have e := ih (i + 1) (q_w1 (q_G z (fun t => H (L t)) i) (m - (i + 1)) (i + 1) c) (by omega) hq
      rw [nI_succ i] at e
      have f := s_cs1 (E := E) (r := r) (Q := Q) (z := z) hT i (by omega) (m - (i + 1)) (i + 1) c (by omega) (m_T_un 20 (fun y pc => (Nat.beq y 82 && (Nat.beq pc 4))) e)
      rw [nI_succ i] at f
      exact f
  refine m_T_un 20 (fun y pc => (Nat.beq y 82 && (Nat.beq pc 4))) ?_
  exact key m 0 _ (by omega) hq
theorem s_cps (hT : q_T σ D N m w a d L K R H) (i : Nat) (hi : i < m) (hq : Q (0, [], [vI (nI (q_pb (fun t => H (L t)) i m))], σ)) : m_T E 65535 (r + 2) 83 (0, [some (vR 5 0), some (vI (nI (L i))), none, none, none, none, none], [], σ) Q := by
  have m60 : m ≤ 60 := Nat.le_trans hT.1.2.2.2.2.2.2.2.2.2.1 hT.1.2.2.2.2.2.2.2.1
  have hm : σ.1 5 0 9 = nI m := (hT.2.1 8 (by omega)).trans hT.1.2.2.2.2.2.2.2.2.1
  obtain ⟨b1, b2, b3, b4⟩ := q_hs hT i hi
  have key : ∀ k t, t + k = m → m_T E 65535 (r + 2) 83 (21, [some (vR 5 0), some (vI (nI (L i))), some (vI (nI (H (L i)))), some (vI (nI i)), some (vI (nI (q_pb (fun t => H (L t)) i t))), some (vI (nI t)), none], [], σ) Q := by
    intro k
    induction k with
    | zero =>
      intro t ht
      refine m_T_un 60 (fun y pc => (Nat.beq y 83 && (Nat.beq pc 21)) || Nat.beq y 50) ?_
      refine ⟨fun _ => ?_, fun q => ?_⟩
      · rw [show m = t by omega] at hq
        exact hq
      · have q : ¬ σ.1 5 0 9 ≤ nI t := q
        rw [hm] at q
        exact absurd (nI_le (by omega) (by omega)) q
    | succ k ih =>
      intro t ht
      obtain ⟨a1, a2, a3, a4⟩ := q_hs hT t (by omega)
      have e := ih (t + 1) (by omega)
      rw [nI_succ t] at e
      have yes : H (L i) < H (L t) ∨ (H (L t) = H (L i) ∧ t < i) → m_T E 65535 (r + 2) 83 (21, [some (vR 5 0), some (vI (nI (L i))), some (vI (nI (H (L i)))), some (vI (nI i)), some (vI (nI (q_pb (fun t => H (L t)) i t) + 1)), some (vI (nI t + 1)), none], [], σ) Q := fun h => by
        rw [← nI_succ, ← show q_pb (fun t => H (L t)) i (t + 1) = q_pb (fun t => H (L t)) i t + 1 from if_pos h]
        exact e
      have no : ¬ (H (L i) < H (L t) ∨ (H (L t) = H (L i) ∧ t < i)) → m_T E 65535 (r + 2) 83 (21, [some (vR 5 0), some (vI (nI (L i))), some (vI (nI (H (L i)))), some (vI (nI i)), some (vI (nI (q_pb (fun t => H (L t)) i t))), some (vI (nI t + 1)), none], [], σ) Q := fun h => by
        rw [← show q_pb (fun t => H (L t)) i (t + 1) = q_pb (fun t => H (L t)) i t from if_neg h]
        exact e
      refine m_T_un 60 (fun y pc => (Nat.beq y 83 && (Nat.beq pc 21)) || Nat.beq y 50) ?_
      refine ⟨fun q => ?_, fun _ => ?_⟩
      · have q : σ.1 5 0 9 ≤ nI t := q
        rw [hm] at q
        exact absurd q (nI_ge (by omega) (by omega))
      refine s_at (v := 4) t rfl (show t < 60 by omega) ?_
      refine s_at (v := 2) (L t) a1 (show L t < 60 by omega) ⟨fun q => ?_, fun q => ⟨fun q2 => ?_, fun q2 => ⟨fun q3 => ?_, fun q3 => ?_⟩⟩⟩
      · have q : nI (H (L i)) < σ.1 12 2 (L t) := q
        rw [a3, nI_ltI (by omega) (by omega)] at q
        refine m_T_mask [true, true, true, true, true, true, false] ?_
        exact yes (Or.inl q)
      · have q : ¬ nI (H (L i)) < σ.1 12 2 (L t) := q
        have q2 : ¬ σ.1 12 2 (L t) = nI (H (L i)) := q2
        rw [a3, nI_ltI (by omega) (by omega)] at q
        rw [a3, nI_eq (by omega) (by omega)] at q2
        refine m_T_mask [true, true, true, true, true, true, false] ?_
        exact no (by omega)
      · have q : ¬ nI (H (L i)) < σ.1 12 2 (L t) := q
        have q3 : nI i ≤ nI t := q3
        rw [a3, nI_ltI (by omega) (by omega)] at q
        rw [nI_leI (by omega) (by omega)] at q3
        refine m_T_mask [true, true, true, true, true, true, false] ?_
        exact no (by omega)
      · have q2 : σ.1 12 2 (L t) = nI (H (L i)) := q2
        have q3 : ¬ nI i ≤ nI t := q3
        rw [a3, nI_eq (by omega) (by omega)] at q2
        rw [nI_leI (by omega) (by omega)] at q3
        refine m_T_mask [true, true, true, true, true, true, false] ?_
        exact yes (by omega)
  have go : m_T E 65535 (r + 2) 83 (21, [some (vR 5 0), some (vI (nI (L i))), some (vI (σ.1 12 2 (L i))), some (vI (nI i)), some (vI (nI 0)), some (vI (nI 0)), none], [], σ) Q := by
    rw [b3]
    exact key m 0 (by omega)
  refine m_T_un 60 (fun y pc => (Nat.beq y 83 && (Nat.beq pc 21)) || Nat.beq y 50 || Nat.beq y 78) ?_
  refine s_at (v := 2) (L i) rfl (show L i < 60 by omega) ?_
  exact s_p1 hT i hi go
end Swaps
