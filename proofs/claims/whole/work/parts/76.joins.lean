/-! day: those who come -/
def d_k (n h u : Nat) : Nat := if u < n - h then 1 else 2
theorem d_k1 {n h u : Nat} : 1 ≤ d_k n h u ∧ d_k n h u ≤ 2 := by
  unfold d_k
  split <;> omega
def d_J (τ : m_M) (N m n h t : Nat) (τ' : m_M) : Prop :=
  τ'.1 5 0 8 = nI (N + t) ∧ τ'.1 5 0 9 = nI (m + t) ∧ (∀ j, ¬ j = 8 → ¬ j = 9 → τ'.1 5 0 j = τ.1 5 0 j) ∧ (∀ q, q < N → τ'.1 12 0 q = τ.1 12 0 q ∧ τ'.1 12 1 q = τ.1 12 1 q ∧ τ'.1 12 2 q = τ.1 12 2 q ∧ τ'.1 12 3 q = τ.1 12 3 q) ∧
  (∀ u, u < t → τ'.1 12 0 (N + u) = nI (d_k n h u) ∧ τ'.1 12 1 (N + u) = 0 ∧ τ'.1 12 2 (N + u) = 0 ∧ τ'.1 12 3 (N + u) = 0) ∧ (∀ i, i < m → τ'.1 12 4 i = τ.1 12 4 i) ∧ (∀ u, u < t → τ'.1 12 4 (m + u) = nI (N + u)) ∧ (∀ c v, ¬ (c = 5 ∧ v = 0) → ¬ (c = 12 ∧ v < 5) → τ'.1 c v = τ.1 c v)
def d_3 (τ : m_M) (N m : Nat) (x y : Int32) : m_M := m_up (m_up (m_up (m_up (m_up (m_up (m_up τ 5 0 8 (nI (N + 1))) 12 0 N x) 12 1 N 0) 12 2 N 0) 12 4 m y) 12 3 N 0) 5 0 9 (nI (m + 1))
theorem d_30 {τ : m_M} {N m : Nat} {x y : Int32} (q : Nat) : (d_3 τ N m x y).1 12 0 q = if q = N then x else τ.1 12 0 q := by simp [d_3, m_up]
theorem d_31 {τ : m_M} {N m : Nat} {x y : Int32} (q : Nat) : (d_3 τ N m x y).1 12 1 q = if q = N then 0 else τ.1 12 1 q := by simp [d_3, m_up]
theorem d_32 {τ : m_M} {N m : Nat} {x y : Int32} (q : Nat) : (d_3 τ N m x y).1 12 2 q = if q = N then 0 else τ.1 12 2 q := by simp [d_3, m_up]
theorem d_33 {τ : m_M} {N m : Nat} {x y : Int32} (q : Nat) : (d_3 τ N m x y).1 12 3 q = if q = N then 0 else τ.1 12 3 q := by simp [d_3, m_up]
theorem d_34 {τ : m_M} {N m : Nat} {x y : Int32} (q : Nat) : (d_3 τ N m x y).1 12 4 q = if q = m then y else τ.1 12 4 q := by simp [d_3, m_up]
theorem d_35 {τ : m_M} {N m : Nat} {x y : Int32} (j : Nat) : (d_3 τ N m x y).1 5 0 j = if j = 9 then nI (m + 1) else if j = 8 then nI (N + 1) else τ.1 5 0 j := by simp [d_3, m_up]
theorem d_3o {τ : m_M} {N m : Nat} {x y : Int32} (c v : Nat) (h1 : ¬ (c = 5 ∧ v = 0)) (h2 : ¬ (c = 12 ∧ v < 5)) : (d_3 τ N m x y).1 c v = τ.1 c v := by
  unfold d_3
  rw [m_up_other h1, m_up_other (by omega), m_up_other (by omega), m_up_other (by omega), m_up_other (by omega), m_up_other (by omega), m_up_other h1]
theorem d_Js {τ τ' : m_M} {N m n h t : Nat} {x y : Int32} (hx : x = nI (d_k n h t)) (hy : y = nI (N + t)) (H : d_J τ N m n h t τ') : d_J τ N m n h (t + 1) (d_3 τ' (N + t) (m + t) x y) := by
  subst hx
  subst hy
  obtain ⟨a1, a2, a3, a4, a5, a6, a7, a8⟩ := H
  refine ⟨by rw [d_35, if_neg (by omega), if_pos rfl, Nat.add_assoc], by rw [d_35, if_pos rfl, Nat.add_assoc], fun j h8 h9 => by rw [d_35, if_neg h9, if_neg h8]; exact a3 j h8 h9, fun q hq => ?_, fun u hu => ?_, fun i hi => by rw [d_34, if_neg (by omega)]; exact a6 i hi, fun u hu => ?_, fun c v h1 h2 => (d_3o c v h1 h2).trans (a8 c v h1 h2)⟩
  · rw [d_30, d_31, d_32, d_33, if_neg (by omega), if_neg (by omega), if_neg (by omega), if_neg (by omega)]
    exact a4 q hq
  · rw [d_30, d_31, d_32, d_33]
    by_cases e : u = t
    · subst e
      rw [if_pos rfl, if_pos rfl, if_pos rfl, if_pos rfl]
      exact ⟨rfl, rfl, rfl, rfl⟩
    · rw [if_neg (by omega), if_neg (by omega), if_neg (by omega), if_neg (by omega)]
      exact a5 u (by omega)
  · rw [d_34]
    by_cases e : u = t
    · subst e
      rw [if_pos rfl]
    · rw [if_neg (by omega)]
      exact a7 u (by omega)
section Joins
variable {E : m_E} {r N m : Nat} {σ : m_M} {Q : m_F → Prop} {x : Int32}
theorem s_cjn (hN : σ.1 5 0 8 = nI N) (hm : σ.1 5 0 9 = nI m) (N60 : N < 60) (m60 : m < 60) (hq : Q (0, [], [vI (σ.1 5 0 8)], d_3 σ N m x (σ.1 5 0 8))) : m_T E 65535 (r + 2) 68 (0, [some (vR 5 0), some (vI x), some (vI (Int32.ofInt 0)), some (vI (Int32.ofInt 0)), none], [], σ) Q := by
  have e8 : σ.1 5 0 8 + Int32.ofInt 1 = nI (N + 1) := by rw [hN, show Int32.ofInt 1 = nI 1 from rfl, nI_add]
  have e9 : σ.1 5 0 9 + Int32.ofInt 1 = nI (m + 1) := by rw [hm, show Int32.ofInt 1 = nI 1 from rfl, nI_add]
  unfold d_3 at hq
  rw [← e8, ← e9] at hq
  refine m_T_un 90 (fun y _ => Nat.beq y 48) ?_
  refine s_put (v := 0) N hN (show N < 60 by omega) ?_
  refine s_put (v := 1) N hN (show N < 60 by omega) ?_
  refine s_put (v := 2) N hN (show N < 60 by omega) ?_
  refine s_put (v := 4) m hm (show m < 60 by omega) ?_
  refine s_put (v := 3) N hN (show N < 60 by omega) ?_
  exact hq
theorem s_cjo {n h : Nat} {g : Int32} {τ : m_M} (hh : h ≤ n) (hn : n ≤ 20) (hN : N + n ≤ 60) (hmN : m ≤ N) (hq : ∀ τ', d_J τ N m n h n τ' → m_T E 65535 (r + 3) 71 (84, [some (vR 5 0), some (vI (nI n)), some (vI (nI h)), some (vI g), some (vI (nI n))], [], τ') Q) : ∀ k t τ', t + k = n → d_J τ N m n h t τ' → m_T E 65535 (r + 3) 71 (52, [some (vR 5 0), some (vI (nI n)), some (vI (nI h)), some (vI g), some (vI (nI t))], [], τ') Q := by
  intro k
  induction k with
  | zero =>
    intro t τ' ht H
    obtain rfl : t = n := by omega
    refine m_T_un 40 (fun y pc => (Nat.beq y 71 && (Nat.beq pc 52 || Nat.beq pc 84)) || Nat.beq y 68) ?_
    exact ⟨fun _ => hq τ' H, fun q => absurd (nI_le (Nat.le_refl t) (by omega)) q⟩
  | succ k ih =>
    intro t τ' ht H
    have e := fun x y hx hy => ih (t + 1) (d_3 τ' (N + t) (m + t) x y) (by omega) (d_Js (x := x) (y := y) hx hy H)
    rw [nI_succ] at e
    have hi : nI n - nI h = nI (n - h) := pk_sub hh
    refine m_T_un 40 (fun y pc => (Nat.beq y 71 && (Nat.beq pc 52 || Nat.beq pc 84)) || Nat.beq y 68) ?_
    refine ⟨fun q => absurd q (nI_ge (by omega) (by omega)), fun _ => ⟨fun q => ?_, fun q => ?_⟩⟩
    · have q : nI n - nI h ≤ nI t := q
      rw [hi, nI_leI (by omega) (by omega)] at q
      refine s_cjn (N := N + t) (m := m + t) H.1 H.2.1 (by omega) (by omega) ?_
      exact e (Int32.ofInt 2) _ (by unfold d_k; rw [if_neg (by omega)]; rfl) H.1
    · have q : ¬ nI n - nI h ≤ nI t := q
      rw [hi, nI_leI (by omega) (by omega)] at q
      refine s_cjn (N := N + t) (m := m + t) H.1 H.2.1 (by omega) (by omega) ?_
      exact e (Int32.ofInt 1) _ (by unfold d_k; rw [if_pos (by omega)]; rfl) H.1
end Joins
def e_J (μ : m_M) (N m n h t : Nat) (μ' : m_M) : Prop :=
  μ'.1 13 3 7 = nI (N + t) ∧ μ'.1 13 3 8 = nI (m + t) ∧ (∀ j, j < 7 → μ'.1 13 3 j = μ.1 13 3 j) ∧ (∀ i, i < m → μ'.1 13 3 (9 + i) = μ.1 13 3 (9 + i)) ∧ (∀ u, u < t → μ'.1 13 3 (9 + (m + u)) = nI (N + u)) ∧ (∀ q k, q < N → k < 4 → μ'.1 13 3 (69 + k + 4 * q) = μ.1 13 3 (69 + k + 4 * q)) ∧
  (∀ u, u < t → μ'.1 13 3 (69 + 4 * (N + u)) = nI (d_k n h u) ∧ μ'.1 13 3 (70 + 4 * (N + u)) = 0 ∧ μ'.1 13 3 (71 + 4 * (N + u)) = 0 ∧ μ'.1 13 3 (72 + 4 * (N + u)) = -1000000) ∧ (∀ c v, ¬ (c = 13 ∧ v = 3) → μ'.1 c v = μ.1 c v)
def d_4 (μ : m_M) (N m : Nat) (x y : Int32) : m_M := m_up (m_up (m_up (m_up (m_up (m_up (m_up μ 13 3 (69 + 4 * N) x) 13 3 (70 + 4 * N) 0) 13 3 (71 + 4 * N) 0) 13 3 (72 + 4 * N) (-1000000)) 13 3 7 (nI (N + 1))) 13 3 (9 + m) y) 13 3 8 (nI (m + 1))
theorem d_4j {μ : m_M} {N m : Nat} {x y : Int32} (j : Nat) : (d_4 μ N m x y).1 13 3 j = if j = 8 then nI (m + 1) else if j = 9 + m then y else if j = 7 then nI (N + 1) else if j = 72 + 4 * N then -1000000 else if j = 71 + 4 * N then 0 else if j = 70 + 4 * N then 0 else if j = 69 + 4 * N then x else μ.1 13 3 j := by simp [d_4, m_up]
theorem d_4o {μ : m_M} {N m : Nat} {x y : Int32} (c v : Nat) (h : ¬ (c = 13 ∧ v = 3)) : (d_4 μ N m x y).1 c v = μ.1 c v := by
  unfold d_4
  rw [m_up_other h, m_up_other h, m_up_other h, m_up_other h, m_up_other h, m_up_other h, m_up_other h]
theorem e_Js {μ μ' : m_M} {N m n h t : Nat} {x y : Int32} (m60 : m + t < 60) (hx : x = nI (d_k n h t)) (hy : y = nI (N + t)) (H : e_J μ N m n h t μ') : e_J μ N m n h (t + 1) (d_4 μ' (N + t) (m + t) x y) := by
  subst hx
  subst hy
  obtain ⟨a1, a2, a3, a4, a5, a6, a7, a8⟩ := H
  refine ⟨?_, ?_, fun j hj => ?_, fun i hi => ?_, fun u hu => ?_, fun q k hq hk => ?_, fun u hu => ?_, fun c v h => (d_4o c v h).trans (a8 c v h)⟩
  · rw [d_4j, if_neg (by omega), if_neg (by omega), if_pos rfl, Nat.add_assoc]
  · rw [d_4j, if_pos rfl, Nat.add_assoc]
  · rw [d_4j, if_neg (by omega), if_neg (by omega), if_neg (by omega), if_neg (by omega), if_neg (by omega), if_neg (by omega), if_neg (by omega)]
    exact a3 j hj
  · rw [d_4j, if_neg (by omega), if_neg (by omega), if_neg (by omega), if_neg (by omega), if_neg (by omega), if_neg (by omega), if_neg (by omega)]
    exact a4 i hi
  · rw [d_4j, if_neg (by omega)]
    by_cases e : u = t
    · rw [if_pos (by omega), e]
    · rw [if_neg (by omega), if_neg (by omega), if_neg (by omega), if_neg (by omega), if_neg (by omega), if_neg (by omega)]
      exact a5 u (by omega)
  · rw [d_4j, if_neg (by omega), if_neg (by omega), if_neg (by omega), if_neg (by omega), if_neg (by omega), if_neg (by omega), if_neg (by omega)]
    exact a6 q k hq hk
  · by_cases e : u = t
    · subst e
      refine ⟨?_, ?_, ?_, ?_⟩
      · rw [d_4j, if_neg (by omega), if_neg (by omega), if_neg (by omega), if_neg (by omega), if_neg (by omega), if_neg (by omega), if_pos rfl]
      · rw [d_4j, if_neg (by omega), if_neg (by omega), if_neg (by omega), if_neg (by omega), if_neg (by omega), if_pos rfl]
      · rw [d_4j, if_neg (by omega), if_neg (by omega), if_neg (by omega), if_neg (by omega), if_pos rfl]
      · rw [d_4j, if_neg (by omega), if_neg (by omega), if_neg (by omega), if_pos rfl]
    · have old : ∀ k, k < 4 → (d_4 μ' (N + t) (m + t) (nI (d_k n h t)) (nI (N + t))).1 13 3 (69 + k + 4 * (N + u)) = μ'.1 13 3 (69 + k + 4 * (N + u)) := fun k hk => by
        rw [d_4j, if_neg (by omega), if_neg (by omega), if_neg (by omega), if_neg (by omega), if_neg (by omega), if_neg (by omega), if_neg (by omega)]
      have b := a7 u (by omega)
      exact ⟨(old 0 (by omega)).trans b.1, (old 1 (by omega)).trans b.2.1, (old 2 (by omega)).trans b.2.2.1, (old 3 (by omega)).trans b.2.2.2⟩
section MJoins
variable {E : m_E} {r N m : Nat} {Q : m_F → Prop}
theorem s_mjo {n h : Nat} {g : Int32} {μ : m_M} (hh : h ≤ n) (hn : n ≤ 20) (hN : N + n ≤ 60) (hmN : m ≤ N) (hq : ∀ μ', e_J μ N m n h n μ' → m_T E 65535 (r + 3) 111 (162, [some (vR 6 0), some (vI (nI n)), some (vI (nI h)), some (vI g), some (vI (nI n)), none], [], μ') Q) : ∀ k t μ', t + k = n → e_J μ N m n h t μ' → m_T E 65535 (r + 3) 111 (131, [some (vR 6 0), some (vI (nI n)), some (vI (nI h)), some (vI g), some (vI (nI t)), none], [], μ') Q := by
  intro k
  induction k with
  | zero =>
    intro t μ' ht H
    obtain rfl : t = n := by omega
    refine m_T_un 40 (fun y pc => (Nat.beq y 111 && (Nat.beq pc 131 || Nat.beq pc 162)) || Nat.beq y 119) ?_
    exact ⟨fun _ => hq μ' H, fun q => absurd (nI_le (Nat.le_refl t) (by omega)) q⟩
  | succ k ih =>
    intro t μ' ht H
    have e := fun x y hx hy => ih (t + 1) (d_4 μ' (N + t) (m + t) x y) (by omega) (e_Js (x := x) (y := y) (by omega) hx hy H)
    rw [nI_succ] at e
    have hi : nI n - nI h = nI (n - h) := pk_sub hh
    refine m_T_un 40 (fun y pc => (Nat.beq y 111 && (Nat.beq pc 131 || Nat.beq pc 162)) || Nat.beq y 119) ?_
    refine ⟨fun q => absurd q (nI_ge (by omega) (by omega)), fun _ => ⟨fun q => ?_, fun q => ?_⟩⟩
    · have q : nI n - nI h ≤ nI t := q
      rw [hi, nI_leI (by omega) (by omega)] at q
      refine s_mco (N := N + t) (m := m + t) H.1 H.2.1 (by omega) (by omega) ?_
      refine m_T_mask [true, true, true, true, true, false] ?_
      exact e (Int32.ofInt 2) _ (by unfold d_k; rw [if_neg (by omega)]; rfl) H.1
    · have q : ¬ nI n - nI h ≤ nI t := q
      rw [hi, nI_leI (by omega) (by omega)] at q
      refine s_mco (N := N + t) (m := m + t) H.1 H.2.1 (by omega) (by omega) ?_
      refine m_T_mask [true, true, true, true, true, false] ?_
      exact e (Int32.ofInt 1) _ (by unfold d_k; rw [if_pos (by omega)]; rfl) H.1
end MJoins
