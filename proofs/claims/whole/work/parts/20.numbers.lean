/-! Numbers -/
def m_no : Nat → Nat → Bool := fun _ _ => false
theorem k_in {k n : Nat} (h : k < n) (hn : n < 2 ^ 31) : vp_in (nI k) n := vp_in_nI h hn
theorem k_cl {k : Nat} (h : k < 2 ^ 31) : (nI k).toNatClampNeg = k := nI_clamp h
theorem m_lenN_lt (v : Nat) : m_lenN v < 2 ^ 31 := by
  unfold m_lenN
  cases Nat.blt v 20 <;> cases Nat.blt v 28 <;> cases Nat.beq v 28 <;> cases Nat.beq v 29 <;> decide
theorem s_at {E : m_E} {r v : Nat} (k : Nat) {x : Int32} {σ : m_M} {Q : m_F → Prop} (hx : x = nI k) (hk : k < m_lenN v) (h : Q (0, [], [vI (σ.1 12 v k)], σ)) : m_T E 65535 r 50 (0, [some (vR 2 v), some (vI x)], [], σ) Q := by
  have hl := m_lenN_lt v
  subst hx
  refine m_T_un 40 m_no ?_
  refine ⟨fun c1 => ?_, fun c1 => ⟨fun c2 => ?_, fun c2 => ⟨?_, ?_⟩⟩⟩
  · exact absurd c1 (nI_pos (by omega))
  · exact absurd c2 (nI_ge hk hl)
  · exact k_in hk hl
  · have h2 : Q (0, [], [vI (σ.1 12 v (nI k).toNatClampNeg)], σ) := by rw [k_cl (by omega)]; exact h
    exact h2
theorem s_put {E : m_E} {r v : Nat} (k : Nat) {i x : Int32} {σ : m_M} {Q : m_F → Prop} (hi : i = nI k) (hk : k < m_lenN v) (h : Q (0, [], [], m_up σ 12 v k x)) : m_T E 65535 r 48 (0, [some (vR 2 v), some (vI i), some (vI x)], [], σ) Q := by
  have hl := m_lenN_lt v
  subst hi
  refine m_T_un 40 m_no ?_
  refine ⟨fun c1 => ?_, fun c1 => ⟨fun c2 => ?_, fun c2 => ⟨?_, ?_⟩⟩⟩
  · exact absurd c1 (nI_pos (by omega))
  · exact absurd c2 (nI_ge hk hl)
  · exact k_in hk hl
  · have h2 : Q (0, [], [], m_up σ 12 v (nI k).toNatClampNeg x) := by rw [k_cl (by omega)]; exact h
    exact h2
/-- the first n of a row are 0 -/
def m_zero (σ : m_M) (v n : Nat) : m_M := (fun c' v' j' => if c' = 12 ∧ v' = v ∧ j' < n then 0 else σ.1 c' v' j', σ.2)
theorem m_zero_up {σ : m_M} {v n : Nat} : m_up (m_zero σ v n) 12 v n 0 = m_zero σ v (n + 1) := by
  refine Prod.ext ?_ rfl
  funext c' v' j'
  simp only [m_up, m_zero]
  by_cases h1 : c' = 12 ∧ v' = v
  · obtain ⟨rfl, rfl⟩ := h1
    by_cases h2 : j' = n
    · simp [h2]
    · by_cases h3 : j' < n
      · simp [h2, h3, show j' < n + 1 by omega]
      · simp [h2, h3, show ¬ j' < n + 1 by omega]
  · rw [if_neg (fun q => h1 ⟨q.1, q.2.1⟩), if_neg (fun q => h1 ⟨q.1, q.2.1⟩), if_neg (fun q => h1 ⟨q.1, q.2.1⟩)]
theorem m_zero_0 {σ : m_M} {v : Nat} : m_zero σ v 0 = σ := by
  refine Prod.ext ?_ rfl
  funext c' v' j'
  simp [m_zero]
theorem s_clear {E : m_E} {r v : Nat} {σ : m_M} {Q : m_F → Prop} (h : Q (0, [], [], m_zero σ v (m_lenN v))) : m_T E 65535 r 47 (0, [some (vR 2 v), none], [], σ) Q := by
  have hl := m_lenN_lt v
  have key : ∀ n i, i + n = m_lenN v → m_T E 65535 r 47 (2, [some (vR 2 v), some (vI (nI i))], [], m_zero σ v i) Q := by
    intro n
    induction n with
    | zero =>
      intro i hi
      refine m_T_un 40 (fun _ pc => Nat.beq pc 2) ?_
      refine ⟨fun c1 => ?_, fun c1 => absurd (nI_le (show m_lenN v ≤ i by omega) (by omega)) c1⟩
      rw [show m_lenN v = i by omega] at h
      exact h
    | succ n ih =>
      intro i hi
      refine m_T_un 40 (fun _ pc => Nat.beq pc 2) ?_
      refine ⟨fun c1 => absurd c1 (nI_ge (show i < m_lenN v by omega) hl), fun c1 => ⟨k_in (show i < m_lenN v by omega) hl, ?_⟩⟩
      have e := ih (i + 1) (by omega)
      rw [← m_zero_up, nI_succ] at e
      have e2 : m_T E 65535 r 47 (2, [some (vR 2 v), some (vI (nI i + 1))], [], m_up (m_zero σ v i) 12 v (nI i).toNatClampNeg 0) Q := by rw [k_cl (by omega)]; exact e
      exact e2
  refine m_T_un 40 (fun _ pc => Nat.beq pc 2) ?_
  have e := key (m_lenN v) 0 (by omega)
  rw [m_zero_0] at e
  exact e
/-- n from row w, place i, to row v, place j -/
def m_mv (σ : m_M) (v w i j n : Nat) : m_M := (fun c' v' j' => if c' = 12 ∧ v' = v ∧ j ≤ j' ∧ j' < j + n then σ.1 12 w (i + (j' - j)) else σ.1 c' v' j', σ.2)
theorem m_mv_0 {σ : m_M} {v w i j : Nat} : m_mv σ v w i j 0 = σ := by
  refine Prod.ext ?_ rfl
  funext c' v' j'
  simp only [m_mv]
  rw [if_neg (by omega)]
theorem m_mv_read {σ : m_M} {v w i j n k : Nat} (h : ¬ w = v ∨ k < j ∨ j + n ≤ k) : (m_mv σ v w i j n).1 12 w k = σ.1 12 w k := by
  simp only [m_mv]
  rw [if_neg (by omega)]
/-- one more, behind -/
theorem m_mv_up {σ : m_M} {v w i j n : Nat} (h : ¬ w = v ∨ j ≤ i) : m_up (m_mv σ v w i j n) 12 v (j + n) ((m_mv σ v w i j n).1 12 w (i + n)) = m_mv σ v w i j (n + 1) := by
  rw [m_mv_read (by omega)]
  refine Prod.ext ?_ rfl
  funext c' v' j'
  simp only [m_up, m_mv]
  by_cases h1 : c' = 12 ∧ v' = v
  · obtain ⟨rfl, rfl⟩ := h1
    by_cases h2 : j' = j + n
    · subst h2
      rw [if_pos ⟨rfl, rfl, rfl⟩, if_pos ⟨rfl, rfl, by omega, by omega⟩, show j + n - j = n by omega]
    · rw [if_neg (by omega)]
      by_cases h3 : j ≤ j' ∧ j' < j + n
      · rw [if_pos ⟨rfl, rfl, h3⟩, if_pos ⟨rfl, rfl, by omega, by omega⟩]
      · rw [if_neg (by omega), if_neg (by omega)]
  · rw [if_neg (by omega), if_neg (by omega), if_neg (by omega)]
/-- one more, ahead -/
theorem m_mv_dn {σ : m_M} {v w i j n m : Nat} (hm : m < n) (h : i ≤ j) : m_up (m_mv σ v w (i + (m + 1)) (j + (m + 1)) (n - (m + 1))) 12 v (j + m) ((m_mv σ v w (i + (m + 1)) (j + (m + 1)) (n - (m + 1))).1 12 w (i + m)) = m_mv σ v w (i + m) (j + m) (n - m) := by
  rw [m_mv_read (by omega)]
  refine Prod.ext ?_ rfl
  funext c' v' j'
  simp only [m_up, m_mv]
  by_cases h1 : c' = 12 ∧ v' = v
  · obtain ⟨rfl, rfl⟩ := h1
    by_cases h2 : j' = j + m
    · subst h2
      rw [if_pos ⟨rfl, rfl, rfl⟩, if_pos ⟨rfl, rfl, by omega, by omega⟩, show i + m + (j + m - (j + m)) = i + m by omega]
    · rw [if_neg (by omega)]
      by_cases h3 : j + (m + 1) ≤ j' ∧ j' < j + n
      · rw [if_pos ⟨rfl, rfl, by omega, by omega⟩, if_pos ⟨rfl, rfl, by omega, by omega⟩, show i + (m + 1) + (j' - (j + (m + 1))) = i + m + (j' - (j + m)) by omega]
      · rw [if_neg (by omega), if_neg (by omega)]
  · rw [if_neg (by omega), if_neg (by omega), if_neg (by omega)]
theorem k_pred (n : Nat) : nI (n + 1) + Int32.ofInt (-1) = nI n := by
  rw [show Int32.ofInt (-1) = (-1 : Int32) from rfl]
  exact pk_m1 n
theorem k_sub1 (x : Int32) : x - Int32.ofInt 1 = x + Int32.ofInt (-1) := by
  rw [Int32.sub_eq_add_neg]
  rfl
theorem s_take {E : m_E} {r v w i j n : Nat} {σ : m_M} {Q : m_F → Prop} (hi : i + n ≤ m_lenN w) (hj : j + n ≤ m_lenN v) (h : Q (0, [], [], m_mv σ v w i j n)) : m_T E 65535 (r + 1) 49 (0, [some (vR 2 v), some (vR 2 w), some (vI (nI i)), some (vI (nI j)), some (vI (nI n)), none], [], σ) Q := by
  have hl := m_lenN_lt v
  have hw := m_lenN_lt w
  have up : ¬ i < j → ∀ k t, t + k = n → m_T E 65535 (r + 1) 49 (44, [some (vR 2 v), some (vR 2 w), some (vI (nI i)), some (vI (nI j)), some (vI (nI n)), some (vI (nI t))], [], m_mv σ v w i j t) Q := by
    intro hij k
    induction k with
    | zero =>
      intro t ht
      refine m_T_un 40 (fun y pc => Nat.beq y 49 && Nat.beq pc 44) ?_
      refine ⟨fun c1 => ?_, fun c1 => absurd (nI_le (show n ≤ t by omega) (by omega)) c1⟩
      rw [show n = t by omega] at h
      exact h
    | succ k ih =>
      intro t ht
      refine m_T_un 40 (fun y pc => (Nat.beq y 49 && Nat.beq pc 44) || Nat.beq y 50 || Nat.beq y 48) ?_
      refine ⟨fun c1 => absurd c1 (nI_ge (show t < n by omega) (by omega)), fun c1 => ?_⟩
      refine s_at (i + t) (nI_add i t) (show i + t < m_lenN w by omega) ?_
      refine s_put (j + t) (nI_add j t) (show j + t < m_lenN v by omega) ?_
      have e := ih (t + 1) (by omega)
      have e2 := m_mv_up (σ := σ) (v := v) (w := w) (i := i) (j := j) (n := t) (by omega)
      rw [← e2, nI_succ] at e
      exact e
  have dn : i < j → ∀ t, t ≤ n → m_T E 65535 (r + 1) 49 (11, [some (vR 2 v), some (vR 2 w), some (vI (nI i)), some (vI (nI j)), some (vI (nI n)), some (vI (nI t + Int32.ofInt (-1)))], [], m_mv σ v w (i + t) (j + t) (n - t)) Q := by
    intro hij t
    induction t with
    | zero =>
      intro ht
      refine m_T_un 40 (fun y pc => Nat.beq y 49 && Nat.beq pc 11) ?_
      refine ⟨fun c1 => ?_, fun c1 => absurd (show (nI 0 + Int32.ofInt (-1) : Int32) < 0 by decide) c1⟩
      exact h
    | succ t ih =>
      intro ht
      rw [k_pred]
      refine m_T_un 40 (fun y pc => (Nat.beq y 49 && Nat.beq pc 11) || Nat.beq y 50 || Nat.beq y 48) ?_
      refine ⟨fun c1 => absurd c1 (nI_pos (by omega)), fun c1 => ?_⟩
      refine s_at (i + t) (nI_add i t) (show i + t < m_lenN w by omega) ?_
      refine s_put (j + t) (nI_add j t) (show j + t < m_lenN v by omega) ?_
      have e := ih (by omega)
      have e2 := m_mv_dn (σ := σ) (v := v) (w := w) (i := i) (j := j) (n := n) (m := t) (by omega) (by omega)
      rw [← e2] at e
      exact e
  refine m_T_un 40 (fun y pc => Nat.beq y 49 && (Nat.beq pc 44 || Nat.beq pc 11)) ?_
  refine ⟨fun c1 => ?_, fun c1 => ?_⟩
  · have hij : ¬ i < j := fun q => nI_ge q (by omega) c1
    have e := up hij n 0 (by omega)
    rw [m_mv_0] at e
    exact e
  · have hij : i < j := Nat.not_le.mp fun q => c1 (nI_le q (by omega))
    have e := dn hij n (Nat.le_refl n)
    rw [Nat.sub_self, m_mv_0, ← k_sub1] at e
    exact e
