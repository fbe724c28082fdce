/-! images -/
theorem s_take2 {E : m_E} {r v w i j n : Nat} {xi xj xn : Int32} {σ : m_M} {Q : m_F → Prop} (ei : xi = nI i) (ej : xj = nI j) (en : xn = nI n) (hi : i + n ≤ m_lenN w) (hj : j + n ≤ m_lenN v) (h : Q (0, [], [], m_mv σ v w i j n)) : m_T E 65535 (r + 1) 49 (0, [some (vR 2 v), some (vR 2 w), some (vI xi), some (vI xj), some (vI xn), none], [], σ) Q := by
  subst ei; subst ej; subst en
  exact s_take hi hj h
theorem m_lenN_T {v k : Nat} (hv : v < 4) (hk : k < 5) : m_lenN (5 * v + k) = 60 := by
  unfold m_lenN
  rw [show Nat.blt (5 * v + k) 20 = true from Nat.ble_eq_true_of_le (show 5 * v + k + 1 ≤ 20 by omega)]
  rfl
theorem k_b5 : Nat.beq 5 17 = false := rfl
theorem k_b6 : Nat.beq 6 17 = false := rfl
theorem m_mv_other {σ : m_M} {v w i j n c u : Nat} (h : ¬ (c = 12 ∧ u = v)) : (m_mv σ v w i j n).1 c u = σ.1 c u := by
  funext t
  simp only [m_mv]
  rw [if_neg (fun q => h ⟨q.1, q.2.1⟩)]
theorem m_mv_in {σ : m_M} {v w n k : Nat} (h : k < n) : (m_mv σ v w 0 0 n).1 12 v k = σ.1 12 w k := by
  show (if 12 = 12 ∧ v = v ∧ 0 ≤ k ∧ k < 0 + n then σ.1 12 w (0 + (k - 0)) else σ.1 12 v k) = _
  rw [if_pos ⟨rfl, rfl, Nat.zero_le k, by omega⟩, Nat.zero_add, Nat.sub_zero]
/-- town v as town w is -/
def q_bec (σ τ : m_M) (v w N m : Nat) : Prop := (∀ j, j < 10 → τ.1 5 v j = σ.1 5 w j) ∧ (∀ k p, k < 4 → p < N → τ.1 12 (5 * v + k) p = σ.1 12 (5 * w + k) p) ∧ (∀ i, i < m → τ.1 12 (5 * v + 4) i = σ.1 12 (5 * w + 4) i) ∧ (∀ c u, ¬ (c = 5 ∧ u = v) → ¬ (c = 12 ∧ 5 * v ≤ u ∧ u < 5 * v + 5) → τ.1 c u = σ.1 c u) ∧ τ.2 = σ.2
def m_b10 (σ : m_M) (v w : Nat) : m_M := (fun c u j => if c = 5 ∧ u = v ∧ j < 10 then σ.1 5 w j else σ.1 c u j, σ.2)
set_option maxRecDepth 20000 in
theorem s_bec {E : m_E} {r v w N m : Nat} {σ : m_M} {Q : m_F → Prop} (hv : v < 4) (hw : w < 4) (hne : ¬ w = v) (hN : σ.1 5 w 8 = nI N) (h60 : N ≤ 60) (hm : σ.1 5 w 9 = nI m) (hm60 : m ≤ 60) (hb : q_bit (σ.1 5 w 0)) (h : ∀ τ, q_bec σ τ v w N m → Q (0, [], [], τ)) : m_T E 65535 (r + 2) 70 (0, [some (vR 5 v), some (vR 5 w)], [], σ) Q := by
  refine m_T_un 200 (fun y _ => Nat.beq y 49) ?_
  refine ⟨hb, ?_⟩
  have l0 := m_lenN_T (v := v) (k := 0) hv (by decide)
  have l1 := m_lenN_T (v := v) (k := 1) hv (by decide)
  have l2 := m_lenN_T (v := v) (k := 2) hv (by decide)
  have l3 := m_lenN_T (v := v) (k := 3) hv (by decide)
  have l4 := m_lenN_T (v := v) (k := 4) hv (by decide)
  have g0 := m_lenN_T (v := w) (k := 0) hw (by decide)
  have g1 := m_lenN_T (v := w) (k := 1) hw (by decide)
  have g2 := m_lenN_T (v := w) (k := 2) hw (by decide)
  have g3 := m_lenN_T (v := w) (k := 3) hw (by decide)
  have g4 := m_lenN_T (v := w) (k := 4) hw (by decide)
  rw [Nat.add_zero] at l0 g0
  refine s_take2 (i := 0) (j := 0) (n := N) rfl rfl ?_ (by rw [g0]; omega) (by rw [l0]; omega) ?_
  · simp [m_fv, m_fr, m_ft, m_nth, m_up, hne, hN, k_b5]
  refine s_take2 (i := 0) (j := 0) (n := N) rfl rfl ?_ (by rw [g1]; omega) (by rw [l1]; omega) ?_
  · simp [m_fv, m_fr, m_ft, m_nth, m_up, m_mv, hne, hN, k_b5]
  refine s_take2 (i := 0) (j := 0) (n := N) rfl rfl ?_ (by rw [g2]; omega) (by rw [l2]; omega) ?_
  · simp [m_fv, m_fr, m_ft, m_nth, m_up, m_mv, hne, hN, k_b5]
  refine s_take2 (i := 0) (j := 0) (n := N) rfl rfl ?_ (by rw [g3]; omega) (by rw [l3]; omega) ?_
  · simp [m_fv, m_fr, m_ft, m_nth, m_up, m_mv, hne, hN, k_b5]
  refine s_take2 (i := 0) (j := 0) (n := m) rfl rfl ?_ (by rw [g4]; omega) (by rw [l4]; omega) ?_
  · simp [m_fv, m_fr, m_ft, m_nth, m_up, m_mv, hne, hm, k_b5]
  refine h _ ?_
  refine ⟨?_, ?_, ?_, ?_, rfl⟩
  · intro j hj
    rcases (show j = 0 ∨ j = 1 ∨ j = 2 ∨ j = 3 ∨ j = 4 ∨ j = 5 ∨ j = 6 ∨ j = 7 ∨ j = 8 ∨ j = 9 by omega) with rfl | rfl | rfl | rfl | rfl | rfl | rfl | rfl | rfl | rfl <;> simp [m_up, m_mv, hne, k_b5]
  · intro k p hk hp
    rcases (show k = 0 ∨ k = 1 ∨ k = 2 ∨ k = 3 by omega) with rfl | rfl | rfl | rfl
    · show (m_mv _ _ _ _ _ _).1 12 (5 * v) p = σ.1 12 (5 * w) p
      rw [m_mv_other (by omega), m_mv_other (by omega), m_mv_other (by omega), m_mv_other (by omega), m_mv_in hp]
      rfl
    · show (m_mv _ _ _ _ _ _).1 12 (5 * v + 1) p = σ.1 12 (5 * w + 1) p
      rw [m_mv_other (by omega), m_mv_other (by omega), m_mv_other (by omega), m_mv_in hp, m_mv_other (by omega)]
      rfl
    · show (m_mv _ _ _ _ _ _).1 12 (5 * v + 2) p = σ.1 12 (5 * w + 2) p
      rw [m_mv_other (by omega), m_mv_other (by omega), m_mv_in hp, m_mv_other (by omega), m_mv_other (by omega)]
      rfl
    · show (m_mv _ _ _ _ _ _).1 12 (5 * v + 3) p = σ.1 12 (5 * w + 3) p
      rw [m_mv_other (by omega), m_mv_in hp, m_mv_other (by omega), m_mv_other (by omega), m_mv_other (by omega)]
      rfl
  · intro i hi
    rw [m_mv_in hi, m_mv_other (by omega), m_mv_other (by omega), m_mv_other (by omega), m_mv_other (by omega)]
    rfl
  · intro c u h1 h2
    rw [m_mv_other (by omega), m_mv_other (by omega), m_mv_other (by omega), m_mv_other (by omega), m_mv_other (by omega)]
    rw [m_up_other h1, m_up_other h1, m_up_other h1, m_up_other h1, m_up_other h1, m_up_other h1, m_up_other h1, m_up_other h1, m_up_other h1, m_up_other h1]
/-- n of the model's numbers, from row b, place i, to row a, place j -/
def m_cp (σ : m_M) (a b i j n : Nat) : m_M := (fun c u t => if c = 13 ∧ u = a ∧ j ≤ t ∧ t < j + n then σ.1 13 b (i + (t - j)) else σ.1 c u t, σ.2)
theorem m_cp_other {σ : m_M} {a b i j n c u : Nat} (h : ¬ (c = 13 ∧ u = a)) : (m_cp σ a b i j n).1 c u = σ.1 c u := by
  funext t
  simp only [m_cp]
  rw [if_neg (fun q => h ⟨q.1, q.2.1⟩)]
theorem m_cp_in {σ : m_M} {a b i j n t : Nat} (h1 : j ≤ t) (h2 : t < j + n) : (m_cp σ a b i j n).1 13 a t = σ.1 13 b (i + (t - j)) := by
  show (if 13 = 13 ∧ a = a ∧ j ≤ t ∧ t < j + n then σ.1 13 b (i + (t - j)) else σ.1 13 a t) = _
  rw [if_pos ⟨rfl, rfl, h1, h2⟩]
theorem m_cp_out {σ : m_M} {a b i j n t : Nat} (h : t < j ∨ j + n ≤ t) : (m_cp σ a b i j n).1 13 a t = σ.1 13 a t := by
  show (if 13 = 13 ∧ a = a ∧ j ≤ t ∧ t < j + n then σ.1 13 b (i + (t - j)) else σ.1 13 a t) = _
  rw [if_neg (by omega)]
theorem m_cp_0 {σ : m_M} {a b i j : Nat} : m_cp σ a b i j 0 = σ := by
  refine Prod.ext ?_ rfl
  funext c u t
  simp only [m_cp]
  rw [if_neg (by omega)]
theorem m_cp_up {σ : m_M} {a b i j n : Nat} (h : ¬ b = a) : m_up (m_cp σ a b i j n) 13 a (j + n) ((m_cp σ a b i j n).1 13 b (i + n)) = m_cp σ a b i j (n + 1) := by
  rw [show (m_cp σ a b i j n).1 13 b = σ.1 13 b from m_cp_other (by omega)]
  refine Prod.ext ?_ rfl
  funext c u t
  simp only [m_up, m_cp]
  by_cases h1 : c = 13 ∧ u = a
  · obtain ⟨rfl, rfl⟩ := h1
    by_cases h2 : t = j + n
    · subst h2
      rw [if_pos ⟨rfl, rfl, rfl⟩, if_pos ⟨rfl, rfl, by omega, by omega⟩, show j + n - j = n by omega]
    · rw [if_neg (by omega)]
      by_cases h3 : j ≤ t ∧ t < j + n
      · rw [if_pos ⟨rfl, rfl, h3⟩, if_pos ⟨rfl, rfl, by omega, by omega⟩]
      · rw [if_neg (by omega), if_neg (by omega)]
  · rw [if_neg (by omega), if_neg (by omega), if_neg (by omega)]
/-- the model copies its town -/
theorem s_mimg {E : m_E} {r k : Nat} {σ : m_M} {Q : m_F → Prop} (hk : k < 2) (hq : m_T E 65535 r 144 (61, [some (vR 6 0), some (vI (nI k)), some (vI (nI 309))], [], m_cp σ 6 3 0 (309 * k) 309) Q) : m_T E 65535 r 144 (28, [some (vR 6 0), some (vI (nI k)), none], [], σ) Q := by
  have e309 : ∀ t : Nat, (Int16.ofInt 309).toInt32 * nI k + nI t = nI (309 * k + t) := fun t => by
    rw [show (Int16.ofInt 309).toInt32 = nI 309 from rfl, pk_mul, nI_add]
  have key : ∀ n t, t + n = 309 → m_T E 65535 r 144 (30, [some (vR 6 0), some (vI (nI k)), some (vI (nI t))], [], m_cp σ 6 3 0 (309 * k) t) Q := by
    intro n
    induction n with
    | zero =>
      intro t ht
      refine m_T_un 40 (fun y pc => Nat.beq y 144 && Nat.beq pc 61) ?_
      refine ⟨fun _ => ?_, fun c => ?_⟩
      · have e : t = 309 := by omega
        subst e
        exact hq
      · have c : ¬ nI 309 ≤ nI t := c
        exact absurd (nI_le (show 309 ≤ t by omega) (by omega)) c
    | succ n ih =>
      intro t ht
      refine m_T_un 40 (fun y pc => Nat.beq y 144 && Nat.beq pc 30) ?_
      refine ⟨fun c => ?_, fun _ => ⟨k_in (k := t) (n := 309) (by omega) (by decide), ?_⟩⟩
      · have c : nI 309 ≤ nI t := c
        exact absurd c (nI_ge (show t < 309 by omega) (by decide))
      · refine ⟨show vp_in ((Int16.ofInt 309).toInt32 * nI k + nI t) 618 by rw [e309]; exact k_in (by omega) (by decide), ?_⟩
        have h := ih (t + 1) (by omega)
        rw [nI_succ, ← m_cp_up (by decide), Nat.zero_add] at h
        have h2 : m_T E 65535 r 144 (30, [some (vR 6 0), some (vI (nI k)), some (vI (nI t + 1))], [], m_up (m_cp σ 6 3 0 (309 * k) t) 13 6 ((Int16.ofInt 309).toInt32 * nI k + nI t).toNatClampNeg ((m_cp σ 6 3 0 (309 * k) t).1 13 3 (nI t).toNatClampNeg)) Q := by
          rw [e309, k_cl (by omega), k_cl (by omega)]
          exact h
        exact h2
  refine m_T_un 40 (fun y pc => Nat.beq y 144 && Nat.beq pc 30) ?_
  have h := key 309 0 (by omega)
  rw [m_cp_0] at h
  exact h
theorem s_mres {E : m_E} {r k : Nat} {σ : m_M} {Q : m_F → Prop} (hk : k < 2) (hq : Q (0, [], [vI (nI 1)], m_cp σ 3 6 (309 * k) 0 309)) : m_T E 65535 r 145 (30, [some (vR 6 0), some (vI (nI k)), none], [], σ) Q := by
  have e309 : ∀ t : Nat, (Int16.ofInt 309).toInt32 * nI k + nI t = nI (309 * k + t) := fun t => by
    rw [show (Int16.ofInt 309).toInt32 = nI 309 from rfl, pk_mul, nI_add]
  have key : ∀ n t, t + n = 309 → m_T E 65535 r 145 (32, [some (vR 6 0), some (vI (nI k)), some (vI (nI t))], [], m_cp σ 3 6 (309 * k) 0 t) Q := by
    intro n
    induction n with
    | zero =>
      intro t ht
      refine m_T_un 40 m_no ?_
      refine ⟨fun _ => ?_, fun c => ?_⟩
      · have e : t = 309 := by omega
        subst e
        exact hq
      · have c : ¬ nI 309 ≤ nI t := c
        exact absurd (nI_le (show 309 ≤ t by omega) (by omega)) c
    | succ n ih =>
      intro t ht
      refine m_T_un 40 (fun y pc => Nat.beq y 145 && Nat.beq pc 32) ?_
      refine ⟨fun c => ?_, fun _ => ⟨show vp_in ((Int16.ofInt 309).toInt32 * nI k + nI t) 618 by rw [e309]; exact k_in (by omega) (by decide), ⟨k_in (k := t) (n := 309) (by omega) (by decide), ?_⟩⟩⟩
      · have c : nI 309 ≤ nI t := c
        exact absurd c (nI_ge (show t < 309 by omega) (by decide))
      · have h := ih (t + 1) (by omega)
        rw [nI_succ, ← m_cp_up (by decide), Nat.zero_add] at h
        have h2 : m_T E 65535 r 145 (32, [some (vR 6 0), some (vI (nI k)), some (vI (nI t + 1))], [], m_up (m_cp σ 3 6 (309 * k) 0 t) 13 3 (nI t).toNatClampNeg ((m_cp σ 3 6 (309 * k) 0 t).1 13 6 ((Int16.ofInt 309).toInt32 * nI k + nI t).toNatClampNeg)) Q := by
          rw [e309, k_cl (by omega), k_cl (by omega)]
          exact h
        exact h2
  refine m_T_un 40 (fun y pc => Nat.beq y 145 && Nat.beq pc 32) ?_
  have h := key 309 0 (by omega)
  rw [m_cp_0] at h
  exact h
