/-! the text: its tokens; the class's next -/
def t_rn (P : Nat → Bool) (B : Nat → Nat) (n : Nat) : Nat → Nat → Nat
  | 0, e => e
  | k + 1, e => if P (B e) = true then t_rn P B n k (e + 1) else e
def t_sp (b : Nat) : Bool := Nat.beq b 32 || Nat.beq b 10
def t_to (b : Nat) : Nat := if 97 ≤ b ∧ b ≤ 122 then 1 else if 48 ≤ b ∧ b ≤ 57 then 2 else if b = 59 then 3 else 4
def t_is (c b : Nat) : Bool := Nat.beq (t_to b) c
def t_f (B : Nat → Nat) (n e : Nat) : Nat := t_rn t_sp B n (n - e) e
def t_g (B : Nat → Nat) (n f : Nat) : Nat := if n ≤ f then f else if t_to (B f) = 1 ∨ t_to (B f) = 2 then t_rn (t_is (t_to (B f))) B n (n - (f + 1)) (f + 1) else f + 1
def t_u (B : Nat → Nat) (n f : Nat) : Nat := if n ≤ f then 0 else if t_to (B f) = 2 ∧ 3 < t_g B n f - f then 4 else t_to (B f)
/-- where the token begins, ends, which it is, the fault -/
abbrev t_S : Type := Nat × Nat × Nat × Nat
def t_nx (B : Nat → Nat) (n : Nat) (S : t_S) : t_S := (t_f B n S.2.1, t_g B n (t_f B n S.2.1), t_u B n (t_f B n S.2.1), S.2.2.2)
def t_ok (B : Nat → Nat) (n : Nat) (S : t_S) : Prop := S.1 ≤ S.2.1 ∧ S.2.1 ≤ n ∧ S.2.2.1 ≤ 4 ∧ S.2.2.2 ≤ 3 ∧ (S.2.2.1 = 1 ∨ S.2.2.1 = 2 → ∀ i, S.1 ≤ i → i < S.2.1 → t_to (B i) = S.2.2.1) ∧ (S.2.2.1 = 2 → S.2.1 ≤ S.1 + 3) ∧ (S.2.2.1 = 1 → S.1 < S.2.1)
theorem t_rn_le {P : Nat → Bool} {B : Nat → Nat} {n : Nat} : ∀ k e, e ≤ t_rn P B n k e ∧ t_rn P B n k e ≤ e + k
  | 0, e => ⟨Nat.le_refl e, Nat.le_refl e⟩
  | k + 1, e => by
    have h := t_rn_le (P := P) (B := B) (n := n) k (e + 1)
    unfold t_rn
    split <;> omega
theorem t_rn_all {P : Nat → Bool} {B : Nat → Nat} {n : Nat} : ∀ k e i, e ≤ i → i < t_rn P B n k e → P (B i) = true
  | 0, e, i, h1, h2 => by
    have h2 : i < e := h2
    omega
  | k + 1, e, i, h1, h2 => by
    unfold t_rn at h2
    by_cases g : P (B e) = true
    · rw [if_pos g] at h2
      by_cases g2 : i = e
      · rw [g2]; exact g
      · exact t_rn_all k (e + 1) i (by omega) h2
    · rw [if_neg g] at h2
      omega
theorem t_to_le (b : Nat) : 1 ≤ t_to b ∧ t_to b ≤ 4 := by
  unfold t_to
  split
  · omega
  · split
    · omega
    · split <;> omega
theorem t_is_iff {c b : Nat} : t_is c b = true ↔ t_to b = c := by
  unfold t_is
  exact Iff.of_eq Nat.beq_eq
theorem t_nx_ok0 {B : Nat → Nat} {n : Nat} {S : t_S} (h2 : S.2.1 ≤ n) (h4 : S.2.2.2 ≤ 3) : t_ok B n (t_nx B n S) := by
  have a := t_rn_le (P := t_sp) (B := B) (n := n) (n - S.2.1) S.2.1
  have hf : t_f B n S.2.1 = t_rn t_sp B n (n - S.2.1) S.2.1 := rfl
  show t_f B n S.2.1 ≤ t_g B n (t_f B n S.2.1) ∧ t_g B n (t_f B n S.2.1) ≤ n ∧ t_u B n (t_f B n S.2.1) ≤ 4 ∧ S.2.2.2 ≤ 3 ∧ (t_u B n (t_f B n S.2.1) = 1 ∨ t_u B n (t_f B n S.2.1) = 2 → ∀ i, t_f B n S.2.1 ≤ i → i < t_g B n (t_f B n S.2.1) → t_to (B i) = t_u B n (t_f B n S.2.1)) ∧ (t_u B n (t_f B n S.2.1) = 2 → t_g B n (t_f B n S.2.1) ≤ t_f B n S.2.1 + 3) ∧ (t_u B n (t_f B n S.2.1) = 1 → t_f B n S.2.1 < t_g B n (t_f B n S.2.1))
  have hfn : t_f B n S.2.1 ≤ n := by omega
  generalize t_f B n S.2.1 = f at hfn
  have u := t_to_le (B f)
  by_cases g : n ≤ f
  · have e1 : t_g B n f = f := if_pos g
    have e2 : t_u B n f = 0 := if_pos g
    rw [e1, e2]
    exact ⟨Nat.le_refl f, hfn, by omega, h4, fun q => by omega, fun q => by omega, fun q => by omega⟩
  · have b := t_rn_le (P := t_is (t_to (B f))) (B := B) (n := n) (n - (f + 1)) (f + 1)
    have c := t_rn_all (P := t_is (t_to (B f))) (B := B) (n := n) (n - (f + 1)) (f + 1)
    have e1 : t_g B n f = if t_to (B f) = 1 ∨ t_to (B f) = 2 then t_rn (t_is (t_to (B f))) B n (n - (f + 1)) (f + 1) else f + 1 := if_neg g
    have e2 : t_u B n f = if t_to (B f) = 2 ∧ 3 < t_g B n f - f then 4 else t_to (B f) := if_neg g
    have d : f + 1 ≤ t_g B n f ∧ t_g B n f ≤ n := by
      rw [e1]
      split <;> omega
    refine ⟨by omega, d.2, by rw [e2]; split <;> omega, h4, fun q i hi1 hi2 => ?_, fun q => ?_, fun _ => by omega⟩
    · have e3 : t_u B n f = t_to (B f) := by
        rw [e2] at q ⊢
        by_cases g2 : t_to (B f) = 2 ∧ 3 < t_g B n f - f
        · rw [if_pos g2] at q
          omega
        · rw [if_neg g2]
      rw [e3] at q ⊢
      rw [e1, if_pos q] at hi2
      by_cases g3 : i = f
      · rw [g3]
      · exact t_is_iff.mp (c i (by omega) hi2)
    · rw [e2] at q
      by_cases g2 : t_to (B f) = 2 ∧ 3 < t_g B n f - f
      · rw [if_pos g2] at q
        omega
      · rw [if_neg g2] at q
        omega
theorem t_nx_ok {B : Nat → Nat} {n : Nat} {S : t_S} (h : t_ok B n S) : t_ok B n (t_nx B n S) := t_nx_ok0 h.2.1 h.2.2.2.1
/-- the class's reading: what the tape's fields hold -/
def p_F (σ τ : m_M) (n f e t ft : Nat) : Prop := τ.1 4 0 1 = nI n ∧ τ.1 4 0 2 = nI f ∧ τ.1 4 0 3 = nI e ∧ τ.1 4 0 4 = nI t ∧ τ.1 4 0 5 = nI ft ∧ ∀ c v, ¬ (c = 4 ∧ v = 0) → τ.1 c v = σ.1 c v
def p_C (σ τ : m_M) (n : Nat) (S : t_S) : Prop := p_F σ τ n S.1 S.2.1 S.2.2.1 S.2.2.2
theorem p_F2 {σ τ : m_M} {n f e t ft f' : Nat} {x : Int32} (h : p_F σ τ n f e t ft) (hx : x = nI f') : p_F σ (m_up τ 4 0 2 x) n f' e t ft := ⟨(m_up_ne (by omega)).trans h.1, (m_up_eq rfl).trans hx, (m_up_ne (by omega)).trans h.2.2.1, (m_up_ne (by omega)).trans h.2.2.2.1, (m_up_ne (by omega)).trans h.2.2.2.2.1, fun c v g => (m_up_other g).trans (h.2.2.2.2.2 c v g)⟩
theorem p_F3 {σ τ : m_M} {n f e t ft e' : Nat} {x : Int32} (h : p_F σ τ n f e t ft) (hx : x = nI e') : p_F σ (m_up τ 4 0 3 x) n f e' t ft := ⟨(m_up_ne (by omega)).trans h.1, (m_up_ne (by omega)).trans h.2.1, (m_up_eq rfl).trans hx, (m_up_ne (by omega)).trans h.2.2.2.1, (m_up_ne (by omega)).trans h.2.2.2.2.1, fun c v g => (m_up_other g).trans (h.2.2.2.2.2 c v g)⟩
theorem p_F4 {σ τ : m_M} {n f e t ft t' : Nat} {x : Int32} (h : p_F σ τ n f e t ft) (hx : x = nI t') : p_F σ (m_up τ 4 0 4 x) n f e t' ft := ⟨(m_up_ne (by omega)).trans h.1, (m_up_ne (by omega)).trans h.2.1, (m_up_ne (by omega)).trans h.2.2.1, (m_up_eq rfl).trans hx, (m_up_ne (by omega)).trans h.2.2.2.2.1, fun c v g => (m_up_other g).trans (h.2.2.2.2.2 c v g)⟩
theorem p_F5 {σ τ : m_M} {n f e t ft ft' : Nat} {x : Int32} (h : p_F σ τ n f e t ft) (hx : x = nI ft') : p_F σ (m_up τ 4 0 5 x) n f e t ft' := ⟨(m_up_ne (by omega)).trans h.1, (m_up_ne (by omega)).trans h.2.1, (m_up_ne (by omega)).trans h.2.2.1, (m_up_ne (by omega)).trans h.2.2.2.1, (m_up_eq rfl).trans hx, fun c v g => (m_up_other g).trans (h.2.2.2.2.2 c v g)⟩
section CNext
variable {E : m_E} {r : Nat} {σ : m_M} {Q : m_F → Prop} {B : Nat → Nat} {n : Nat}
theorem s_tof {τ : m_M} {b : Nat} {x : Int32} (hb : b < 256) (hx : x = nI b) (hq : Q (0, [], [vI (nI (t_to b))], τ)) : m_T E 65535 r 59 (0, [some (vI x)], [], τ) Q := by
  subst hx
  have t1 : 97 ≤ b ∧ b ≤ 122 → Q (0, [], [vI (nI 1)], τ) := fun h => by
    rw [show t_to b = 1 from if_pos h] at hq
    exact hq
  have t2 : ¬ (97 ≤ b ∧ b ≤ 122) → 48 ≤ b ∧ b ≤ 57 → Q (0, [], [vI (nI 2)], τ) := fun h h2 => by
    rw [show t_to b = 2 from (if_neg h).trans (if_pos h2)] at hq
    exact hq
  have t3 : ¬ (97 ≤ b ∧ b ≤ 122) → ¬ (48 ≤ b ∧ b ≤ 57) → b = 59 → Q (0, [], [vI (nI 3)], τ) := fun h h2 h3 => by
    rw [show t_to b = 3 from (if_neg h).trans ((if_neg h2).trans (if_pos h3))] at hq
    exact hq
  have t4 : ¬ (97 ≤ b ∧ b ≤ 122) → ¬ (48 ≤ b ∧ b ≤ 57) → ¬ b = 59 → Q (0, [], [vI (nI 4)], τ) := fun h h2 h3 => by
    rw [show t_to b = 4 from (if_neg h).trans ((if_neg h2).trans (if_neg h3))] at hq
    exact hq
  have lt : ∀ c : Nat, c < 256 → ((nI b < nI c) ↔ b < c) := fun c hc => nI_ltI (by omega) (by omega)
  have eq : (nI b = nI 59) ↔ b = 59 := nI_eq (by omega) (by omega)
  have tail : ¬ (97 ≤ b ∧ b ≤ 122) → m_T E 65535 r 59 (14, [some (vI (nI b))], [], τ) Q := fun h => by
    refine m_T_un 40 m_no ?_
    refine ⟨fun q => ⟨fun q3 => ?_, fun q3 => ?_⟩, fun q => ⟨fun q2 => ⟨fun q3 => ?_, fun q3 => ?_⟩, fun q2 => ?_⟩⟩
    · have q : nI b < nI 48 := q
      rw [lt 48 (by omega)] at q
      exact t4 h (by omega) (fun g => q3 (congrArg nI g))
    · have q : nI b < nI 48 := q
      rw [lt 48 (by omega)] at q
      exact t3 h (by omega) (eq.mp q3)
    · have q2 : nI 57 < nI b := q2
      rw [nI_ltI (by omega) (by omega)] at q2
      exact t4 h (by omega) (fun g => q3 (congrArg nI g))
    · have q2 : nI 57 < nI b := q2
      rw [nI_ltI (by omega) (by omega)] at q2
      exact t3 h (by omega) (eq.mp q3)
    · have q : ¬ nI b < nI 48 := q
      have q2 : ¬ nI 57 < nI b := q2
      rw [lt 48 (by omega)] at q
      rw [nI_ltI (by omega) (by omega)] at q2
      exact t2 h (by omega)
  refine m_T_un 40 (fun y pc => Nat.beq y 59 && Nat.beq pc 14) ?_
  refine ⟨fun q => ?_, fun q => ⟨fun q2 => ?_, fun q2 => ?_⟩⟩
  · have q : nI b < nI 97 := q
    rw [lt 97 (by omega)] at q
    exact tail (by omega)
  · have q2 : nI 122 < nI b := q2
    rw [nI_ltI (by omega) (by omega)] at q2
    exact tail (by omega)
  · have q : ¬ nI b < nI 97 := q
    have q2 : ¬ nI 122 < nI b := q2
    rw [lt 97 (by omega)] at q
    rw [nI_ltI (by omega) (by omega)] at q2
    exact t1 (by omega)
theorem s_skp (hn : n ≤ 500) (hB : ∀ j, j < n → σ.1 12 28 j = nI (B j) ∧ B j < 256) {e t ft : Nat} : ∀ k f τ, f + k = n → p_F σ τ n f e t ft → (∀ τ', p_F σ τ' n (t_rn t_sp B n k f) e t ft → m_T E 65535 (r + 1) 58 (64, [some (vR 4 0)], [], τ') Q) → m_T E 65535 (r + 1) 58 (8, [some (vR 4 0)], [], τ) Q := by
  intro k
  induction k with
  | zero =>
    intro f τ hf hF hq
    obtain ⟨h1, h2, -⟩ := id hF
    refine m_T_un 40 (fun y pc => (Nat.beq y 58 && (Nat.beq pc 8 || Nat.beq pc 64)) || Nat.beq y 50) ?_
    refine ⟨fun _ => hq τ hF, fun q => ?_⟩
    have q : ¬ τ.1 4 0 1 ≤ τ.1 4 0 2 := q
    rw [h1, h2] at q
    exact absurd (nI_le (by omega) (by omega)) q
  | succ k ih =>
    intro f τ hf hF hq
    obtain ⟨h1, h2, h3, h4, h5, h6⟩ := id hF
    obtain ⟨b1, b2⟩ := hB f (by omega)
    have hb : τ.1 12 28 f = nI (B f) := by rw [h6 12 28 (by omega)]; exact b1
    have go : t_sp (B f) = true → m_T E 65535 (r + 1) 58 (51, [some (vR 4 0)], [], τ) Q := fun g => by
      refine m_T_un 40 (fun y pc => (Nat.beq y 58 && (Nat.beq pc 8 || Nat.beq pc 64)) || Nat.beq y 50) ?_
      exact ih (f + 1) _ (by omega) (p_F2 hF (by show τ.1 4 0 2 + nI 1 = _; rw [h2, nI_add])) (fun τ' h => hq τ' (by rw [show t_rn t_sp B n (k + 1) f = t_rn t_sp B n k (f + 1) from if_pos g]; exact h))
    have stop : t_sp (B f) = false → m_T E 65535 (r + 1) 58 (64, [some (vR 4 0)], [], τ) Q := fun g => hq τ (by rw [show t_rn t_sp B n (k + 1) f = f from if_neg (by rw [g]; decide)]; exact hF)
    refine m_T_un 40 (fun y pc => (Nat.beq y 58 && (Nat.beq pc 8 || Nat.beq pc 64 || Nat.beq pc 51)) || Nat.beq y 50) ?_
    refine ⟨fun q => ?_, fun _ => ?_⟩
    · have q : τ.1 4 0 1 ≤ τ.1 4 0 2 := q
      rw [h1, h2] at q
      exact absurd q (nI_ge (by omega) (by omega))
    refine s_at (v := 28) f h2 (show f < 500 by omega) ⟨fun q => ?_, fun q => ?_⟩
    · have q : τ.1 12 28 f = nI 32 := q
      rw [hb, nI_eq (by omega) (by omega)] at q
      exact go (by rw [q]; rfl)
    · have q : ¬ τ.1 12 28 f = nI 32 := q
      rw [hb, nI_eq (by omega) (by omega)] at q
      refine s_at (v := 28) f h2 (show f < 500 by omega) ⟨fun q2 => ?_, fun q2 => ?_⟩
      · have q2 : ¬ τ.1 12 28 f = nI 10 := q2
        rw [hb, nI_eq (by omega) (by omega)] at q2
        refine stop ?_
        unfold t_sp
        rw [show Nat.beq (B f) 32 = false from Bool.eq_false_iff.mpr (fun h => q (Nat.eq_of_beq_eq_true h)), show Nat.beq (B f) 10 = false from Bool.eq_false_iff.mpr (fun h => q2 (Nat.eq_of_beq_eq_true h))]
        rfl
      · have q2 : τ.1 12 28 f = nI 10 := q2
        rw [hb, nI_eq (by omega) (by omega)] at q2
        exact go (by rw [q2]; rfl)
theorem s_run (hn : n ≤ 500) (hB : ∀ j, j < n → σ.1 12 28 j = nI (B j) ∧ B j < 256) {f t ft : Nat} (ht : t ≤ 4) : ∀ k e τ, e + k = n → p_F σ τ n f e t ft → (∀ τ', p_F σ τ' n f (t_rn (t_is t) B n k e) t ft → m_T E 65535 (r + 1) 58 (178, [some (vR 4 0)], [], τ') Q) → m_T E 65535 (r + 1) 58 (133, [some (vR 4 0)], [], τ) Q := by
  intro k
  induction k with
  | zero =>
    intro e τ he hF hq
    obtain ⟨h1, h2, h3, -⟩ := id hF
    refine m_T_un 40 (fun y pc => (Nat.beq y 58 && (Nat.beq pc 133 || Nat.beq pc 178)) || Nat.beq y 50 || Nat.beq y 59) ?_
    refine ⟨fun _ => hq τ hF, fun q => ?_⟩
    have q : ¬ τ.1 4 0 1 ≤ τ.1 4 0 3 := q
    rw [h1, h3] at q
    exact absurd (nI_le (by omega) (by omega)) q
  | succ k ih =>
    intro e τ he hF hq
    obtain ⟨h1, h2, h3, h4, h5, h6⟩ := id hF
    obtain ⟨b1, b2⟩ := hB e (by omega)
    have hb : τ.1 12 28 e = nI (B e) := by rw [h6 12 28 (by omega)]; exact b1
    have u := t_to_le (B e)
    refine m_T_un 40 (fun y pc => (Nat.beq y 58 && (Nat.beq pc 133 || Nat.beq pc 178)) || Nat.beq y 50 || Nat.beq y 59) ?_
    refine ⟨fun q => ?_, fun _ => ?_⟩
    · have q : τ.1 4 0 1 ≤ τ.1 4 0 3 := q
      rw [h1, h3] at q
      exact absurd q (nI_ge (by omega) (by omega))
    refine s_at (v := 28) e h3 (show e < 500 by omega) ?_
    refine s_tof b2 hb ⟨fun q => ?_, fun q => ?_⟩
    · have q : ¬ nI (t_to (B e)) = τ.1 4 0 4 := q
      rw [h4, nI_eq (by omega) (by omega)] at q
      exact hq τ (by rw [show t_rn (t_is t) B n (k + 1) e = e from if_neg (fun h => q (t_is_iff.mp h))]; exact hF)
    · have q : nI (t_to (B e)) = τ.1 4 0 4 := q
      rw [h4, nI_eq (by omega) (by omega)] at q
      exact ih (e + 1) _ (by omega) (p_F3 hF (by show τ.1 4 0 3 + nI 1 = _; rw [h3, nI_add])) (fun τ' h => hq τ' (by rw [show t_rn (t_is t) B n (k + 1) e = t_rn (t_is t) B n k (e + 1) from if_pos (t_is_iff.mpr q)]; exact h))
theorem s_cnx0 {S : t_S} {τ : m_M} (hn : n ≤ 500) (hB : ∀ j, j < n → σ.1 12 28 j = nI (B j) ∧ B j < 256) (s2 : S.2.1 ≤ n) (hC : p_C σ τ n S) (hq : ∀ τ', p_C σ τ' n (t_nx B n S) → Q (0, [], [], τ')) : m_T E 65535 (r + 1) 58 (0, [some (vR 4 0)], [], τ) Q := by
  refine m_T_un 40 (fun y pc => (Nat.beq y 58 && Nat.beq pc 8)) ?_
  refine s_skp hn hB (e := S.2.1) (t := S.2.2.1) (ft := S.2.2.2) (n - S.2.1) S.2.1 _ (by omega) (p_F2 hC hC.2.2.1) (fun τ1 F1 => ?_)
  have a := t_rn_le (P := t_sp) (B := B) (n := n) (n - S.2.1) S.2.1
  have hq : ∀ τ', p_F σ τ' n (t_f B n S.2.1) (t_g B n (t_f B n S.2.1)) (t_u B n (t_f B n S.2.1)) S.2.2.2 → Q (0, [], [], τ') := hq
  have F1 : p_F σ τ1 n (t_f B n S.2.1) S.2.1 S.2.2.1 S.2.2.2 := F1
  have hfn : t_f B n S.2.1 ≤ n := by show t_rn t_sp B n (n - S.2.1) S.2.1 ≤ n; omega
  generalize t_f B n S.2.1 = f at hq F1 hfn
  obtain ⟨h1, h2, h3, h4, h5, h6⟩ := id F1
  have fin : ∀ (τ : m_M) (e t : Nat), e ≤ n → t ≤ 4 → p_F σ τ n f e t S.2.2.2 → (∀ τ', p_F σ τ' n f e (if t = 2 ∧ 3 < e - f then 4 else t) S.2.2.2 → Q (0, [], [], τ')) → f ≤ e → m_T E 65535 (r + 1) 58 (178, [some (vR 4 0)], [], τ) Q := fun τ e t he ht F hq hfe => by
    obtain ⟨i1, i2, i3, i4, i5, i6⟩ := id F
    refine m_T_un 40 m_no ?_
    refine ⟨fun q => ?_, fun q => ⟨fun q2 => ?_, fun q2 => ?_⟩⟩
    · have q : ¬ τ.1 4 0 4 = nI 2 := q
      rw [i4, nI_eq (by omega) (by omega)] at q
      exact hq τ (by rw [if_neg (fun h => q h.1)]; exact F)
    · have q2 : τ.1 4 0 3 - τ.1 4 0 2 ≤ nI 3 := q2
      rw [i2, i3, pk_sub hfe, nI_leI (by omega) (by omega)] at q2
      exact hq τ (by rw [if_neg (by omega)]; exact F)
    · have q : τ.1 4 0 4 = nI 2 := q
      have q2 : ¬ τ.1 4 0 3 - τ.1 4 0 2 ≤ nI 3 := q2
      rw [i4, nI_eq (by omega) (by omega)] at q
      rw [i2, i3, pk_sub hfe, nI_leI (by omega) (by omega)] at q2
      exact hq _ (by rw [if_pos ⟨q, by omega⟩]; exact p_F4 F rfl)
  refine m_T_un 60 (fun y pc => (Nat.beq y 58 && (Nat.beq pc 133 || Nat.beq pc 178)) || Nat.beq y 50 || Nat.beq y 59) ?_
  refine ⟨fun q => ?_, fun q => ?_⟩
  · have q : τ1.1 4 0 2 < τ1.1 4 0 1 := q
    rw [h1, h2, nI_ltI (by omega) (by omega)] at q
    obtain ⟨b1, b2⟩ := hB f (by omega)
    have hb : τ1.1 12 28 f = nI (B f) := by rw [h6 12 28 (by omega)]; exact b1
    have u := t_to_le (B f)
    have e1 : t_g B n f = if t_to (B f) = 1 ∨ t_to (B f) = 2 then t_rn (t_is (t_to (B f))) B n (n - (f + 1)) (f + 1) else f + 1 := if_neg (by omega)
    have e2 : t_u B n f = if t_to (B f) = 2 ∧ 3 < t_g B n f - f then 4 else t_to (B f) := if_neg (by omega)
    refine s_at (v := 28) f h2 (show f < 500 by omega) ?_
    refine s_tof b2 hb ?_
    have F3 : p_F σ (m_up (m_up τ1 4 0 4 (nI (t_to (B f)))) 4 0 3 ((m_up τ1 4 0 4 (nI (t_to (B f)))).1 4 0 2 + Int32.ofInt 1)) n f (f + 1) (t_to (B f)) S.2.2.2 := p_F3 (p_F4 F1 rfl) (by rw [m_up_ne (by omega), h2, show Int32.ofInt 1 = nI 1 from rfl, nI_add])
    have run : t_to (B f) = 1 ∨ t_to (B f) = 2 → m_T E 65535 (r + 1) 58 (133, [some (vR 4 0)], [], m_up (m_up τ1 4 0 4 (nI (t_to (B f)))) 4 0 3 ((m_up τ1 4 0 4 (nI (t_to (B f)))).1 4 0 2 + Int32.ofInt 1)) Q := fun g => by
      refine s_run hn hB (f := f) (t := t_to (B f)) (ft := S.2.2.2) u.2 (n - (f + 1)) (f + 1) _ (by omega) F3 (fun τ4 F4 => ?_)
      have b := t_rn_le (P := t_is (t_to (B f))) (B := B) (n := n) (n - (f + 1)) (f + 1)
      rw [e1, if_pos g] at e2
      rw [e2, e1, if_pos g] at hq
      exact fin τ4 _ _ (by omega) u.2 F4 hq (by omega)
    refine ⟨fun q1 => run (Or.inl ((nI_eq (by omega) (by omega)).mp q1)), fun q1 => ⟨fun q2 => ?_, fun q2 => run (Or.inr ((nI_eq (by omega) (by omega)).mp q2))⟩⟩
    have q1 : ¬ nI (t_to (B f)) = nI 1 := q1
    have q2 : ¬ nI (t_to (B f)) = nI 2 := q2
    rw [nI_eq (by omega) (by omega)] at q1 q2
    rw [e1, if_neg (by omega)] at e2
    rw [e2, e1, if_neg (by omega)] at hq
    exact fin _ (f + 1) _ (by omega) u.2 F3 (by rw [if_neg (fun h => q2 h.1)]; exact hq) (by omega)
  · have q : ¬ τ1.1 4 0 2 < τ1.1 4 0 1 := q
    rw [h1, h2, nI_ltI (by omega) (by omega)] at q
    rw [show t_g B n f = f from if_pos (by omega), show t_u B n f = 0 from if_pos (by omega)] at hq
    exact hq _ (p_F3 (p_F4 F1 rfl) (by rw [m_up_ne (by omega)]; exact h2))
theorem s_cnx {S : t_S} {τ : m_M} (hn : n ≤ 500) (hB : ∀ j, j < n → σ.1 12 28 j = nI (B j) ∧ B j < 256) (hS : t_ok B n S) (hC : p_C σ τ n S) (hq : ∀ τ', p_C σ τ' n (t_nx B n S) → Q (0, [], [], τ')) : m_T E 65535 (r + 1) 58 (0, [some (vR 4 0)], [], τ) Q := s_cnx0 hn hB hS.2.1 hC hq
end CNext
