/-! the text: the model's next -/
def t_mt (t : Nat) : Nat := if t = 4 then 0 else t + 1
def p_N (μ τ : m_M) (n c tk f tl ft : Nat) (fa : Int32) : Prop := (τ.1 6 0 11 = nI n ∧ τ.1 6 0 12 = nI c ∧ τ.1 6 0 13 = nI tk ∧ τ.1 6 0 14 = nI f ∧ τ.1 6 0 15 = nI tl ∧ τ.1 6 0 16 = nI ft ∧ τ.1 6 0 17 = fa) ∧ (∀ j, (j < 12 ∨ 17 < j) → τ.1 6 0 j = μ.1 6 0 j) ∧ (∀ c v, ¬ (c = 6 ∧ v = 0) → τ.1 c v = μ.1 c v)
def p_M (μ τ : m_M) (n : Nat) (S : t_S) : Prop := ∃ fa : Int32, p_N μ τ n S.2.1 (t_mt S.2.2.1) S.1 S.2.1 S.2.2.2 fa ∧ (¬ S.2.2.2 = 0 → fa = nI S.1)
section PN
variable {μ τ : m_M} {n c tk f tl ft y : Nat} {fa x : Int32}
theorem p_N12 (h : p_N μ τ n c tk f tl ft fa) (hx : x = nI y) : p_N μ (m_up τ 6 0 12 x) n y tk f tl ft fa := by
  obtain ⟨⟨h1, h2, h3, h4, h5, h6, h7⟩, h8, h9⟩ := h
  exact ⟨⟨(m_up_ne (by omega)).trans h1, (m_up_eq rfl).trans hx, (m_up_ne (by omega)).trans h3, (m_up_ne (by omega)).trans h4, (m_up_ne (by omega)).trans h5, (m_up_ne (by omega)).trans h6, (m_up_ne (by omega)).trans h7⟩, fun j g => (m_up_ne (by omega)).trans (h8 j g), fun c v g => (m_up_other g).trans (h9 c v g)⟩
theorem p_N13 (h : p_N μ τ n c tk f tl ft fa) (hx : x = nI y) : p_N μ (m_up τ 6 0 13 x) n c y f tl ft fa := by
  obtain ⟨⟨h1, h2, h3, h4, h5, h6, h7⟩, h8, h9⟩ := h
  exact ⟨⟨(m_up_ne (by omega)).trans h1, (m_up_ne (by omega)).trans h2, (m_up_eq rfl).trans hx, (m_up_ne (by omega)).trans h4, (m_up_ne (by omega)).trans h5, (m_up_ne (by omega)).trans h6, (m_up_ne (by omega)).trans h7⟩, fun j g => (m_up_ne (by omega)).trans (h8 j g), fun c v g => (m_up_other g).trans (h9 c v g)⟩
theorem p_N14 (h : p_N μ τ n c tk f tl ft fa) (hx : x = nI y) : p_N μ (m_up τ 6 0 14 x) n c tk y tl ft fa := by
  obtain ⟨⟨h1, h2, h3, h4, h5, h6, h7⟩, h8, h9⟩ := h
  exact ⟨⟨(m_up_ne (by omega)).trans h1, (m_up_ne (by omega)).trans h2, (m_up_ne (by omega)).trans h3, (m_up_eq rfl).trans hx, (m_up_ne (by omega)).trans h5, (m_up_ne (by omega)).trans h6, (m_up_ne (by omega)).trans h7⟩, fun j g => (m_up_ne (by omega)).trans (h8 j g), fun c v g => (m_up_other g).trans (h9 c v g)⟩
theorem p_N15 (h : p_N μ τ n c tk f tl ft fa) (hx : x = nI y) : p_N μ (m_up τ 6 0 15 x) n c tk f y ft fa := by
  obtain ⟨⟨h1, h2, h3, h4, h5, h6, h7⟩, h8, h9⟩ := h
  exact ⟨⟨(m_up_ne (by omega)).trans h1, (m_up_ne (by omega)).trans h2, (m_up_ne (by omega)).trans h3, (m_up_ne (by omega)).trans h4, (m_up_eq rfl).trans hx, (m_up_ne (by omega)).trans h6, (m_up_ne (by omega)).trans h7⟩, fun j g => (m_up_ne (by omega)).trans (h8 j g), fun c v g => (m_up_other g).trans (h9 c v g)⟩
theorem p_N16 (h : p_N μ τ n c tk f tl ft fa) (hx : x = nI y) : p_N μ (m_up τ 6 0 16 x) n c tk f tl y fa := by
  obtain ⟨⟨h1, h2, h3, h4, h5, h6, h7⟩, h8, h9⟩ := h
  exact ⟨⟨(m_up_ne (by omega)).trans h1, (m_up_ne (by omega)).trans h2, (m_up_ne (by omega)).trans h3, (m_up_ne (by omega)).trans h4, (m_up_ne (by omega)).trans h5, (m_up_eq rfl).trans hx, (m_up_ne (by omega)).trans h7⟩, fun j g => (m_up_ne (by omega)).trans (h8 j g), fun c v g => (m_up_other g).trans (h9 c v g)⟩
theorem p_N17 (h : p_N μ τ n c tk f tl ft fa) : p_N μ (m_up τ 6 0 17 x) n c tk f tl ft x := by
  obtain ⟨⟨h1, h2, h3, h4, h5, h6, h7⟩, h8, h9⟩ := h
  exact ⟨⟨(m_up_ne (by omega)).trans h1, (m_up_ne (by omega)).trans h2, (m_up_ne (by omega)).trans h3, (m_up_ne (by omega)).trans h4, (m_up_ne (by omega)).trans h5, (m_up_ne (by omega)).trans h6, m_up_eq rfl⟩, fun j g => (m_up_ne (by omega)).trans (h8 j g), fun c v g => (m_up_other g).trans (h9 c v g)⟩
end PN
section MNext
variable {E : m_E} {r : Nat} {μ : m_M} {Q : m_F → Prop} {B : Nat → Nat} {n : Nat}
theorem s_mb1 {τ : m_M} {k : Nat} {x : Int32} (hk : k < n) (hn : n ≤ 500) (h11 : τ.1 6 0 11 = nI n) (hb : τ.1 13 5 k = nI (B k)) (hx : x = nI k) (hq : Q (0, [], [vI (nI (B k))], τ)) : m_T E 65535 r 96 (0, [some (vR 6 0), some (vI x)], [], τ) Q := by
  subst hx
  rw [← hb, ← show (nI k).toNatClampNeg = k from k_cl (by omega)] at hq
  refine m_T_un 40 m_no ?_
  refine ⟨fun q => ?_, fun _ => ⟨k_in (n := 500) (by omega) (by decide), hq⟩⟩
  have q : τ.1 6 0 11 ≤ nI k := q
  rw [h11] at q
  exact absurd q (nI_ge hk (by omega))
theorem s_mb0 {τ : m_M} {k : Nat} {x : Int32} (hk : n ≤ k) (hk2 : k < 1000) (h11 : τ.1 6 0 11 = nI n) (hx : x = nI k) (hq : Q (0, [], [vI (-1000000)], τ)) : m_T E 65535 r 96 (0, [some (vR 6 0), some (vI x)], [], τ) Q := by
  subst hx
  refine m_T_un 40 m_no ?_
  refine ⟨fun _ => hq, fun q => ?_⟩
  have q : ¬ τ.1 6 0 11 ≤ nI k := q
  rw [h11] at q
  exact absurd (nI_le hk (by omega)) q
theorem s_mlt {τ : m_M} {b : Nat} {x : Int32} (hb : b < 256) (hx : x = nI b) (hq : Q (0, [], [vI (k_bit (t_is 1 b))], τ)) : m_T E 65535 r 97 (0, [some (vI x)], [], τ) Q := by
  subst hx
  have yes : 97 ≤ b ∧ b ≤ 122 → Q (0, [], [vI (Int32.ofInt 1)], τ) := fun h => by
    rw [show t_is 1 b = true from t_is_iff.mpr (if_pos h)] at hq
    exact hq
  have no : ¬ (97 ≤ b ∧ b ≤ 122) → Q (0, [], [vI (Int32.ofInt 0)], τ) := fun h => by
    rw [show t_is 1 b = false from Bool.eq_false_iff.mpr (fun g => h (t_to1 (t_is_iff.mp g)))] at hq
    exact hq
  refine m_T_un 40 m_no ?_
  refine ⟨fun q => ⟨Or.inl rfl, no ?_⟩, fun q => ⟨fun q2 => ⟨Or.inl rfl, no ?_⟩, fun q2 => ⟨Or.inr rfl, yes ?_⟩⟩⟩
  · have q : nI b < nI 97 := q
    rw [nI_ltI (by omega) (by omega)] at q
    omega
  · have q2 : nI 122 < nI b := q2
    rw [nI_ltI (by omega) (by omega)] at q2
    omega
  · have q : ¬ nI b < nI 97 := q
    have q2 : ¬ nI 122 < nI b := q2
    rw [nI_ltI (by omega) (by omega)] at q q2
    omega
theorem s_mfg {τ : m_M} {b : Nat} {x : Int32} (hb : b < 256) (hx : x = nI b) (hq : Q (0, [], [vI (k_bit (t_is 2 b))], τ)) : m_T E 65535 r 98 (0, [some (vI x)], [], τ) Q := by
  subst hx
  have yes : 48 ≤ b ∧ b ≤ 57 → Q (0, [], [vI (Int32.ofInt 1)], τ) := fun h => by
    rw [show t_is 2 b = true from t_is_iff.mpr ((if_neg (by omega)).trans (if_pos h))] at hq
    exact hq
  have no : ¬ (48 ≤ b ∧ b ≤ 57) → Q (0, [], [vI (Int32.ofInt 0)], τ) := fun h => by
    rw [show t_is 2 b = false from Bool.eq_false_iff.mpr (fun g => h (t_to2 (t_is_iff.mp g)))] at hq
    exact hq
  refine m_T_un 40 m_no ?_
  refine ⟨fun q => ⟨Or.inl rfl, no ?_⟩, fun q => ⟨fun q2 => ⟨Or.inl rfl, no ?_⟩, fun q2 => ⟨Or.inr rfl, yes ?_⟩⟩⟩
  · have q : nI b < nI 48 := q
    rw [nI_ltI (by omega) (by omega)] at q
    omega
  · have q2 : nI 57 < nI b := q2
    rw [nI_ltI (by omega) (by omega)] at q2
    omega
  · have q : ¬ nI b < nI 48 := q
    have q2 : ¬ nI 57 < nI b := q2
    rw [nI_ltI (by omega) (by omega)] at q q2
    omega
theorem s_ml0 {τ : m_M} (hq : Q (0, [], [vI (Int32.ofInt 0)], τ)) : m_T E 65535 r 97 (0, [some (vI (-1000000))], [], τ) Q := by
  refine m_T_un 40 m_no ?_
  exact ⟨fun _ => ⟨Or.inl rfl, hq⟩, fun q => absurd (by decide) q⟩
theorem s_mf0 {τ : m_M} (hq : Q (0, [], [vI (Int32.ofInt 0)], τ)) : m_T E 65535 r 98 (0, [some (vI (-1000000))], [], τ) Q := by
  refine m_T_un 40 m_no ?_
  exact ⟨fun _ => ⟨Or.inl rfl, hq⟩, fun q => absurd (by decide) q⟩
def k_mn : Nat → Nat → Bool := fun y _ => Nat.beq y 96 || Nat.beq y 97 || Nat.beq y 98
theorem s_msk (hn : n ≤ 500) (hB : ∀ j, j < n → μ.1 13 5 j = nI (B j) ∧ B j < 256) {tk f tl ft : Nat} {fa : Int32} : ∀ k c τ, c + k = n → p_N μ τ n c tk f tl ft fa → (∀ τ', p_N μ τ' n (t_rn t_sp B n k c) tk f tl ft fa → m_T E 65535 (r + 1) 95 (39, [some (vR 6 0), none], [], τ') Q) → m_T E 65535 (r + 1) 95 (0, [some (vR 6 0), none], [], τ) Q := by
  intro k
  induction k with
  | zero =>
    intro c τ hc hN hq
    obtain ⟨⟨h1, h2, -⟩, -⟩ := id hN
    refine m_T_un 40 (fun y pc => (Nat.beq y 95 && (Nat.beq pc 0 || Nat.beq pc 39)) || k_mn y pc) ?_
    refine s_mb0 (k := c) (by omega) (by omega) h1 h2 ⟨fun q => absurd q (by decide), fun _ => ?_⟩
    refine s_mb0 (k := c) (by omega) (by omega) h1 h2 ⟨fun _ => hq τ hN, fun q => absurd q (by decide)⟩
  | succ k ih =>
    intro c τ hc hN hq
    obtain ⟨⟨h1, h2, -⟩, -, h9⟩ := id hN
    obtain ⟨b1, b2⟩ := hB c (by omega)
    have hb : τ.1 13 5 c = nI (B c) := by rw [h9 13 5 (by omega)]; exact b1
    have go : t_sp (B c) = true → m_T E 65535 (r + 1) 95 (26, [some (vR 6 0), none], [], τ) Q := fun g => by
      refine m_T_un 40 (fun y pc => (Nat.beq y 95 && (Nat.beq pc 0 || Nat.beq pc 39)) || k_mn y pc) ?_
      exact ih (c + 1) _ (by omega) (p_N12 hN (by show τ.1 6 0 12 + nI 1 = _; rw [h2, nI_add])) (fun τ' h => hq τ' (by rw [show t_rn t_sp B n (k + 1) c = t_rn t_sp B n k (c + 1) from if_pos g]; exact h))
    have stop : t_sp (B c) = false → m_T E 65535 (r + 1) 95 (39, [some (vR 6 0), none], [], τ) Q := fun g => hq τ (by rw [show t_rn t_sp B n (k + 1) c = c from if_neg (by rw [g]; decide)]; exact hN)
    refine m_T_un 40 (fun y pc => (Nat.beq y 95 && (Nat.beq pc 0 || Nat.beq pc 39 || Nat.beq pc 26)) || k_mn y pc) ?_
    refine s_mb1 (k := c) (by omega) hn h1 hb h2 ⟨fun q => ?_, fun q => ?_⟩
    · have q : nI (B c) = nI 32 := q
      rw [nI_eq (by omega) (by omega)] at q
      exact go (by rw [q]; rfl)
    · have q : ¬ nI (B c) = nI 32 := q
      rw [nI_eq (by omega) (by omega)] at q
      refine s_mb1 (k := c) (by omega) hn h1 hb h2 ⟨fun q2 => ?_, fun q2 => ?_⟩
      · have q2 : ¬ nI (B c) = nI 10 := q2
        rw [nI_eq (by omega) (by omega)] at q2
        refine stop ?_
        unfold t_sp
        rw [show Nat.beq (B c) 32 = false from Bool.eq_false_iff.mpr (fun h => q (Nat.eq_of_beq_eq_true h)), show Nat.beq (B c) 10 = false from Bool.eq_false_iff.mpr (fun h => q2 (Nat.eq_of_beq_eq_true h))]
        rfl
      · have q2 : nI (B c) = nI 10 := q2
        rw [nI_eq (by omega) (by omega)] at q2
        exact go (by rw [q2]; rfl)
theorem s_mr1 (hn : n ≤ 500) (hB : ∀ j, j < n → μ.1 13 5 j = nI (B j) ∧ B j < 256) {tk f tl ft : Nat} {fa x : Int32} : ∀ k c τ, c + k = n → p_N μ τ n c tk f tl ft fa → (∀ τ', p_N μ τ' n (t_rn (t_is 1) B n k c) tk f tl ft fa → m_T E 65535 (r + 1) 95 (104, [some (vR 6 0), some (vI x)], [], τ') Q) → m_T E 65535 (r + 1) 95 (77, [some (vR 6 0), some (vI x)], [], τ) Q := by
  intro k
  induction k with
  | zero =>
    intro c τ hc hN hq
    obtain ⟨⟨h1, h2, -⟩, -⟩ := id hN
    refine m_T_un 40 (fun y pc => (Nat.beq y 95 && (Nat.beq pc 77 || Nat.beq pc 104)) || k_mn y pc) ?_
    refine s_mb0 (k := c) (by omega) (by omega) h1 h2 ?_
    exact s_ml0 ⟨fun _ => hq τ hN, fun q => absurd rfl q⟩
  | succ k ih =>
    intro c τ hc hN hq
    obtain ⟨⟨h1, h2, -⟩, -, h9⟩ := id hN
    obtain ⟨b1, b2⟩ := hB c (by omega)
    have hb : τ.1 13 5 c = nI (B c) := by rw [h9 13 5 (by omega)]; exact b1
    refine m_T_un 40 (fun y pc => (Nat.beq y 95 && (Nat.beq pc 77 || Nat.beq pc 104)) || k_mn y pc) ?_
    refine s_mb1 (k := c) (by omega) hn h1 hb h2 ?_
    refine s_mlt b2 rfl ?_
    cases g : t_is 1 (B c) with
    | false => exact ⟨fun _ => hq τ (by rw [show t_rn (t_is 1) B n (k + 1) c = c from if_neg (by rw [g]; decide)]; exact hN), fun q => absurd rfl q⟩
    | true =>
      refine ⟨fun q => absurd q k_no1, fun _ => ?_⟩
      exact ih (c + 1) _ (by omega) (p_N12 hN (by show τ.1 6 0 12 + nI 1 = _; rw [h2, nI_add])) (fun τ' h => hq τ' (by rw [show t_rn (t_is 1) B n (k + 1) c = t_rn (t_is 1) B n k (c + 1) from if_pos g]; exact h))
theorem s_mr2 (hn : n ≤ 500) (hB : ∀ j, j < n → μ.1 13 5 j = nI (B j) ∧ B j < 256) {tk f tl ft : Nat} {fa x : Int32} : ∀ k c τ, c + k = n → p_N μ τ n c tk f tl ft fa → (∀ τ', p_N μ τ' n (t_rn (t_is 2) B n k c) tk f tl ft fa → m_T E 65535 (r + 1) 95 (146, [some (vR 6 0), some (vI x)], [], τ') Q) → m_T E 65535 (r + 1) 95 (119, [some (vR 6 0), some (vI x)], [], τ) Q := by
  intro k
  induction k with
  | zero =>
    intro c τ hc hN hq
    obtain ⟨⟨h1, h2, -⟩, -⟩ := id hN
    refine m_T_un 40 (fun y pc => (Nat.beq y 95 && (Nat.beq pc 119 || Nat.beq pc 146)) || k_mn y pc) ?_
    refine s_mb0 (k := c) (by omega) (by omega) h1 h2 ?_
    exact s_mf0 ⟨fun _ => hq τ hN, fun q => absurd rfl q⟩
  | succ k ih =>
    intro c τ hc hN hq
    obtain ⟨⟨h1, h2, -⟩, -, h9⟩ := id hN
    obtain ⟨b1, b2⟩ := hB c (by omega)
    have hb : τ.1 13 5 c = nI (B c) := by rw [h9 13 5 (by omega)]; exact b1
    refine m_T_un 40 (fun y pc => (Nat.beq y 95 && (Nat.beq pc 119 || Nat.beq pc 146)) || k_mn y pc) ?_
    refine s_mb1 (k := c) (by omega) hn h1 hb h2 ?_
    refine s_mfg b2 rfl ?_
    cases g : t_is 2 (B c) with
    | false => exact ⟨fun _ => hq τ (by rw [show t_rn (t_is 2) B n (k + 1) c = c from if_neg (by rw [g]; decide)]; exact hN), fun q => absurd rfl q⟩
    | true =>
      refine ⟨fun q => absurd q k_no1, fun _ => ?_⟩
      exact ih (c + 1) _ (by omega) (p_N12 hN (by show τ.1 6 0 12 + nI 1 = _; rw [h2, nI_add])) (fun τ' h => hq τ' (by rw [show t_rn (t_is 2) B n (k + 1) c = t_rn (t_is 2) B n k (c + 1) from if_pos g]; exact h))
theorem s_mnx0 {τ : m_M} {e tk f0 tl ft : Nat} {fa : Int32} (hn : n ≤ 500) (hB : ∀ j, j < n → μ.1 13 5 j = nI (B j) ∧ B j < 256) (he : e ≤ n) (hN : p_N μ τ n e tk f0 tl ft fa) (hq : ∀ τ', p_N μ τ' n (t_g B n (t_f B n e)) (t_mt (t_u B n (t_f B n e))) (t_f B n e) (t_g B n (t_f B n e)) ft fa → Q (0, [], [], τ')) : m_T E 65535 (r + 1) 95 (0, [some (vR 6 0), none], [], τ) Q := by
  refine s_msk hn hB (n - e) e τ (by omega) hN (fun τ1 N1 => ?_)
  have a := t_rn_le (P := t_sp) (B := B) (n := n) (n - e) e
  have N1 : p_N μ τ1 n (t_f B n e) tk f0 tl ft fa := N1
  have hfn : t_f B n e ≤ n := by show t_rn t_sp B n (n - e) e ≤ n; omega
  generalize t_f B n e = f at hq N1 hfn
  obtain ⟨⟨h1, h2, -⟩, -, h9⟩ := id N1
  have N2 : p_N μ (m_up τ1 6 0 14 (τ1.1 6 0 12)) n f tk f tl ft fa := p_N14 N1 h2
  have last : ∀ (τ : m_M) (c t : Nat) (x : Int32), p_N μ τ n c (t_mt t) f tl ft fa → t_g B n f = c → t_u B n f = t → m_T E 65535 (r + 1) 95 (196, [some (vR 6 0), some (vI x)], [], τ) Q := fun τ c t x N g1 g2 => by
    rw [g1, g2] at hq
    refine m_T_un 40 m_no ?_
    exact hq _ (p_N15 N N.1.2.1)
  refine m_T_un 60 (fun y pc => (Nat.beq y 95 && (Nat.beq pc 77 || Nat.beq pc 119 || Nat.beq pc 196)) || k_mn y pc) ?_
  by_cases g : n ≤ f
  · refine s_mb0 (k := f) g (by omega) h1 (by rw [m_up_ne (by omega)]; exact h2) ⟨fun q => absurd rfl q, fun _ => ?_⟩
    exact last _ f 0 _ (p_N13 N2 rfl) (if_pos g) (if_pos g)
  · obtain ⟨b1, b2⟩ := hB f (by omega)
    have hb : (m_up τ1 6 0 14 (τ1.1 6 0 12)).1 13 5 f = nI (B f) := by rw [m_up_other (by omega), h9 13 5 (by omega)]; exact b1
    have e1 : t_g B n f = if t_to (B f) = 1 ∨ t_to (B f) = 2 then t_rn (t_is (t_to (B f))) B n (n - (f + 1)) (f + 1) else f + 1 := if_neg g
    have e2 : t_u B n f = if t_to (B f) = 2 ∧ 3 < t_g B n f - f then 4 else t_to (B f) := if_neg g
    have u := t_to_le (B f)
    refine s_mb1 (k := f) (by omega) hn h1 hb (by rw [m_up_ne (by omega)]; exact h2) ⟨fun _ => ?_, fun q => absurd q (k_ne0 (by omega))⟩
    refine s_mlt b2 rfl ?_
    cases l1 : t_is 1 (B f) with
    | true =>
      have l2 := t_is_iff.mp l1
      refine ⟨fun q => absurd q k_no1, fun _ => ?_⟩
      refine s_mr1 hn hB (n - f) f _ (by omega) N2 (fun τ3 N3 => ?_)
      refine m_T_un 40 (fun y pc => (Nat.beq y 95 && Nat.beq pc 196)) ?_
      have er : t_rn (t_is 1) B n (n - f) f = t_g B n f := by
        rw [e1, if_pos (Or.inl l2), l2, show n - f = n - (f + 1) + 1 by omega]
        exact if_pos l1
      rw [er] at N3
      exact last _ _ 1 _ (p_N13 N3 rfl) rfl (by rw [e2, if_neg (by omega), l2])
    | false =>
      have l2 : ¬ t_to (B f) = 1 := fun h => by rw [t_is_iff.mpr h] at l1; exact Bool.noConfusion l1
      refine ⟨fun _ => ?_, fun q => absurd rfl q⟩
      refine s_mfg b2 rfl ?_
      cases l3 : t_is 2 (B f) with
      | true =>
        have l4 := t_is_iff.mp l3
        refine ⟨fun q => absurd q k_no1, fun _ => ?_⟩
        refine s_mr2 hn hB (n - f) f _ (by omega) N2 (fun τ3 N3 => ?_)
        have er : t_rn (t_is 2) B n (n - f) f = t_g B n f := by
          rw [e1, if_pos (Or.inr l4), l4, show n - f = n - (f + 1) + 1 by omega]
          exact if_pos l3
        have bd := t_rn_le (P := t_is 2) (B := B) (n := n) (n - f) f
        rw [er] at N3 bd
        obtain ⟨⟨i1, i2, i3, i4, -⟩, -⟩ := id N3
        refine m_T_un 40 (fun y pc => (Nat.beq y 95 && Nat.beq pc 196)) ?_
        refine ⟨fun q => ?_, fun q => ?_⟩
        · have q : τ3.1 6 0 12 - τ3.1 6 0 14 ≤ nI 3 := q
          rw [i2, i4, pk_sub (by omega), nI_leI (by omega) (by omega)] at q
          exact last _ _ 2 _ (p_N13 N3 rfl) rfl (by rw [e2, if_neg (by omega), l4])
        · have q : ¬ τ3.1 6 0 12 - τ3.1 6 0 14 ≤ nI 3 := q
          rw [i2, i4, pk_sub (by omega), nI_leI (by omega) (by omega)] at q
          exact last _ _ 4 _ (p_N13 N3 rfl) rfl (by rw [e2, if_pos ⟨l4, by omega⟩])
      | false =>
        have l4 : ¬ t_to (B f) = 2 := fun h => by rw [t_is_iff.mpr h] at l3; exact Bool.noConfusion l3
        refine ⟨fun _ => ?_, fun q => absurd rfl q⟩
        have N3 : p_N μ (m_up (m_up τ1 6 0 14 (τ1.1 6 0 12)) 6 0 12 ((m_up τ1 6 0 14 (τ1.1 6 0 12)).1 6 0 12 + Int32.ofInt 1)) n (f + 1) tk f tl ft fa := p_N12 N2 (by rw [m_up_ne (by omega), h2, show Int32.ofInt 1 = nI 1 from rfl, nI_add])
        refine ⟨fun q => ?_, fun q => ?_⟩
        · have q : ¬ nI (B f) = nI 59 := q
          rw [nI_eq (by omega) (by omega)] at q
          have l5 : t_to (B f) = 4 := by
            unfold t_to at l2 l4 ⊢
            by_cases x1 : 97 ≤ B f ∧ B f ≤ 122
            · rw [if_pos x1] at l2
              exact absurd rfl l2
            · rw [if_neg x1] at l4 ⊢
              by_cases x2 : 48 ≤ B f ∧ B f ≤ 57
              · rw [if_pos x2] at l4
                exact absurd rfl l4
              · rw [if_neg x2, if_neg q]
          exact last _ _ 4 _ (p_N13 N3 rfl) (by rw [e1, if_neg (by omega)]) (by rw [e2, if_neg (by omega), l5])
        · have q : nI (B f) = nI 59 := q
          rw [nI_eq (by omega) (by omega)] at q
          have l5 : t_to (B f) = 3 := by rw [q]; rfl
          exact last _ _ 3 _ (p_N13 N3 rfl) (by rw [e1, if_neg (by omega)]) (by rw [e2, if_neg (by omega), l5])
theorem s_mnx {τ : m_M} {S : t_S} (hn : n ≤ 500) (hB : ∀ j, j < n → μ.1 13 5 j = nI (B j) ∧ B j < 256) (hS : t_ok B n S) (h0 : S.2.2.2 = 0) (hM : p_M μ τ n S) (hq : ∀ τ', p_M μ τ' n (t_nx B n S) → Q (0, [], [], τ')) : m_T E 65535 (r + 1) 95 (0, [some (vR 6 0), none], [], τ) Q := by
  obtain ⟨fa, hN, hf⟩ := hM
  exact s_mnx0 hn hB hS.2.1 hN (fun τ' N' => hq τ' ⟨fa, N', fun g => absurd h0 g⟩)
end MNext
