/-! the text: words, numbers (class) -/
def t_w : List (List Nat) := [[116, 111, 119, 110], [108, 105, 115, 116], [114, 97, 110, 107], [107, 105, 110, 100], [112, 101, 114, 115, 111, 110], [112, 105, 108, 103, 114, 105, 109], [104, 105, 114, 101, 100], [99, 97, 108, 108, 101, 100], [98, 111, 114, 110], [115, 109, 117, 103, 103, 108, 101, 100]]
def t_wc (v i : Nat) : Nat := m_nth (m_nth t_w v []) i 0
def t_wl (v : Nat) : Nat := m_nth m_sl v 0
theorem t_wc_ok : ∀ v, v < 10 → ∀ i, i < t_wl v → m_nth (m_nth m_str v []) i 0 = nI (t_wc v i) ∧ 97 ≤ t_wc v i ∧ t_wc v i ≤ 122 := by decide
theorem t_wl_ok : ∀ v, v < 10 → t_wl v ≤ 8 ∧ 1 ≤ t_wl v := by decide
def t_eq (B : Nat → Nat) (f v : Nat) : Nat → Nat → Bool
  | 0, _ => true
  | k + 1, i => Nat.beq (B (f + i)) (t_wc v i) && t_eq B f v k (i + 1)
def t_sw (B : Nat → Nat) (S : t_S) (v : Nat) : Bool := Nat.beq S.2.2.1 1 && (Nat.beq (S.2.1 - S.1) (t_wl v) && t_eq B S.1 v (t_wl v) 0)
def t_ac (B : Nat → Nat) (n : Nat) (b : Bool) (S : t_S) : t_S := if S.2.2.2 = 0 then cond b (t_nx B n S) (S.1, S.2.1, S.2.2.1, 1) else S
def t_lw (B : Nat → Nat) (S : t_S) : Nat := cond (t_sw B S 1) 0 (cond (t_sw B S 2) 1 (cond (t_sw B S 3) 2 3))
def t_kd (B : Nat → Nat) (S : t_S) : Nat := cond (t_sw B S 5) 1 (cond (t_sw B S 6) 2 (cond (t_sw B S 7) 3 (cond (t_sw B S 8) 4 (cond (t_sw B S 9) 5 0))))
def t_dv (B : Nat → Nat) : Nat → Nat → Nat → Nat
  | 0, _, v => v
  | k + 1, i, v => t_dv B k (i + 1) (10 * v + B i - 48)
def t_vl (B : Nat → Nat) (S : t_S) : Nat := cond (Nat.beq S.2.2.1 2) (t_dv B (S.2.1 - S.1) S.1 0) 0
def t_nm (B : Nat → Nat) (n most : Nat) (S : t_S) : t_S := if S.2.2.2 = 0 then (if most < t_vl B S then (S.1, S.2.1, S.2.2.1, 2) else t_ac B n (Nat.beq S.2.2.1 2) S) else S
theorem t_ac_ok {B : Nat → Nat} {n : Nat} {b : Bool} {S : t_S} (h : t_ok B n S) : t_ok B n (t_ac B n b S) := by
  unfold t_ac
  split
  · cases b
    · exact ⟨h.1, h.2.1, h.2.2.1, (by show 1 ≤ 3; omega), h.2.2.2.2⟩
    · exact t_nx_ok h
  · exact h
theorem t_nm_ok {B : Nat → Nat} {n most : Nat} {S : t_S} (h : t_ok B n S) : t_ok B n (t_nm B n most S) := by
  unfold t_nm
  split
  · split
    · exact ⟨h.1, h.2.1, h.2.2.1, (by show 2 ≤ 3; omega), h.2.2.2.2⟩
    · exact t_ac_ok h
  · exact h
theorem t_to2 {b : Nat} (h : t_to b = 2) : 48 ≤ b ∧ b ≤ 57 := by
  unfold t_to at h
  by_cases g : 97 ≤ b ∧ b ≤ 122
  · rw [if_pos g] at h
    omega
  · rw [if_neg g] at h
    by_cases g2 : 48 ≤ b ∧ b ≤ 57
    · exact g2
    · rw [if_neg g2] at h
      split at h <;> omega
theorem t_to1 {b : Nat} (h : t_to b = 1) : 97 ≤ b ∧ b ≤ 122 := by
  unfold t_to at h
  by_cases g : 97 ≤ b ∧ b ≤ 122
  · exact g
  · rw [if_neg g] at h
    split at h
    · omega
    · split at h <;> omega
theorem t_dv_le {B : Nat → Nat} : ∀ k i v m, (∀ j, i ≤ j → j < i + k → 48 ≤ B j ∧ B j ≤ 57) → v < 10 ^ m → t_dv B k i v < 10 ^ (m + k)
  | 0, i, v, m, _, hv => hv
  | k + 1, i, v, m, h, hv => by
    have hb := h i (Nat.le_refl i) (by omega)
    have e := t_dv_le (B := B) k (i + 1) (10 * v + B i - 48) (m + 1) (fun j h1 h2 => h j (by omega) (by omega)) (by rw [Nat.pow_succ]; omega)
    show t_dv B k (i + 1) (10 * v + B i - 48) < 10 ^ (m + (k + 1))
    rw [show m + (k + 1) = m + 1 + k by omega]
    exact e
theorem t_vl_le {B : Nat → Nat} {n : Nat} {S : t_S} (h : t_ok B n S) : t_vl B S ≤ 999 := by
  unfold t_vl
  cases g : Nat.beq S.2.2.1 2 with
  | false => exact Nat.zero_le _
  | true =>
    have g := Nat.eq_of_beq_eq_true g
    have e := t_dv_le (B := B) (S.2.1 - S.1) S.1 0 0 (fun j h1 h2 => t_to2 ((h.2.2.2.2.1 (Or.inr g) j h1 (by omega)).trans g)) (by decide)
    have l := h.2.2.2.2.2.1 g
    have p : 10 ^ (0 + (S.2.1 - S.1)) ≤ 10 ^ 3 := Nat.pow_le_pow_right (by omega) (by omega)
    show t_dv B (S.2.1 - S.1) S.1 0 ≤ 999
    omega
theorem t_sh : ∀ v, v < 10 → nI (t_wl v) >>> ((0 : Int32) &&& 31) = nI (t_wl v) := by decide
section CWords
variable {E : m_E} {r : Nat} {σ τ : m_M} {Q : m_F → Prop} {B : Nat → Nat} {n : Nat} {S : t_S}
theorem s_len {v : Nat} (hv : v < 10) (hq : Q (0, [], [vI (nI (t_wl v))], τ)) : m_T E 65535 (r + 1) 162 (0, [some (vR 17 v)], [], τ) Q := by
  refine m_T_un 40 m_no ?_
  refine ⟨fun q => absurd q (by decide), fun _ => ⟨rfl, ?_⟩⟩
  rw [← t_sh v hv] at hq
  exact hq
theorem s_chr {v i : Nat} {x : Int32} (hv : v < 10) (hi : i < t_wl v) (hx : x = nI i) (hq : Q (0, [], [vI (nI (t_wc v i))], τ)) : m_T E 65535 (r + 3) 164 (0, [some (vR 17 v), some (vI x)], [], τ) Q := by
  subst hx
  obtain ⟨w1, w2, w3⟩ := t_wc_ok v hv i hi
  have wl := t_wl_ok v hv
  have ln : ∀ c : Int32, nI i < nI (t_wl v) := fun _ => nI_lt hi (by omega)
  refine m_T_un 90 m_no ?_
  refine ⟨fun q => absurd q (by decide), fun _ => ⟨fun q => absurd rfl q, fun _ => ⟨Or.inr rfl, fun q => absurd q k_no1, fun _ => ?_⟩⟩⟩
  refine ⟨fun q => absurd q (nI_pos (by omega)), fun _ => ⟨fun _ => ?_, fun q => absurd (nI_lt hi (by omega)) q⟩⟩
  have e0 : m_nth (m_nth m_str v []) (nI i).toNatClampNeg 0 &&& (Int16.ofInt 255).toInt32 = nI (t_wc v i) := by
    rw [k_cl (by omega), w1, pk_andN (by omega) 8 (by decide), Nat.mod_eq_of_lt (by omega)]
  have e1 : ((m_nth (m_nth m_str v []) (nI i).toNatClampNeg 0 &&& (Int16.ofInt 255).toInt32).toUInt32 % 65536).toInt32 = nI (t_wc v i) := by
    rw [e0, pk_char, pk_tn (by omega), Nat.mod_eq_of_lt (by omega)]
  rw [← e1] at hq
  exact ⟨k_in (n := t_wl v) hi (by omega), ⟨by rw [e1]; exact (pk_charN (by omega)).1, by rw [e1]; exact (pk_charN (by omega)).1, hq⟩⟩
theorem s_cpw (hn : n ≤ 500) (hB : ∀ j, j < n → σ.1 12 28 j = nI (B j) ∧ B j < 256) (hS : t_ok B n S) (hC : p_C σ τ n S) {v : Nat} (hv : v < 10) (hq : Q (0, [], [vI (k_bit (t_sw B S v))], τ)) : m_T E 65535 (r + 4) 61 (0, [some (vR 4 0), some (vR 17 v), none], [], τ) Q := by
  obtain ⟨h1, h2, h3, h4, h5, h6⟩ := id hC
  obtain ⟨s1, s2, s3, s4, -⟩ := hS
  have wl := t_wl_ok v hv
  have no : t_sw B S v = false → Q (0, [], [vI (Int32.ofInt 0)], τ) := fun g => by
    rw [g] at hq
    exact hq
  refine m_T_un 60 (fun y pc => Nat.beq y 162 || (Nat.beq y 61 && Nat.beq pc 28)) ?_
  refine ⟨fun q => ?_, fun q => ?_⟩
  · have q : ¬ τ.1 4 0 4 = nI 1 := q
    rw [h4, nI_eq (by omega) (by omega)] at q
    refine ⟨Or.inl rfl, no ?_⟩
    unfold t_sw
    rw [show Nat.beq S.2.2.1 1 = false from Bool.eq_false_iff.mpr (fun h => q (Nat.eq_of_beq_eq_true h))]
    rfl
  have q : τ.1 4 0 4 = nI 1 := q
  rw [h4, nI_eq (by omega) (by omega)] at q
  have g1 : Nat.beq S.2.2.1 1 = true := by rw [q]; rfl
  refine s_len hv ⟨fun q2 => ?_, fun q2 => ?_⟩
  · have q2 : τ.1 4 0 3 - τ.1 4 0 2 = nI (t_wl v) := q2
    rw [h2, h3, pk_sub s1, nI_eq (by omega) (by omega)] at q2
    have g2 : Nat.beq (S.2.1 - S.1) (t_wl v) = true := Nat.beq_eq.mpr q2
    have key : ∀ k i, i + k = t_wl v → t_sw B S v = t_eq B S.1 v k i → m_T E 65535 (r + 4) 61 (28, [some (vR 4 0), some (vR 17 v), some (vI (nI i))], [], τ) Q := by
      intro k
      induction k with
      | zero =>
        intro i hi hs
        rw [hs] at hq
        refine m_T_un 60 (fun y pc => Nat.beq y 162 || Nat.beq y 164 || Nat.beq y 50 || (Nat.beq y 61 && Nat.beq pc 28)) ?_
        refine s_len hv ⟨fun _ => ⟨Or.inr rfl, hq⟩, fun q3 => absurd (nI_le (show t_wl v ≤ i by omega) (by omega)) q3⟩
      | succ k ih =>
        intro i hi hs
        obtain ⟨b1, b2⟩ := hB (S.1 + i) (by omega)
        have hb : τ.1 12 28 (S.1 + i) = nI (B (S.1 + i)) := by rw [h6 12 28 (by omega)]; exact b1
        have wc := t_wc_ok v hv i (by omega)
        have hs : t_sw B S v = (Nat.beq (B (S.1 + i)) (t_wc v i) && t_eq B S.1 v k (i + 1)) := hs
        refine m_T_un 60 (fun y pc => Nat.beq y 162 || Nat.beq y 164 || Nat.beq y 50 || (Nat.beq y 61 && Nat.beq pc 28)) ?_
        refine s_len hv ⟨fun q3 => absurd q3 (nI_ge (show i < t_wl v by omega) (by omega)), fun _ => ?_⟩
        refine s_at (v := 28) (S.1 + i) (by show τ.1 4 0 2 + nI i = _; rw [h2, nI_add]) (show S.1 + i < 500 by omega) ?_
        refine s_chr hv (show i < t_wl v by omega) rfl ⟨fun q3 => ?_, fun q3 => ?_⟩
        · have q3 : τ.1 12 28 (S.1 + i) = nI (t_wc v i) := q3
          rw [hb, nI_eq (by omega) (by omega)] at q3
          rw [show Nat.beq (B (S.1 + i)) (t_wc v i) = true from Nat.beq_eq.mpr q3, Bool.true_and] at hs
          have e := ih (i + 1) (by omega) hs
          rw [nI_succ i] at e
          exact e
        · have q3 : ¬ τ.1 12 28 (S.1 + i) = nI (t_wc v i) := q3
          rw [hb, nI_eq (by omega) (by omega)] at q3
          rw [show Nat.beq (B (S.1 + i)) (t_wc v i) = false from Bool.eq_false_iff.mpr (fun h => q3 (Nat.eq_of_beq_eq_true h)), Bool.false_and] at hs
          exact ⟨Or.inl rfl, no hs⟩
    exact key (t_wl v) 0 (by omega) (by unfold t_sw; rw [g1, g2, Bool.true_and, Bool.true_and])
  · have q2 : ¬ τ.1 4 0 3 - τ.1 4 0 2 = nI (t_wl v) := q2
    rw [h2, h3, pk_sub s1, nI_eq (by omega) (by omega)] at q2
    refine ⟨Or.inl rfl, no ?_⟩
    unfold t_sw
    rw [show Nat.beq (S.2.1 - S.1) (t_wl v) = false from Bool.eq_false_iff.mpr (fun h => q2 (Nat.eq_of_beq_eq_true h)), g1]
    rfl
theorem s_cac (hn : n ≤ 500) (hB : ∀ j, j < n → σ.1 12 28 j = nI (B j) ∧ B j < 256) (hS : t_ok B n S) (hC : p_C σ τ n S) (b : Bool) {x : Int32} (hx : x = k_bit b) (hq : ∀ τ', p_C σ τ' n (t_ac B n b S) → Q (0, [], [], τ')) : m_T E 65535 (r + 2) 62 (0, [some (vR 4 0), some (vI x)], [], τ) Q := by
  subst hx
  obtain ⟨h1, h2, h3, h4, h5, h6⟩ := id hC
  have s4 := hS.2.2.2.1
  refine m_T_un 40 (fun y pc => Nat.beq y 58) ?_
  refine ⟨fun q => ?_, fun q => ?_⟩
  · have q : τ.1 4 0 5 = nI 0 := q
    rw [h5, nI_eq (by omega) (by omega)] at q
    unfold t_ac at hq
    rw [if_pos q] at hq
    cases b with
    | true =>
      refine ⟨fun q2 => absurd q2 k_no1, fun _ => ?_⟩
      exact s_cnx hn hB hS hC hq
    | false =>
      refine ⟨fun _ => ?_, fun q2 => absurd rfl q2⟩
      exact hq _ (p_F5 hC rfl)
  · have q : ¬ τ.1 4 0 5 = nI 0 := q
    rw [h5, nI_eq (by omega) (by omega)] at q
    unfold t_ac at hq
    rw [if_neg q] at hq
    exact hq τ hC
def k_rd : Nat → Nat → Bool := fun y pc => Nat.beq pc 0 && (Nat.beq y 61 || Nat.beq y 62 || Nat.beq y 60 || Nat.beq y 63 || Nat.beq y 64 || Nat.beq y 66 || Nat.beq y 65 || Nat.beq y 67 || Nat.beq y 68 || Nat.beq y 58)
theorem s_crw (hn : n ≤ 500) (hB : ∀ j, j < n → σ.1 12 28 j = nI (B j) ∧ B j < 256) (hS : t_ok B n S) (hC : p_C σ τ n S) {v : Nat} (hv : v < 10) (hq : ∀ τ', p_C σ τ' n (t_ac B n (t_sw B S v) S) → Q (0, [], [], τ')) : m_T E 65535 (r + 5) 60 (0, [some (vR 4 0), some (vR 17 v)], [], τ) Q := by
  refine m_T_un 40 k_rd ?_
  refine s_cpw hn hB hS hC hv ?_
  exact s_cac hn hB hS hC _ rfl hq
def t_lx (w : Nat) : Int32 := cond (Nat.beq w 3) (Int32.ofInt (-1)) (nI w)
def t_kx (k : Nat) : Int32 := cond (Nat.beq k 0) (Int32.ofInt (-1)) (nI k)
theorem s_crl (hn : n ≤ 500) (hB : ∀ j, j < n → σ.1 12 28 j = nI (B j) ∧ B j < 256) (hS : t_ok B n S) (hC : p_C σ τ n S) (hq : ∀ τ', p_C σ τ' n (t_ac B n (Nat.blt (t_lw B S) 3) S) → Q (0, [], [vI (t_lx (t_lw B S))], τ')) : m_T E 65535 (r + 5) 63 (0, [some (vR 4 0), none], [], τ) Q := by
  have fin : ∀ (w : Nat), w = t_lw B S → w ≤ 3 → m_T E 65535 (r + 5) 63 (40, [some (vR 4 0), none], [vI (t_lx w)], τ) Q := fun w hw w3 => by
    rw [← hw] at hq
    refine m_T_un 40 k_rd ?_
    obtain rfl | rfl | rfl | rfl : w = 0 ∨ w = 1 ∨ w = 2 ∨ w = 3 := by omega
    · exact ⟨fun q => absurd q (by decide), fun _ => s_cac hn hB hS hC true rfl hq⟩
    · exact ⟨fun q => absurd q (by decide), fun _ => s_cac hn hB hS hC true rfl hq⟩
    · exact ⟨fun q => absurd q (by decide), fun _ => s_cac hn hB hS hC true rfl hq⟩
    · exact ⟨fun _ => s_cac hn hB hS hC false rfl hq, fun q => absurd (by decide) q⟩
  refine m_T_un 40 (fun y pc => k_rd y pc || (Nat.beq y 63 && Nat.beq pc 40)) ?_
  refine s_cpw hn hB hS hC (show 1 < 10 by omega) ?_
  cases g1 : t_sw B S 1 with
  | true => exact ⟨fun q => absurd q k_no1, fun _ => fin 0 (by unfold t_lw; rw [g1]; rfl) (by omega)⟩
  | false =>
    refine ⟨fun _ => ?_, fun q => absurd rfl q⟩
    refine s_cpw hn hB hS hC (show 2 < 10 by omega) ?_
    cases g2 : t_sw B S 2 with
    | true => exact ⟨fun q => absurd q k_no1, fun _ => fin 1 (by unfold t_lw; rw [g1, g2]; rfl) (by omega)⟩
    | false =>
      refine ⟨fun _ => ?_, fun q => absurd rfl q⟩
      refine s_cpw hn hB hS hC (show 3 < 10 by omega) ?_
      cases g3 : t_sw B S 3 with
      | true => exact ⟨fun q => absurd q k_no1, fun _ => fin 2 (by unfold t_lw; rw [g1, g2, g3]; rfl) (by omega)⟩
      | false => exact ⟨fun _ => fin 3 (by unfold t_lw; rw [g1, g2, g3]; rfl) (by omega), fun q => absurd rfl q⟩
theorem s_crk (hn : n ≤ 500) (hB : ∀ j, j < n → σ.1 12 28 j = nI (B j) ∧ B j < 256) (hS : t_ok B n S) (hC : p_C σ τ n S) (hq : ∀ τ', p_C σ τ' n (t_ac B n (Nat.blt 0 (t_kd B S)) S) → Q (0, [], [vI (t_kx (t_kd B S))], τ')) : m_T E 65535 (r + 5) 66 (0, [some (vR 4 0), none], [], τ) Q := by
  have fin : ∀ (w : Nat), w = t_kd B S → w ≤ 5 → m_T E 65535 (r + 5) 66 (66, [some (vR 4 0), none], [vI (t_kx w)], τ) Q := fun w hw w3 => by
    rw [← hw] at hq
    refine m_T_un 40 k_rd ?_
    obtain rfl | rfl | rfl | rfl | rfl | rfl : w = 0 ∨ w = 1 ∨ w = 2 ∨ w = 3 ∨ w = 4 ∨ w = 5 := by omega
    · exact ⟨fun _ => s_cac hn hB hS hC false rfl hq, fun q => absurd (by decide) q⟩
    all_goals exact ⟨fun q => absurd q (by decide), fun _ => s_cac hn hB hS hC true rfl hq⟩
  refine m_T_un 40 (fun y pc => k_rd y pc || (Nat.beq y 66 && Nat.beq pc 66)) ?_
  refine s_cpw hn hB hS hC (show 5 < 10 by omega) ?_
  cases g1 : t_sw B S 5 with
  | true => exact ⟨fun q => absurd q k_no1, fun _ => fin 1 (by unfold t_kd; rw [g1]; rfl) (by omega)⟩
  | false =>
    refine ⟨fun _ => ?_, fun q => absurd rfl q⟩
    refine s_cpw hn hB hS hC (show 6 < 10 by omega) ?_
    cases g2 : t_sw B S 6 with
    | true => exact ⟨fun q => absurd q k_no1, fun _ => fin 2 (by unfold t_kd; rw [g1, g2]; rfl) (by omega)⟩
    | false =>
      refine ⟨fun _ => ?_, fun q => absurd rfl q⟩
      refine s_cpw hn hB hS hC (show 7 < 10 by omega) ?_
      cases g3 : t_sw B S 7 with
      | true => exact ⟨fun q => absurd q k_no1, fun _ => fin 3 (by unfold t_kd; rw [g1, g2, g3]; rfl) (by omega)⟩
      | false =>
        refine ⟨fun _ => ?_, fun q => absurd rfl q⟩
        refine s_cpw hn hB hS hC (show 8 < 10 by omega) ?_
        cases g4 : t_sw B S 8 with
        | true => exact ⟨fun q => absurd q k_no1, fun _ => fin 4 (by unfold t_kd; rw [g1, g2, g3, g4]; rfl) (by omega)⟩
        | false =>
          refine ⟨fun _ => ?_, fun q => absurd rfl q⟩
          refine s_cpw hn hB hS hC (show 9 < 10 by omega) ?_
          cases g5 : t_sw B S 9 with
          | true => exact ⟨fun q => absurd q k_no1, fun _ => fin 5 (by unfold t_kd; rw [g1, g2, g3, g4, g5]; rfl) (by omega)⟩
          | false => exact ⟨fun _ => fin 0 (by unfold t_kd; rw [g1, g2, g3, g4, g5]; rfl) (by omega), fun q => absurd rfl q⟩
theorem t_dig {v b : Nat} (hb : 48 ≤ b) : (Int8.ofInt 10).toInt32 * nI v + nI b - (Int8.ofInt 48).toInt32 = nI (10 * v + b - 48) := by
  rw [show (Int8.ofInt 10).toInt32 = nI 10 from rfl, show (Int8.ofInt 48).toInt32 = nI 48 from rfl, pk_mul, nI_add, pk_sub (by omega)]
theorem s_crn (hn : n ≤ 500) (hB : ∀ j, j < n → σ.1 12 28 j = nI (B j) ∧ B j < 256) (hS : t_ok B n S) (hC : p_C σ τ n S) {most : Nat} {x : Int32} (hm : most < 1000) (hx : x = nI most) (hq : ∀ τ', p_C σ τ' n (t_nm B n most S) → Q (0, [], [vI (nI (t_vl B S))], τ')) : m_T E 65535 (r + 5) 64 (0, [some (vR 4 0), some (vI x), none, none], [], τ) Q := by
  subst hx
  obtain ⟨h1, h2, h3, h4, h5, h6⟩ := id hC
  obtain ⟨s1, s2, s3, s4, s5, s6, -⟩ := id hS
  have vl := t_vl_le hS
  have fin : ∀ u : Option m_V, m_T E 65535 (r + 5) 64 (46, [some (vR 4 0), some (vI (nI most)), some (vI (nI (t_vl B S))), none], [], τ) Q := fun u => by
    have acc : ∀ (τ' : m_M) (ft : Nat), ft ≤ 3 → p_C σ τ' n (S.1, S.2.1, S.2.2.1, ft) → (∀ τ'', p_C σ τ'' n (t_ac B n (Nat.beq S.2.2.1 2) (S.1, S.2.1, S.2.2.1, ft)) → Q (0, [], [vI (nI (t_vl B S))], τ'')) → m_T E 65535 (r + 5) 64 (63, [some (vR 4 0), some (vI (nI most)), some (vI (nI (t_vl B S))), none], [], τ') Q := fun τ' ft hft hC' hq' => by
      have hS' : t_ok B n (S.1, S.2.1, S.2.2.1, ft) := ⟨s1, s2, s3, hft, s5, s6, hS.2.2.2.2.2.2⟩
      refine m_T_un 40 k_rd ?_
      refine ⟨fun q => ?_, fun q => ?_⟩
      · have q : ¬ τ'.1 4 0 4 = nI 2 := q
        rw [hC'.2.2.2.1, nI_eq (by show S.2.2.1 < _; omega) (by omega)] at q
        exact s_cac hn hB hS' hC' (Nat.beq S.2.2.1 2) (by rw [show Nat.beq S.2.2.1 2 = false from Bool.eq_false_iff.mpr (fun h => q (Nat.eq_of_beq_eq_true h))]; rfl) hq'
      · have q : τ'.1 4 0 4 = nI 2 := q
        rw [hC'.2.2.2.1, nI_eq (by show S.2.2.1 < _; omega) (by omega)] at q
        exact s_cac hn hB hS' hC' (Nat.beq S.2.2.1 2) (by rw [show Nat.beq S.2.2.1 2 = true from Nat.beq_eq.mpr q]; rfl) hq'
    unfold t_nm at hq
    refine m_T_un 40 (fun y pc => k_rd y pc || (Nat.beq y 64 && Nat.beq pc 63)) ?_
    refine ⟨fun q => ?_, fun q => ⟨fun q2 => ?_, fun q2 => ?_⟩⟩
    · have q : ¬ τ.1 4 0 5 = nI 0 := q
      rw [h5, nI_eq (by omega) (by omega)] at q
      rw [if_neg q] at hq
      exact acc τ S.2.2.2 s4 hC (by
        unfold t_ac
        rw [if_neg (show ¬ S.2.2.2 = 0 from q)]
        exact hq)
    · have q : τ.1 4 0 5 = nI 0 := q
      have q2 : nI (t_vl B S) ≤ nI most := q2
      rw [h5, nI_eq (by omega) (by omega)] at q
      rw [nI_leI (by omega) (by omega)] at q2
      rw [if_pos q, if_neg (by omega)] at hq
      exact acc τ S.2.2.2 s4 hC hq
    · have q : τ.1 4 0 5 = nI 0 := q
      have q2 : ¬ nI (t_vl B S) ≤ nI most := q2
      rw [h5, nI_eq (by omega) (by omega)] at q
      rw [nI_leI (by omega) (by omega)] at q2
      rw [if_pos q, if_pos (by omega)] at hq
      exact acc _ 2 (by omega) (p_F5 hC rfl) (by
        unfold t_ac
        rw [if_neg (show ¬ 2 = 0 by omega)]
        exact hq)
  refine m_T_un 40 (fun y pc => (Nat.beq y 64 && (Nat.beq pc 46 || Nat.beq pc 15))) ?_
  refine ⟨fun q => ?_, fun q => ?_⟩
  · have q : ¬ τ.1 4 0 4 = nI 2 := q
    rw [h4, nI_eq (by omega) (by omega)] at q
    have f := fin none
    rw [show t_vl B S = 0 by unfold t_vl; rw [show Nat.beq S.2.2.1 2 = false from Bool.eq_false_iff.mpr (fun h => q (Nat.eq_of_beq_eq_true h))]; rfl] at f
    exact f
  · have q : τ.1 4 0 4 = nI 2 := q
    rw [h4, nI_eq (by omega) (by omega)] at q
    have key : ∀ k i v, i + k = S.2.1 → S.1 ≤ i → t_vl B S = t_dv B k i v → m_T E 65535 (r + 5) 64 (15, [some (vR 4 0), some (vI (nI most)), some (vI (nI v)), some (vI (nI i))], [], τ) Q := by
      intro k
      induction k with
      | zero =>
        intro i v hi hi2 hv
        refine m_T_un 40 (fun y pc => (Nat.beq y 64 && (Nat.beq pc 46 || Nat.beq pc 15)) || Nat.beq y 50) ?_
        refine ⟨fun _ => ?_, fun q2 => ?_⟩
        · refine m_T_mask [true, true, true, false] ?_
          have f := fin none
          rw [hv] at f
          exact f
        · have q2 : ¬ τ.1 4 0 3 ≤ nI i := q2
          rw [h3] at q2
          exact absurd (nI_le (by omega) (by omega)) q2
      | succ k ih =>
        intro i v hi hi2 hv
        obtain ⟨b1, b2⟩ := hB i (by omega)
        have hb : τ.1 12 28 i = nI (B i) := by rw [h6 12 28 (by omega)]; exact b1
        have d := t_to2 ((s5 (Or.inr q) i hi2 (by omega)).trans q)
        refine m_T_un 40 (fun y pc => (Nat.beq y 64 && (Nat.beq pc 46 || Nat.beq pc 15)) || Nat.beq y 50) ?_
        refine ⟨fun q2 => ?_, fun _ => ?_⟩
        · have q2 : τ.1 4 0 3 ≤ nI i := q2
          rw [h3] at q2
          exact absurd q2 (nI_ge (by omega) (by omega))
        refine s_at (v := 28) i rfl (show i < 500 by omega) ?_
        have e := ih (i + 1) (10 * v + B i - 48) (by omega) (by omega) hv
        rw [nI_succ i, ← t_dig d.1, ← hb] at e
        exact e
    have go : ∀ y : Int32, y = nI S.1 → m_T E 65535 (r + 5) 64 (15, [some (vR 4 0), some (vI (nI most)), some (vI (nI 0)), some (vI y)], [], τ) Q := fun y hy => by
      subst hy
      exact key (S.2.1 - S.1) S.1 0 (by omega) (Nat.le_refl _) (by unfold t_vl; rw [show Nat.beq S.2.2.1 2 = true from Nat.beq_eq.mpr q]; rfl)
    exact go _ h2
end CWords
