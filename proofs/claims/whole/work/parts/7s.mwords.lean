/-! the text: the model's words and numbers -/
def t_pk (X : Nat → Nat) : Nat → Nat
  | 0 => 0
  | c + 1 => t_pk X c * 256 + X c
def t_nv (B : Nat → Nat) (S : t_S) : Nat := if S.2.2.2 = 0 ∧ S.2.2.1 = 1 ∧ S.2.1 - S.1 < 8 then t_pk (fun i => B (S.1 + i)) (S.2.1 - S.1) else 0
theorem t_shl8 {v b : Nat} (hv : v < 2 ^ 56) (hb : b < 256) : (lN v <<< (((Int8.ofInt 8).toInt32).toInt64 &&& 63)) ||| (nI b).toInt64 = lN (v * 256 + b) := by
  rw [nI_l (by omega), show (((Int8.ofInt 8).toInt32).toInt64 &&& 63) = lN 8 by decide]
  apply Int64.toBitVec_inj.mp
  rw [Int64.toBitVec_or, Int64.toBitVec_shiftLeft]
  show (BitVec.ofNat 64 v <<< ((BitVec.ofNat 64 8).smod 64)) ||| BitVec.ofNat 64 b = BitVec.ofNat 64 (v * 256 + b)
  rw [show (BitVec.ofNat 64 8).smod 64 = BitVec.ofNat 64 8 by decide]
  apply BitVec.eq_of_toNat_eq
  rw [BitVec.toNat_or, BitVec.shiftLeft_eq', BitVec.toNat_shiftLeft, BitVec.toNat_ofNat, BitVec.toNat_ofNat, BitVec.toNat_ofNat, BitVec.toNat_ofNat, Nat.mod_eq_of_lt (show 8 < 2 ^ 64 by omega), Nat.mod_eq_of_lt (show v < 2 ^ 64 by omega), Nat.mod_eq_of_lt (show b < 2 ^ 64 by omega), Nat.mod_eq_of_lt (show v * 256 + b < 2 ^ 64 by omega), Nat.shiftLeft_eq, Nat.mod_eq_of_lt (show v * 2 ^ 8 < 2 ^ 64 by omega), ← Nat.shiftLeft_eq, ← Nat.shiftLeft_add_eq_or_of_lt (show b < 2 ^ 8 by omega), Nat.shiftLeft_eq]
theorem t_pk_lt {X : Nat → Nat} : ∀ c, (∀ i, i < c → X i < 256) → t_pk X c < 256 ^ c
  | 0, _ => Nat.zero_lt_one
  | c + 1, h => by
    have e := t_pk_lt (X := X) c (fun i hi => h i (by omega))
    have b := h c (by omega)
    rw [Nat.pow_succ]
    show t_pk X c * 256 + X c < 256 ^ c * 256
    omega
theorem t_pk_inj {X Y : Nat → Nat} : ∀ c d, (∀ i, i < c → 1 ≤ X i ∧ X i < 256) → (∀ i, i < d → 1 ≤ Y i ∧ Y i < 256) → t_pk X c = t_pk Y d → c = d ∧ ∀ i, i < c → X i = Y i
  | 0, 0, _, _, _ => ⟨rfl, fun i hi => absurd hi (by omega)⟩
  | 0, d + 1, _, hY, h => by
    have b := hY d (by omega)
    have h : 0 = t_pk Y d * 256 + Y d := h
    omega
  | c + 1, 0, hX, _, h => by
    have b := hX c (by omega)
    have h : t_pk X c * 256 + X c = 0 := h
    omega
  | c + 1, d + 1, hX, hY, h => by
    have b1 := hX c (by omega)
    have b2 := hY d (by omega)
    have h : t_pk X c * 256 + X c = t_pk Y d * 256 + Y d := h
    obtain ⟨e1, e2⟩ := t_pk_inj (X := X) (Y := Y) c d (fun i hi => hX i (by omega)) (fun i hi => hY i (by omega)) (by omega)
    subst e1
    refine ⟨rfl, fun i hi => ?_⟩
    by_cases g : i = c
    · rw [g]; omega
    · exact e2 i (by omega)
theorem t_pk_ex {X Y : Nat → Nat} : ∀ c, (∀ i, i < c → X i = Y i) → t_pk X c = t_pk Y c
  | 0, _ => rfl
  | c + 1, h => by
    show t_pk X c * 256 + X c = t_pk Y c * 256 + Y c
    rw [t_pk_ex c (fun i hi => h i (by omega)), h c (by omega)]
theorem t_eq_iff {B : Nat → Nat} {f v : Nat} : ∀ k i, t_eq B f v k i = true ↔ ∀ j, i ≤ j → j < i + k → B (f + j) = t_wc v j
  | 0, i => ⟨fun _ j h1 h2 => absurd h2 (by omega), fun _ => rfl⟩
  | k + 1, i => by
    show (Nat.beq (B (f + i)) (t_wc v i) && t_eq B f v k (i + 1)) = true ↔ _
    rw [Bool.and_eq_true, t_eq_iff k (i + 1)]
    constructor
    · rintro ⟨h1, h2⟩ j h3 h4
      by_cases g : j = i
      · rw [g]; exact Nat.eq_of_beq_eq_true h1
      · exact h2 j (by omega) (by omega)
    · intro h
      exact ⟨Nat.beq_eq.mpr (h i (Nat.le_refl i) (by omega)), fun j h3 h4 => h j (by omega) (by omega)⟩
def t_pw (v : Nat) : Nat := t_pk (t_wc v) (t_wl v)
theorem t_word {B : Nat → Nat} {n : Nat} {S : t_S} (hS : t_ok B n S) (h1 : S.2.2.1 = 1) {v : Nat} (hv : v < 10) : t_pk (fun i => B (S.1 + i)) (S.2.1 - S.1) = t_pw v ↔ t_sw B S v = true := by
  have w := t_wc_ok v hv
  have hb : ∀ i, i < S.2.1 - S.1 → 97 ≤ B (S.1 + i) ∧ B (S.1 + i) ≤ 122 := fun i hi => t_to1 ((hS.2.2.2.2.1 (Or.inl h1) (S.1 + i) (by omega) (by omega)).trans h1)
  unfold t_sw
  rw [Bool.and_eq_true, Bool.and_eq_true, t_eq_iff]
  constructor
  · intro h
    obtain ⟨e1, e2⟩ := t_pk_inj (S.2.1 - S.1) (t_wl v) (fun i hi => by have := hb i hi; show 1 ≤ B (S.1 + i) ∧ B (S.1 + i) < 256; omega) (fun i hi => by have := w i hi; omega) h
    exact ⟨Nat.beq_eq.mpr h1, Nat.beq_eq.mpr e1, fun j _ hj => e2 j (by omega)⟩
  · rintro ⟨-, h2, h3⟩
    have h2 := Nat.eq_of_beq_eq_true h2
    rw [h2]
    exact t_pk_ex _ (fun i hi => h3 i (Nat.zero_le i) (by omega))
theorem t_nv_lt {B : Nat → Nat} {n : Nat} {S : t_S} (hS : t_ok B n S) : t_nv B S < 2 ^ 56 := by
  unfold t_nv
  by_cases g : S.2.2.2 = 0 ∧ S.2.2.1 = 1 ∧ S.2.1 - S.1 < 8
  · rw [if_pos g]
    have hb : ∀ i, i < S.2.1 - S.1 → B (S.1 + i) < 256 := fun i hi => by
      have := t_to1 ((hS.2.2.2.2.1 (Or.inl g.2.1) (S.1 + i) (by omega) (by omega)).trans g.2.1)
      omega
    have e := t_pk_lt (X := fun i => B (S.1 + i)) (S.2.1 - S.1) hb
    have p : 256 ^ (S.2.1 - S.1) ≤ 256 ^ 7 := Nat.pow_le_pow_right (by omega) (by omega)
    omega
  · rw [if_neg g]
    omega
/-- a name of less than eight letters -/
theorem t_nv_w {B : Nat → Nat} {n : Nat} {S : t_S} (hS : t_ok B n S) (h0 : S.2.2.2 = 0) {v : Nat} (hv : v < 10) (h8 : t_wl v < 8) : t_nv B S = t_pw v ↔ t_sw B S v = true := by
  have wl := t_wl_ok v hv
  have pw : ¬ t_pw v = 0 := fun h => by
    have w := t_wc_ok v hv (t_wl v - 1) (by omega)
    unfold t_pw at h
    rw [show t_wl v = t_wl v - 1 + 1 by omega] at h
    have h : t_pk (t_wc v) (t_wl v - 1) * 256 + t_wc v (t_wl v - 1) = 0 := h
    omega
  unfold t_nv
  by_cases g1 : S.2.2.1 = 1
  · by_cases g2 : S.2.1 - S.1 < 8
    · rw [if_pos ⟨h0, g1, g2⟩]
      exact t_word hS g1 hv
    · rw [if_neg (fun h => g2 h.2.2)]
      refine ⟨fun h => absurd h.symm pw, fun h => ?_⟩
      unfold t_sw at h
      rw [Bool.and_eq_true, Bool.and_eq_true] at h
      have := Nat.eq_of_beq_eq_true h.2.1
      omega
  · rw [if_neg (fun h => g1 h.2.1)]
    refine ⟨fun h => absurd h.symm pw, fun h => ?_⟩
    unfold t_sw at h
    rw [Bool.and_eq_true] at h
    exact absurd (Nat.eq_of_beq_eq_true h.1) g1
section MWords
variable {E : m_E} {r : Nat} {μ τ : m_M} {Q : m_F → Prop} {B : Nat → Nat} {n : Nat} {S : t_S}
theorem t_mt_eq {t : Nat} (ht : t ≤ 4) {c : Nat} (hc : 1 ≤ c ∧ c ≤ 4) : (nI (t_mt t) = nI c) ↔ t + 1 = c := by
  have e : t_mt t ≤ 4 ∧ (t_mt t = c ↔ t + 1 = c) := by
    unfold t_mt
    split <;> omega
  rw [nI_eq (by omega) (by omega)]
  exact e.2
theorem s_mnm (hn : n ≤ 500) (hB : ∀ j, j < n → μ.1 13 5 j = nI (B j) ∧ B j < 256) (hS : t_ok B n S) (hM : p_M μ τ n S) (hq : Q (0, [], [vL (lN (t_nv B S))], τ)) : m_T E 65535 (r + 1) 100 (0, [some (vR 6 0), none, none, none], [], τ) Q := by
  obtain ⟨fa, ⟨⟨i1, i2, i3, i4, i5, i6, i7⟩, i8, i9⟩, -⟩ := id hM
  obtain ⟨s1, s2, s3, s4, s5, s6, s7⟩ := id hS
  have end_ : ∀ (v : Nat) (k : Int32), (if S.2.2.2 = 0 then v else 0) = t_nv B S → m_T E 65535 (r + 1) 100 (56, [some (vR 6 0), some (vL (lN v)), none, some (vI k)], [], τ) Q := fun v k hv => by
    rw [← hv] at hq
    refine m_T_un 40 m_no ?_
    refine ⟨fun q => ?_, fun q => ?_⟩
    · have q : ¬ τ.1 6 0 16 = nI 0 := q
      rw [i6, nI_eq (by omega) (by omega)] at q
      rw [if_neg q] at hq
      exact hq
    · have q : τ.1 6 0 16 = nI 0 := q
      rw [i6, nI_eq (by omega) (by omega)] at q
      rw [if_pos q] at hq
      exact hq
  have skip : ∀ (v : Nat) (k : Int32), ¬ (S.2.2.1 = 1 ∧ S.2.1 - S.1 < 8) → v = 0 → m_T E 65535 (r + 1) 100 (56, [some (vR 6 0), some (vL (lN v)), none, some (vI k)], [], τ) Q := fun v k g hv => end_ v k (by
    subst hv
    unfold t_nv
    rw [ite_self, if_neg (fun h => g h.2)])
  have key : ∀ k c, c + k = S.2.1 - S.1 → ((S.2.2.1 = 1 ∧ S.2.1 - S.1 < 8) ∨ c = 0) → m_T E 65535 (r + 1) 100 (7, [some (vR 6 0), some (vL (lN (t_pk (fun i => B (S.1 + i)) c))), none, some (vI (nI (S.1 + c)))], [], τ) Q := by
    intro k
    induction k with
    | zero =>
      intro c hc hg
      refine m_T_un 60 (fun y pc => (Nat.beq y 100 && (Nat.beq pc 7 || Nat.beq pc 56))) ?_
      refine ⟨fun _ => ?_, fun q => ?_⟩
      · by_cases g : S.2.2.1 = 1 ∧ S.2.1 - S.1 < 8
        · refine end_ _ _ ?_
          unfold t_nv
          rw [show S.2.1 - S.1 = c by omega] at g ⊢
          by_cases g0 : S.2.2.2 = 0
          · rw [if_pos g0, if_pos ⟨g0, g⟩]
          · rw [if_neg g0, if_neg (fun h => g0 h.1)]
        · obtain rfl : c = 0 := by
            rcases hg with hg | hg
            · exact absurd hg g
            · exact hg
          exact skip _ _ g rfl
      · have q : ¬ τ.1 6 0 15 ≤ nI (S.1 + c) := q
        rw [i5] at q
        exact absurd (nI_le (by omega) (by omega)) q
    | succ k ih =>
      intro c hc hg
      obtain ⟨b1, b2⟩ := hB (S.1 + c) (by omega)
      refine m_T_un 60 (fun y pc => (Nat.beq y 100 && (Nat.beq pc 7 || Nat.beq pc 56))) ?_
      refine ⟨fun q => ?_, fun _ => ⟨fun q => ?_, fun q => ⟨fun q2 => ?_, fun q2 => ?_⟩⟩⟩
      · have q : τ.1 6 0 15 ≤ nI (S.1 + c) := q
        rw [i5] at q
        exact absurd q (nI_ge (by omega) (by omega))
      · have q : ¬ τ.1 6 0 13 = nI 2 := q
        rw [i3, t_mt_eq s3 (by omega)] at q
        obtain rfl : c = 0 := by
          rcases hg with hg | hg
          · exact absurd (by omega) q
          · exact hg
        exact skip _ _ (fun h => q (by omega)) rfl
      · have q2 : nI 8 ≤ τ.1 6 0 15 - τ.1 6 0 14 := q2
        rw [i4, i5, pk_sub s1, nI_leI (by omega) (by omega)] at q2
        obtain rfl : c = 0 := by
          rcases hg with hg | hg
          · exact absurd hg.2 (by omega)
          · exact hg
        exact skip _ _ (fun h => by omega) rfl
      · have q : τ.1 6 0 13 = nI 2 := q
        have q2 : ¬ nI 8 ≤ τ.1 6 0 15 - τ.1 6 0 14 := q2
        rw [i3, t_mt_eq s3 (by omega)] at q
        rw [i4, i5, pk_sub s1, nI_leI (by omega) (by omega)] at q2
        have cl : (nI (S.1 + c)).toNatClampNeg = S.1 + c := k_cl (by omega)
        have hb : τ.1 13 5 (nI (S.1 + c)).toNatClampNeg = nI (B (S.1 + c)) := by rw [cl, i9 13 5 (by omega)]; exact b1
        refine ⟨k_in (n := 500) (show S.1 + c < 500 by omega) (by decide), ?_⟩
        have lt := t_pk_lt (X := fun i => B (S.1 + i)) c (fun i hi => (hB (S.1 + i) (by omega)).2)
        have p : 256 ^ c ≤ 256 ^ 7 := Nat.pow_le_pow_right (by omega) (by omega)
        have e := ih (c + 1) (by omega) (Or.inl ⟨by omega, by omega⟩)
        rw [show t_pk (fun i => B (S.1 + i)) (c + 1) = t_pk (fun i => B (S.1 + i)) c * 256 + B (S.1 + c) from rfl, ← t_shl8 (by omega) b2, ← hb, ← Nat.add_assoc, nI_succ (S.1 + c)] at e
        exact e
  have go : ∀ y : Int32, y = nI S.1 → m_T E 65535 (r + 1) 100 (7, [some (vR 6 0), some (vL (lN 0)), none, some (vI y)], [], τ) Q := fun y hy => by
    subst hy
    exact key (S.2.1 - S.1) 0 (by omega) (Or.inr rfl)
  refine m_T_un 40 (fun y pc => (Nat.beq y 100 && Nat.beq pc 7)) ?_
  exact go _ i4
end MWords
