/-! the text: the model's steps -/
theorem t_lEQ {a b : Nat} (ha : a < 2 ^ 64) (hb : b < 2 ^ 64) : lN a = lN b ↔ a = b := by
  constructor
  · intro h
    have e := congrArg (fun x : Int64 => x.toBitVec.toNat) h
    have e : (BitVec.ofNat 64 a).toNat = (BitVec.ofNat 64 b).toNat := e
    rw [BitVec.toNat_ofNat, BitVec.toNat_ofNat, Nat.mod_eq_of_lt ha, Nat.mod_eq_of_lt hb] at e
    exact e
  · intro h
    rw [h]
section MReads
variable {E : m_E} {r : Nat} {μ τ : m_M} {Q : m_F → Prop} {B : Nat → Nat} {n : Nat} {S : t_S}
theorem p_Mb {k : Nat} (hM : p_M μ τ n S) : p_M μ (m_up (m_up τ 6 0 16 (nI k)) 6 0 17 (τ.1 6 0 14)) n (S.1, S.2.1, S.2.2.1, k) := by
  obtain ⟨fa, hN, -⟩ := hM
  exact ⟨_, p_N17 (p_N16 hN rfl), fun _ => hN.1.2.2.2.1⟩
def k_mm : Nat → Nat → Bool := fun y pc => Nat.beq pc 0 && (Nat.beq y 95 || Nat.beq y 100 || Nat.beq y 101 || Nat.beq y 103 || Nat.beq y 104 || Nat.beq y 105 || Nat.beq y 106 || Nat.beq y 107 || Nat.beq y 108 || Nat.beq y 109 || Nat.beq y 87)
theorem s_mmu (hn : n ≤ 500) (hB : ∀ j, j < n → μ.1 13 5 j = nI (B j) ∧ B j < 256) (hS : t_ok B n S) (hM : p_M μ τ n S) (b : Bool) {x : Int32} (hx : x = k_bit b) (hq : ∀ τ', p_M μ τ' n (t_ac B n b S) → Q (0, [], [], τ')) : m_T E 65535 (r + 2) 101 (0, [some (vR 6 0), some (vI x)], [], τ) Q := by
  subst hx
  obtain ⟨fa, ⟨⟨i1, i2, i3, i4, i5, i6, i7⟩, i8, i9⟩, -⟩ := id hM
  have s4 := hS.2.2.2.1
  have e16 : (τ.1 6 0 16 = nI 0) ↔ S.2.2.2 = 0 := by rw [i6, nI_eq (by omega) (by omega)]
  have same : ¬ S.2.2.2 = 0 → ∀ Q : m_F → Prop, (∀ τ', p_M μ τ' n (t_ac B n b S) → Q (0, [], [], τ')) → Q (0, [], [], τ) := fun g Q h => h τ (by unfold t_ac; rw [if_neg g]; exact hM)
  refine m_T_un 60 (fun y pc => k_mm y pc) ?_
  cases b with
  | true =>
    refine ⟨fun _ => ⟨fun q => same (fun g => q (e16.mpr g)) Q hq, fun q => ?_⟩, fun q => absurd q k_no1⟩
    have g := e16.mp q
    refine s_mnx hn hB hS g hM (fun τ' h' => hq τ' ?_)
    unfold t_ac
    rw [if_pos g]
    exact h'
  | false =>
    refine ⟨fun q => absurd rfl q, fun _ => ⟨fun q => ⟨fun _ => same (fun g => q (e16.mpr g)) Q hq, fun q2 => absurd q2 q⟩, fun q => ?_⟩⟩
    have g := e16.mp q
    refine ⟨fun _ => hq _ ?_, fun q2 => absurd q2 (show ¬ Int32.ofInt 1 = 0 from k_no1)⟩
    unfold t_ac
    rw [if_pos g]
    exact p_Mb hM
theorem s_mkn (hn : n ≤ 500) (hB : ∀ j, j < n → μ.1 13 5 j = nI (B j) ∧ B j < 256) (hS : t_ok B n S) (hM : p_M μ τ n S) (b : Bool) {x : Int32} (hx : S.2.2.2 = 0 → (x = -1000000 ↔ b = false)) (hq : ∀ τ', p_M μ τ' n (t_ac B n b S) → Q (0, [], [], τ')) : m_T E 65535 (r + 3) 104 (0, [some (vR 6 0), some (vI x)], [], τ) Q := by
  obtain ⟨fa, ⟨⟨i1, i2, i3, i4, i5, i6, i7⟩, i8, i9⟩, -⟩ := id hM
  have s4 := hS.2.2.2.1
  have e16 : (τ.1 6 0 16 = nI 0) ↔ S.2.2.2 = 0 := by rw [i6, nI_eq (by omega) (by omega)]
  refine m_T_un 60 (fun y pc => k_mm y pc) ?_
  refine ⟨fun q => ?_, fun q => ⟨fun q2 => ?_, fun q2 => ?_⟩⟩
  · refine hq τ ?_
    unfold t_ac
    rw [if_neg (fun g => q (e16.mpr g))]
    exact hM
  · have z := (hx (e16.mp q)).mp q2
    rw [z] at hq
    exact s_mmu hn hB hS hM false rfl hq
  · have z : b = true := by
      cases b with
      | true => rfl
      | false => exact absurd ((hx (e16.mp q)).mpr rfl) q2
    rw [z] at hq
    exact s_mmu hn hB hS hM true rfl hq
theorem s_men (hn : n ≤ 500) (hB : ∀ j, j < n → μ.1 13 5 j = nI (B j) ∧ B j < 256) (hS : t_ok B n S) (hM : p_M μ τ n S) (hq : ∀ τ', p_M μ τ' n (t_ac B n (Nat.beq S.2.2.1 3) S) → Q (0, [], [], τ')) : m_T E 65535 (r + 3) 107 (0, [some (vR 6 0)], [], τ) Q := by
  obtain ⟨fa, ⟨⟨i1, i2, i3, i4, i5, i6, i7⟩, i8, i9⟩, -⟩ := id hM
  have s4 := hS.2.2.2.1
  have e16 : (τ.1 6 0 16 = nI 0) ↔ S.2.2.2 = 0 := by rw [i6, nI_eq (by omega) (by omega)]
  refine m_T_un 60 (fun y pc => k_mm y pc) ?_
  refine ⟨fun q => ?_, fun q => ⟨fun q2 => ?_, fun q2 => ?_⟩⟩
  · refine hq τ ?_
    unfold t_ac
    rw [if_neg (fun g => q (e16.mpr g))]
    exact hM
  · have q2 : ¬ τ.1 6 0 13 = nI 4 := q2
    rw [i3, t_mt_eq hS.2.2.1 (by omega)] at q2
    rw [show Nat.beq S.2.2.1 3 = false from Bool.eq_false_iff.mpr (fun h => q2 (by have := Nat.eq_of_beq_eq_true h; omega))] at hq
    exact s_mmu hn hB hS hM false rfl hq
  · have q2 : τ.1 6 0 13 = nI 4 := q2
    rw [i3, t_mt_eq hS.2.2.1 (by omega)] at q2
    rw [show Nat.beq S.2.2.1 3 = true from Nat.beq_eq.mpr (by omega)] at hq
    exact s_mmu hn hB hS hM true rfl hq
theorem s_mfi (hn : n ≤ 500) (hB : ∀ j, j < n → μ.1 13 5 j = nI (B j) ∧ B j < 256) (hS : t_ok B n S) (hM : p_M μ τ n S) (hq : Q (0, [], [vI (nI (t_vl B S))], τ)) : m_T E 65535 (r + 1) 106 (0, [some (vR 6 0), none, none], [], τ) Q := by
  obtain ⟨fa, ⟨⟨i1, i2, i3, i4, i5, i6, i7⟩, i8, i9⟩, -⟩ := id hM
  obtain ⟨s1, s2, s3, s4, s5, s6, s7⟩ := id hS
  by_cases g : S.2.2.1 = 2
  · have hv : t_vl B S = t_dv B (S.2.1 - S.1) S.1 0 := by
      unfold t_vl
      rw [show Nat.beq S.2.2.1 2 = true from Nat.beq_eq.mpr g]
      rfl
    have key : ∀ k i v, i + k = S.2.1 → S.1 ≤ i → t_vl B S = t_dv B k i v → m_T E 65535 (r + 1) 106 (7, [some (vR 6 0), some (vI (nI v)), some (vI (nI i))], [], τ) Q := by
      intro k
      induction k with
      | zero =>
        intro i v hi hi2 hv
        have hv : t_vl B S = v := hv
        rw [hv] at hq
        refine m_T_un 60 (fun y pc => (Nat.beq y 106 && Nat.beq pc 7)) ?_
        refine ⟨fun _ => hq, fun q => ?_⟩
        have q : ¬ τ.1 6 0 15 ≤ nI i := q
        rw [i5] at q
        exact absurd (nI_le (by omega) (by omega)) q
      | succ k ih =>
        intro i v hi hi2 hv
        obtain ⟨b1, b2⟩ := hB i (by omega)
        have cl : (nI i).toNatClampNeg = i := k_cl (by omega)
        have hb : τ.1 13 5 (nI i).toNatClampNeg = nI (B i) := by rw [cl, i9 13 5 (by omega)]; exact b1
        have d := t_to2 ((s5 (Or.inr g) i hi2 (by omega)).trans g)
        refine m_T_un 60 (fun y pc => (Nat.beq y 106 && Nat.beq pc 7)) ?_
        refine ⟨fun q => ?_, fun _ => ⟨fun q => ?_, fun _ => ⟨k_in (n := 500) (by omega) (by decide), ?_⟩⟩⟩
        · have q : τ.1 6 0 15 ≤ nI i := q
          rw [i5] at q
          exact absurd q (nI_ge (by omega) (by omega))
        · have q : ¬ τ.1 6 0 13 = nI 3 := q
          rw [i3, t_mt_eq s3 (by omega)] at q
          exact absurd (by omega) q
        · have e := ih (i + 1) (10 * v + B i - 48) (by omega) (by omega) hv
          rw [nI_succ i, ← t_dig d.1, ← hb] at e
          exact e
    have go : ∀ y : Int32, y = nI S.1 → m_T E 65535 (r + 1) 106 (7, [some (vR 6 0), some (vI (nI 0)), some (vI y)], [], τ) Q := fun y hy => by
      subst hy
      exact key (S.2.1 - S.1) S.1 0 (by omega) (Nat.le_refl _) hv
    refine m_T_un 60 (fun y pc => (Nat.beq y 106 && Nat.beq pc 7)) ?_
    exact go _ i4
  · have hv : t_vl B S = 0 := by
      unfold t_vl
      rw [show Nat.beq S.2.2.1 2 = false from Bool.eq_false_iff.mpr (fun h => g (Nat.eq_of_beq_eq_true h))]
      rfl
    rw [hv] at hq
    refine m_T_un 60 (fun y pc => (Nat.beq y 106 && Nat.beq pc 7)) ?_
    refine m_T_un 60 (fun y pc => (Nat.beq y 106 && Nat.beq pc 7)) ?_
    refine ⟨fun _ => hq, fun _ => ⟨fun _ => hq, fun q => ?_⟩⟩
    have q : τ.1 6 0 13 = nI 3 := q
    rw [i3, t_mt_eq s3 (by omega)] at q
    exact absurd (by omega) g
theorem s_mnu (hn : n ≤ 500) (hB : ∀ j, j < n → μ.1 13 5 j = nI (B j) ∧ B j < 256) (hS : t_ok B n S) (hM : p_M μ τ n S) {most : Nat} {y : Int32} (hm : most < 1000) (hy : y = nI most) (hq : ∀ τ' x, (S.2.2.2 = 0 → x = nI (t_vl B S)) → p_M μ τ' n (t_nm B n most S) → Q (0, [], [vI x], τ')) : m_T E 65535 (r + 3) 105 (0, [some (vR 6 0), some (vI (Int32.ofInt 0)), some (vI y), none], [], τ) Q := by
  subst hy
  obtain ⟨fa, ⟨⟨i1, i2, i3, i4, i5, i6, i7⟩, i8, i9⟩, -⟩ := id hM
  have s4 := hS.2.2.2.1
  have s3 := hS.2.2.1
  have vl := t_vl_le hS
  have k0 : ((Int32.ofInt 0).toInt64).toInt = 0 := by decide
  refine m_T_un 60 (fun y pc => k_mm y pc || (Nat.beq y 105 && Nat.beq pc 39)) ?_
  refine ⟨fun q => ?_, fun q => ?_⟩
  · have q : τ.1 6 0 16 ≤ 0 := q
    have g : S.2.2.2 = 0 := by
      rw [i6] at q
      exact Nat.eq_zero_of_not_pos fun h => nI_nle h (by omega) q
    have fin : ∀ (S' : t_S) (τ' : m_M), t_ok B n S' → S'.2.2.1 = S.2.2.1 → p_M μ τ' n S' → t_ac B n (Nat.beq S.2.2.1 2) S' = t_nm B n most S → m_T E 65535 (r + 3) 105 (39, [some (vR 6 0), some (vI (Int32.ofInt 0)), some (vI (nI most)), some (vI (nI (t_vl B S)))], [], τ') Q := fun S' τ' hS' ht hM' he => by
      obtain ⟨fa', ⟨⟨j1, j2, j3, j4, j5, j6, j7⟩, j8, j9⟩, -⟩ := id hM'
      rw [ht] at j3
      have hq' : ∀ τ'', p_M μ τ'' n (t_ac B n (Nat.beq S.2.2.1 2) S') → Q (0, [], [vI (nI (t_vl B S))], τ'') := fun τ'' h => hq τ'' _ (fun _ => rfl) (by rw [← he]; exact h)
      refine m_T_un 60 k_mm ?_
      refine ⟨fun q => ?_, fun q => ?_⟩
      · have q : ¬ τ'.1 6 0 13 = nI 3 := q
        rw [j3, t_mt_eq s3 (by omega)] at q
        exact s_mmu hn hB hS' hM' (Nat.beq S.2.2.1 2) (by rw [show Nat.beq S.2.2.1 2 = false from Bool.eq_false_iff.mpr (fun h => q (by have := Nat.eq_of_beq_eq_true h; omega))]; rfl) hq'
      · have q : τ'.1 6 0 13 = nI 3 := q
        rw [j3, t_mt_eq s3 (by omega)] at q
        exact s_mmu hn hB hS' hM' (Nat.beq S.2.2.1 2) (by rw [show Nat.beq S.2.2.1 2 = true from Nat.beq_eq.mpr (by omega)]; rfl) hq'
    refine s_mfi hn hB hS hM ⟨fun q2 => ?_, fun q2 => ?_⟩
    · have q2 : ¬ τ.1 6 0 13 = nI 3 := q2
      rw [i3, t_mt_eq s3 (by omega)] at q2
      refine fin S τ hS rfl hM ?_
      unfold t_nm
      rw [if_pos g, if_neg (by unfold t_vl; rw [show Nat.beq S.2.2.1 2 = false from Bool.eq_false_iff.mpr (fun h => q2 (by have := Nat.eq_of_beq_eq_true h; omega))]; exact Nat.not_lt_zero most)]
    · have q2 : τ.1 6 0 13 = nI 3 := q2
      rw [i3, t_mt_eq s3 (by omega)] at q2
      by_cases g2 : most < t_vl B S
      · refine s_inA0 0 most k0 (by rw [Int32.toInt_toInt64]; exact k_nI (by omega)) (by rw [k_nI (by omega)]; omega) ⟨fun q3 => absurd rfl q3, fun _ => ⟨fun q3 => ?_, fun _ => ?_⟩⟩
        · have q3 : ¬ τ.1 6 0 16 = nI 0 := q3
          rw [i6, g] at q3
          exact absurd rfl q3
        · refine fin (S.1, S.2.1, S.2.2.1, 2) _ ⟨hS.1, hS.2.1, hS.2.2.1, (show 2 ≤ 3 by omega), hS.2.2.2.2⟩ rfl (p_Mb hM) ?_
          unfold t_nm t_ac
          rw [if_pos g, if_pos g2, if_neg (show ¬ 2 = 0 by omega)]
      · refine s_inA1 0 most k0 (by rw [Int32.toInt_toInt64]; exact k_nI (by omega)) (by rw [k_nI (by omega)]; omega) (by rw [k_nI (by omega)]; omega) ⟨fun _ => ?_, fun q3 => absurd q3 k_no1⟩
        refine fin S τ hS rfl hM ?_
        unfold t_nm
        rw [if_pos g, if_neg g2]
  · have q : ¬ τ.1 6 0 16 ≤ 0 := q
    have g : ¬ S.2.2.2 = 0 := fun h => by
      rw [i6, h] at q
      exact absurd (by decide) q
    refine hq τ _ (fun h => absurd h g) ?_
    unfold t_nm
    rw [if_neg g]
    exact hM
theorem t_pw_lt : ∀ v, v < 10 → t_pw v < 2 ^ 63 := by decide
theorem s_mlo (hS : t_ok B n S) {x : Int64} (hx : x = lN (t_nv B S)) (hq : ∀ y : Int32, (S.2.2.2 = 0 → (t_lw B S = 3 ∧ y = -1000000) ∨ (t_lw B S < 3 ∧ y = nI (t_lw B S))) → Q (0, [], [vI y], τ)) : m_T E 65535 r 103 (0, [some (vL x), none], [], τ) Q := by
  subst hx
  have nl := t_nv_lt hS
  have eq : ∀ v, v < 10 → t_wl v < 8 → ∀ c : Int64, c = lN (t_pw v) → (S.2.2.2 = 0 → (lg_cmp (lN (t_nv B S)) c = 0 ↔ t_sw B S v = true)) := fun v hv h8 c hc h0 => by
    have := t_pw_lt v hv
    rw [hc, lg_cmp_eq, t_lEQ (by omega) (by omega), t_nv_w hS h0 hv h8]
  have f : ∀ v, ¬ t_sw B S v = true → t_sw B S v = false := fun v h => Bool.eq_false_iff.mpr h
  refine m_T_un 60 m_no ?_
  refine ⟨fun q1 => ⟨fun q2 => ⟨fun q3 => hq _ (fun h0 => Or.inl ⟨?_, rfl⟩), fun q3 => hq _ (fun h0 => Or.inr ?_)⟩, fun q2 => hq _ (fun h0 => Or.inr ?_)⟩, fun q1 => hq _ (fun h0 => Or.inr ?_)⟩
  · have e1 := f 1 (fun h => q1 ((eq 1 (by omega) (by decide) _ rfl h0).mpr h))
    have e2 := f 2 (fun h => q2 ((eq 2 (by omega) (by decide) _ rfl h0).mpr h))
    have e3 := f 3 (fun h => q3 ((eq 3 (by omega) (by decide) _ rfl h0).mpr h))
    unfold t_lw
    rw [e1, e2, e3]
    rfl
  · have e1 := f 1 (fun h => q1 ((eq 1 (by omega) (by decide) _ rfl h0).mpr h))
    have e2 := f 2 (fun h => q2 ((eq 2 (by omega) (by decide) _ rfl h0).mpr h))
    have e3 := (eq 3 (by omega) (by decide) _ rfl h0).mp q3
    have e : t_lw B S = 2 := by
      unfold t_lw
      rw [e1, e2, e3]
      rfl
    rw [e]
    exact ⟨by omega, rfl⟩
  · have e1 := f 1 (fun h => q1 ((eq 1 (by omega) (by decide) _ rfl h0).mpr h))
    have e2 := (eq 2 (by omega) (by decide) _ rfl h0).mp q2
    have e : t_lw B S = 1 := by
      unfold t_lw
      rw [e1, e2]
      rfl
    rw [e]
    exact ⟨by omega, rfl⟩
  · have e1 := (eq 1 (by omega) (by decide) _ rfl h0).mp q1
    have e : t_lw B S = 0 := by
      unfold t_lw
      rw [e1]
      rfl
    rw [e]
    exact ⟨by omega, rfl⟩
end MReads
