/-! pair feed -/
theorem k_bw (x : BitVec 64) (n : Nat) (h : n ≤ 56) : BitVec.signExtend 32 (x >>> n) &&& 255#32 = BitVec.signExtend 32 (x.sshiftRight n) &&& 255#32 := by
  apply BitVec.eq_of_getLsbD_eq
  intro i hi
  rw [BitVec.getLsbD_and, BitVec.getLsbD_and, BitVec.getLsbD_signExtend, BitVec.getLsbD_signExtend]
  by_cases h8 : i < 8
  · rw [if_pos (by omega), if_pos (by omega), BitVec.getLsbD_ushiftRight, BitVec.getLsbD_sshiftRight, if_pos (by omega), show decide (64 ≤ i) = false by simp; omega]
    simp
  · have e : (255#32).getLsbD i = false := by
      rw [show (255#32 : BitVec 32) = BitVec.ofNat 32 (2 ^ 8 - 1) from rfl, BitVec.getLsbD_ofNat, Nat.testBit_two_pow_sub_one]
      simp; omega
    rw [e, Bool.and_false, Bool.and_false]
theorem k_bw2 (x : BitVec 64) : BitVec.signExtend 32 (x &&& 255#64) = BitVec.signExtend 32 x &&& 255#32 := by
  apply BitVec.eq_of_getLsbD_eq
  intro i hi
  rw [BitVec.getLsbD_and, BitVec.getLsbD_signExtend, BitVec.getLsbD_signExtend, if_pos (by omega), if_pos (by omega), BitVec.getLsbD_and]
  rw [show (255#32 : BitVec 32) = BitVec.ofNat 32 (2 ^ 8 - 1) from rfl, show (255#64 : BitVec 64) = BitVec.ofNat 64 (2 ^ 8 - 1) from rfl, BitVec.getLsbD_ofNat, BitVec.getLsbD_ofNat]
  rw [show decide (i < 64) = true by simp; omega, show decide (i < 32) = true by simp; omega]
  simp only [Bool.true_and]
def f_c (a : Int64) (k : Nat) : Int32 := ((a.toUInt64 >>> (((Int8.ofInt 8).toInt32 * nI k).toInt64.toUInt64 &&& Int64.toUInt64 63)).toInt64).toInt32 &&& (Int16.ofInt 255).toInt32
def f_m (a : Int64) (k : Nat) : Int32 := ((a >>> (((Int8.ofInt 8).toInt32 * nI k).toInt64 &&& 63)) &&& m_nth m_kL 3 0).toInt32
theorem f_eq (a : Int64) (k : Nat) (hk : k < 8) : f_c a k = f_m a k := by
  have key : ∀ (u : UInt64) (s : Int64) (n : Nat), u.toBitVec.toNat = n → s.toBitVec.toNat = n → s.toBitVec.smod 64 = s.toBitVec → n ≤ 56 → ((a.toUInt64 >>> u).toInt64).toInt32 &&& (Int16.ofInt 255).toInt32 = ((a >>> s) &&& 255).toInt32 := by
    intro u s n hu hs hm hn
    apply Int32.toBitVec_inj.mp
    have e1 : (((a.toUInt64 >>> u).toInt64).toInt32 &&& (Int16.ofInt 255).toInt32).toBitVec = BitVec.signExtend 32 (a.toBitVec >>> n) &&& 255#32 := by
      rw [Int32.toBitVec_and, Int64.toBitVec_toInt32]
      congr 1
      show BitVec.signExtend 32 (a.toBitVec >>> (u.toBitVec % 64)) = _
      congr 1
      rw [BitVec.ushiftRight_eq', BitVec.toNat_umod, hu]
      congr 1
      show n % 64 = n
      omega
    have e2 : ((a >>> s) &&& 255).toInt32.toBitVec = BitVec.signExtend 32 (a.toBitVec.sshiftRight n) &&& 255#32 := by
      rw [Int64.toBitVec_toInt32, Int64.toBitVec_and]
      rw [← k_bw2]
      congr 2
      rw [Int64.toBitVec_shiftRight, BitVec.sshiftRight_eq']
      congr 1
      rw [hm, hs]
    rw [e1, e2]
    exact k_bw _ n hn
  obtain rfl | rfl | rfl | rfl | rfl | rfl | rfl | rfl : k = 0 ∨ k = 1 ∨ k = 2 ∨ k = 3 ∨ k = 4 ∨ k = 5 ∨ k = 6 ∨ k = 7 := by omega
  all_goals exact key _ _ _ rfl rfl (by decide) (by decide)
theorem f_b (a : Int64) (k : Nat) : ∃ b : Nat, b < 256 ∧ f_c a k = nI b := pk_andE _ 8 (by decide)
theorem m_up_eq {σ : m_M} {c v j j' : Nat} {x : Int32} (h : j' = j) : (m_up σ c v j x).1 c v j' = x := if_pos ⟨rfl, rfl, h⟩
theorem m_up_ne {σ : m_M} {c v j j' : Nat} {x : Int32} (h : ¬ j' = j) : (m_up σ c v j x).1 c v j' = σ.1 c v j' := if_neg fun q => h q.2.2
def f_P (σ : m_M) (a : Int64) (L n t : Nat) (τ : m_M) : Prop := τ.1 4 0 1 = nI (L + (n - t)) ∧ (∀ j, t ≤ j → j < n → τ.1 12 28 (L + (n - 1 - j)) = f_c a j) ∧ (∀ j, j < L → τ.1 12 28 j = σ.1 12 28 j) ∧ (∀ c v, ¬ (c = 12 ∧ v = 28) → ¬ (c = 4 ∧ v = 0) → τ.1 c v = σ.1 c v)
theorem s_cfd {E : m_E} {x L n : Nat} {a : Int64} {σ : m_M} {Q : m_F → Prop} (hL : L + n ≤ 500) (hn : n ≤ 8) (hq : ∀ τ, f_P σ a L n 0 τ → Q (0, [], [vI (τ.1 4 0 1)], τ)) : ∀ t τ, t ≤ n → f_P σ a L n t τ → m_T E 65535 (x + 2) 8 (36, [some (vR 0 0), some (vL a), none, some (vI (nI n)), some (vI (nI t + Int32.ofInt (-1)))], [], τ) Q := by
  intro t
  induction t with
  | zero =>
    intro τ ht hP
    refine m_T_un 40 (fun y pc => Nat.beq y 8 && Nat.beq pc 36) ?_
    exact ⟨fun _ => hq τ hP, fun q => absurd (show (nI 0 + Int32.ofInt (-1) : Int32) < 0 by decide) q⟩
  | succ t ih =>
    intro τ ht hP
    rw [k_pred]
    refine m_T_un 40 (fun y pc => (Nat.beq y 8 && Nat.beq pc 36) || Nat.beq y 48) ?_
    refine ⟨fun q => absurd q (nI_pos (by omega)), fun _ => ?_⟩
    obtain ⟨p1, p2, p3, p4⟩ := hP
    refine s_put (v := 28) (L + (n - (t + 1))) ?_ ?_ ?_
    · exact p1
    · show L + (n - (t + 1)) < 500
      omega
    refine ih _ (by omega) ⟨?_, fun j h1 h2 => ?_, fun j h1 => ?_, fun c v h1 h2 => ?_⟩
    · show τ.1 4 0 1 + Int32.ofInt 1 = _
      rw [p1, show Int32.ofInt 1 = nI 1 from rfl, nI_add]
      exact congrArg nI (by omega)
    · show (if 12 = 12 ∧ 28 = 28 ∧ L + (n - 1 - j) = L + (n - (t + 1)) then f_c a t else τ.1 12 28 (L + (n - 1 - j))) = f_c a j
      by_cases e : j = t
      · subst e
        rw [if_pos (by omega)]
      · rw [if_neg (by omega)]
        exact p2 j (by omega) h2
    · show (if 12 = 12 ∧ 28 = 28 ∧ j = L + (n - (t + 1)) then f_c a t else τ.1 12 28 j) = _
      rw [if_neg (by omega)]
      exact p3 j h1
    · rw [m_up_other (by omega), m_up_other (by omega)]
      exact p4 c v h1 h2
def f_Q (σ : m_M) (a : Int64) (L n t : Nat) (τ : m_M) : Prop := τ.1 6 0 9 = nI (L + (n - t)) ∧ (∀ j, t ≤ j → j < n → τ.1 13 5 (L + (n - 1 - j)) = f_m a j) ∧ (∀ j, j < L → τ.1 13 5 j = σ.1 13 5 j) ∧ (∀ c v, ¬ (c = 13 ∧ v = 5) → ¬ (c = 6 ∧ v = 0) → τ.1 c v = σ.1 c v) ∧ (∀ j, ¬ j = 9 → τ.1 6 0 j = σ.1 6 0 j)
theorem s_mfd {E : m_E} {x L n : Nat} {a : Int64} {σ : m_M} {Q : m_F → Prop} (hL : L + n ≤ 500) (hn : n ≤ 8) (hq : ∀ τ, f_Q σ a L n 0 τ → Q (0, [], [vI (τ.1 6 0 9)], τ)) : ∀ t τ, t ≤ n → f_Q σ a L n t τ → m_T E 65535 (x + 2) 92 (40, [some (vR 6 0), some (vL a), none, some (vI (nI n)), some (vI (nI t + Int32.ofInt (-1)))], [], τ) Q := by
  intro t
  induction t with
  | zero =>
    intro τ ht hP
    refine m_T_un 40 (fun y pc => Nat.beq y 92 && Nat.beq pc 40) ?_
    exact ⟨fun _ => hq τ hP, fun q => absurd (show (nI 0 + Int32.ofInt (-1) : Int32) < 0 by decide) q⟩
  | succ t ih =>
    intro τ ht hP
    rw [k_pred]
    refine m_T_un 40 (fun y pc => (Nat.beq y 92 && Nat.beq pc 40)) ?_
    refine ⟨fun q => absurd q (nI_pos (by omega)), fun _ => ?_⟩
    obtain ⟨p1, p2, p3, p4, p5⟩ := hP
    have i0 : (τ.1 6 0 9).toNatClampNeg = L + (n - (t + 1)) := by rw [p1, k_cl (by omega)]
    refine ⟨show vp_in (τ.1 6 0 9) 500 by rw [p1]; exact k_in (by omega) (by decide), ?_⟩
    refine ih _ (by omega) ⟨?_, fun j h1 h2 => ?_, fun j h1 => ?_, fun c v h1 h2 => ?_, fun j h1 => ?_⟩
    · show τ.1 6 0 9 + Int32.ofInt 1 = _
      rw [p1, show Int32.ofInt 1 = nI 1 from rfl, nI_add]
      exact congrArg nI (by omega)
    · show (m_up (m_up τ 13 5 (τ.1 6 0 9).toNatClampNeg (f_m a t)) 6 0 9 _).1 13 5 (L + (n - 1 - j)) = f_m a j
      rw [i0, m_up_other (by omega)]
      by_cases e : j = t
      · subst e
        exact m_up_eq (by omega)
      · rw [m_up_ne (by omega)]
        exact p2 j (by omega) h2
    · show (m_up (m_up τ 13 5 (τ.1 6 0 9).toNatClampNeg (f_m a t)) 6 0 9 _).1 13 5 j = _
      rw [i0, m_up_other (by omega), m_up_ne (by omega)]
      exact p3 j h1
    · rw [m_up_other (by omega), m_up_other (by omega)]
      exact p4 c v h1 h2
    · show (if 6 = 6 ∧ 0 = 0 ∧ j = 9 then _ else τ.1 6 0 j) = _
      rw [if_neg (by omega)]
      exact p5 j h1
theorem s_cfdE {E : m_E} {x L n : Nat} {a : Int64} {σ : m_M} {Q : m_F → Prop} (h1 : σ.1 4 0 1 = nI L) (hL : L + n ≤ 500) (hn : n ≤ 8) (hq : ∀ τ, f_P σ a L n 0 τ → Q (0, [], [vI (τ.1 4 0 1)], τ)) : m_T E 65535 (x + 2) 8 (36, [some (vR 0 0), some (vL a), none, some (vI (nI n)), some (vI (nI n - Int32.ofInt 1))], [], σ) Q := by
  rw [k_sub1]
  exact s_cfd (σ := σ) (L := L) hL hn hq n σ (Nat.le_refl n) ⟨by rw [h1]; exact congrArg nI (by omega), fun j h1 h2 => absurd h2 (by omega), fun _ _ => rfl, fun _ _ _ _ => rfl⟩
theorem s_mfdE {E : m_E} {x L n : Nat} {a : Int64} {σ : m_M} {Q : m_F → Prop} (h1 : σ.1 6 0 9 = nI L) (hL : L + n ≤ 500) (hn : n ≤ 8) (hq : ∀ τ, f_Q σ a L n 0 τ → Q (0, [], [vI (τ.1 6 0 9)], τ)) : m_T E 65535 (x + 2) 92 (40, [some (vR 6 0), some (vL a), none, some (vI (nI n)), some (vI (nI n - Int32.ofInt 1))], [], σ) Q := by
  rw [k_sub1]
  exact s_mfd (σ := σ) (L := L) hL hn hq n σ (Nat.le_refl n) ⟨by rw [h1]; exact congrArg nI (by omega), fun j h1 h2 => absurd h2 (by omega), fun _ _ => rfl, fun _ _ _ _ => rfl, fun _ _ => rfl⟩
