/-! the text: the model's kinds -/
section Told
variable {E : m_E} {r : Nat} {μ τ : m_M} {Q : m_F → Prop} {B : Nat → Nat} {n : Nat} {S : t_S}
theorem t_sw_len {v : Nat} (h : t_sw B S v = true) : S.2.2.1 = 1 ∧ S.2.1 - S.1 = t_wl v := by
  unfold t_sw at h
  rw [Bool.and_eq_true, Bool.and_eq_true] at h
  exact ⟨Nat.eq_of_beq_eq_true h.1, Nat.eq_of_beq_eq_true h.2.1⟩
theorem t_pw_ne : ∀ v, v < 10 → ¬ t_pw v = 0 := by decide
theorem s_mtk (hn : n ≤ 500) (hB : ∀ j, j < n → μ.1 13 5 j = nI (B j) ∧ B j < 256) (hS : t_ok B n S) (hM : p_M μ τ n S) (hq : ∀ y : Int32, (S.2.2.2 = 0 → (t_kd B S = 0 ∧ y = -1000000) ∨ (1 ≤ t_kd B S ∧ y = nI (t_kd B S))) → Q (0, [], [vI y], τ)) : m_T E 65535 (r + 2) 109 (0, [some (vR 6 0), none, none, none, none, none], [], τ) Q := by
  obtain ⟨fa, ⟨⟨i1, i2, i3, i4, i5, i6, i7⟩, i8, i9⟩, -⟩ := id hM
  obtain ⟨s1, s2, s3, s4, s5, s6, s7⟩ := id hS
  have nl := t_nv_lt hS
  have eq : ∀ v, v < 10 → t_wl v < 8 → ∀ c : Int64, c = lN (t_pw v) → (S.2.2.2 = 0 → (lg_cmp (lN (t_nv B S)) c = 0 ↔ t_sw B S v = true)) := fun v hv h8 c hc h0 => by
    have := t_pw_lt v hv
    rw [hc, lg_cmp_eq, t_lEQ (by omega) (by omega), t_nv_w hS h0 hv h8]
  have two : S.2.2.2 = 0 → ∀ u v, u < 10 → v < 10 → t_wl u < 8 → t_wl v < 8 → t_sw B S u = true → t_sw B S v = true → t_pw u = t_pw v := fun h0 u v hu hv hu8 hv8 h1 h2 => ((t_nv_w hS h0 hu hu8).mpr h1).symm.trans ((t_nv_w hS h0 hv hv8).mpr h2)
  have f : ∀ v, ¬ t_sw B S v = true → t_sw B S v = false := fun v h => Bool.eq_false_iff.mpr h
  have nz : S.2.2.2 = 0 → ¬ t_nv B S = 0 → ¬ t_sw B S 9 = true := fun h0 hz h => by
    obtain ⟨l1, l2⟩ := t_sw_len h
    unfold t_nv at hz
    rw [if_neg (fun g => by have e9 : t_wl 9 = 8 := rfl; omega)] at hz
    exact hz rfl
  refine m_T_un 60 (fun y pc => k_mm y pc || (Nat.beq y 109 && Nat.beq pc 70)) ?_
  refine s_mnm hn hB hS hM ⟨fun q0 => ?_, fun q0 => ?_⟩
  · have q0 : lg_cmp (lN (t_nv B S)) (lN 0) = 0 := q0
    rw [lg_cmp_eq, t_lEQ (by omega) (by omega)] at q0
    have z : S.2.2.2 = 0 → ∀ v, v < 10 → t_wl v < 8 → t_sw B S v = false := fun h0 v hv h8 => f v (fun h => t_pw_ne v hv (((t_nv_w hS h0 hv h8).mpr h).symm.trans q0))
    have end_ : ∀ (v : Nat) (k : Int32) (w0 : Int64), (S.2.2.2 = 0 → v < 2 ^ 64 ∧ (v = t_pw 9 ↔ t_sw B S 9 = true)) → m_T E 65535 (r + 2) 109 (121, [some (vR 6 0), some (vL w0), none, some (vL (lN v)), none, some (vI k)], [], τ) Q := fun v k w0 hv => by
      refine m_T_un 40 m_no ?_
      refine ⟨fun q => hq _ (fun h0 => ?_), fun q => ⟨fun q2 => hq _ (fun h0 => ?_), fun q2 => hq _ (fun h0 => ?_)⟩⟩
      · have q : ¬ τ.1 6 0 16 = nI 0 := q
        rw [i6, h0] at q
        exact absurd rfl q
      · obtain ⟨v1, v2⟩ := hv h0
        have q2 : ¬ lg_cmp (lN v) (lN (t_pw 9)) = 0 := q2
        rw [lg_cmp_eq, t_lEQ v1 (by have := t_pw_lt 9 (by omega); omega), v2] at q2
        refine Or.inl ⟨?_, rfl⟩
        unfold t_kd
        rw [z h0 5 (by omega) (by decide), z h0 6 (by omega) (by decide), z h0 7 (by omega) (by decide), z h0 8 (by omega) (by decide), f 9 q2]
        rfl
      · obtain ⟨v1, v2⟩ := hv h0
        have q2 : lg_cmp (lN v) (lN (t_pw 9)) = 0 := q2
        rw [lg_cmp_eq, t_lEQ v1 (by have := t_pw_lt 9 (by omega); omega), v2] at q2
        have e : t_kd B S = 5 := by
          unfold t_kd
          rw [z h0 5 (by omega) (by decide), z h0 6 (by omega) (by decide), z h0 7 (by omega) (by decide), z h0 8 (by omega) (by decide), q2]
          rfl
        rw [e]
        exact Or.inr ⟨by omega, rfl⟩
    have no : ∀ (k : Int32) (w0 : Int64), ¬ (S.2.2.1 = 1 ∧ S.2.1 - S.1 = 8) → m_T E 65535 (r + 2) 109 (121, [some (vR 6 0), some (vL w0), none, some (vL (lN 0)), none, some (vI k)], [], τ) Q := fun k w0 g => end_ 0 k w0 (fun h0 => ⟨by omega, ⟨fun h => absurd h.symm (t_pw_ne 9 (by omega)), fun h => absurd (t_sw_len h) g⟩⟩)
    have key : ∀ (w0 : Int64) k c, c + k = S.2.1 - S.1 → ((S.2.2.1 = 1 ∧ S.2.1 - S.1 = 8) ∨ c = 0) → m_T E 65535 (r + 2) 109 (70, [some (vR 6 0), some (vL w0), none, some (vL (lN (t_pk (fun i => B (S.1 + i)) c))), none, some (vI (nI (S.1 + c)))], [], τ) Q := by
      intro w0 k
      induction k with
      | zero =>
        intro c hc hg
        refine m_T_un 60 (fun y pc => (Nat.beq y 109 && (Nat.beq pc 70 || Nat.beq pc 121))) ?_
        refine ⟨fun _ => ?_, fun q => ?_⟩
        · by_cases g : S.2.2.1 = 1 ∧ S.2.1 - S.1 = 8
          · refine end_ _ _ _ (fun h0 => ⟨?_, ?_⟩)
            · have lt := t_pk_lt (X := fun i => B (S.1 + i)) c (fun i hi => (hB (S.1 + i) (by omega)).2)
              have p : 256 ^ c ≤ 256 ^ 8 := Nat.pow_le_pow_right (by omega) (by omega)
              omega
            · rw [show c = S.2.1 - S.1 by omega]
              exact t_word hS g.1 (by omega)
          · obtain rfl : c = 0 := by
              rcases hg with hg | hg
              · exact absurd hg g
              · exact hg
            exact no _ _ g
        · have q : ¬ τ.1 6 0 15 ≤ nI (S.1 + c) := q
          rw [i5] at q
          exact absurd (nI_le (by omega) (by omega)) q
      | succ k ih =>
        intro c hc hg
        obtain ⟨b1, b2⟩ := hB (S.1 + c) (by omega)
        refine m_T_un 60 (fun y pc => (Nat.beq y 109 && (Nat.beq pc 70 || Nat.beq pc 121))) ?_
        refine ⟨fun q => ?_, fun _ => ⟨fun q => ?_, fun q => ⟨fun q2 => ?_, fun q2 => ?_⟩⟩⟩
        · have q : τ.1 6 0 15 ≤ nI (S.1 + c) := q
          rw [i5] at q
          exact absurd q (nI_ge (by omega) (by omega))
        · have q : ¬ τ.1 6 0 13 = nI 2 := q
          rw [i3, t_mt_eq s3 (by omega)] at q
          obtain rfl : c = 0 := by
            rcases hg with hg | hg
            · exact absurd (by omega) q
            · exact hg
          exact no _ _ (fun h => q (by omega))
        · have q2 : ¬ τ.1 6 0 15 - τ.1 6 0 14 = nI 8 := q2
          rw [i4, i5, pk_sub s1, nI_eq (by omega) (by omega)] at q2
          obtain rfl : c = 0 := by
            rcases hg with hg | hg
            · exact absurd hg.2 q2
            · exact hg
          exact no _ _ (fun h => q2 h.2)
        · have q : τ.1 6 0 13 = nI 2 := q
          have q2 : τ.1 6 0 15 - τ.1 6 0 14 = nI 8 := q2
          rw [i3, t_mt_eq s3 (by omega)] at q
          rw [i4, i5, pk_sub s1, nI_eq (by omega) (by omega)] at q2
          have cl : (nI (S.1 + c)).toNatClampNeg = S.1 + c := k_cl (by omega)
          have hb : τ.1 13 5 (nI (S.1 + c)).toNatClampNeg = nI (B (S.1 + c)) := by rw [cl, i9 13 5 (by omega)]; exact b1
          refine ⟨k_in (n := 500) (show S.1 + c < 500 by omega) (by decide), ?_⟩
          have lt := t_pk_lt (X := fun i => B (S.1 + i)) c (fun i hi => (hB (S.1 + i) (by omega)).2)
          have p : 256 ^ c ≤ 256 ^ 7 := Nat.pow_le_pow_right (by omega) (by omega)
          have e := ih (c + 1) (by omega) (Or.inl ⟨by omega, by omega⟩)
          rw [show t_pk (fun i => B (S.1 + i)) (c + 1) = t_pk (fun i => B (S.1 + i)) c * 256 + B (S.1 + c) from rfl, ← t_shl8 (by omega) b2, ← hb, ← Nat.add_assoc, nI_succ (S.1 + c)] at e
          exact e
    have go : ∀ (w0 : Int64) (y : Int32), y = nI S.1 → m_T E 65535 (r + 2) 109 (70, [some (vR 6 0), some (vL w0), none, some (vL (lN 0)), none, some (vI y)], [], τ) Q := fun w0 y hy => by
      subst hy
      exact key w0 (S.2.1 - S.1) 0 (by omega) (Or.inr rfl)
    exact go _ _ i4
  · have q0 : ¬ lg_cmp (lN (t_nv B S)) (lN 0) = 0 := q0
    rw [lg_cmp_eq, t_lEQ (by omega) (by omega)] at q0
    refine ⟨fun q5 => ⟨fun q6 => ⟨fun q8 => ⟨fun q7 => hq _ (fun h0 => Or.inl ⟨?_, rfl⟩), fun q7 => hq _ (fun h0 => Or.inr ?_)⟩, fun q8 => hq _ (fun h0 => Or.inr ?_)⟩, fun q6 => hq _ (fun h0 => Or.inr ?_)⟩, fun q5 => hq _ (fun h0 => Or.inr ?_)⟩
    · have e5 := f 5 (fun h => q5 ((eq 5 (by omega) (by decide) _ rfl h0).mpr h))
      have e6 := f 6 (fun h => q6 ((eq 6 (by omega) (by decide) _ rfl h0).mpr h))
      have e8 := f 8 (fun h => q8 ((eq 8 (by omega) (by decide) _ rfl h0).mpr h))
      have e7 := f 7 (fun h => q7 ((eq 7 (by omega) (by decide) _ rfl h0).mpr h))
      unfold t_kd
      rw [e5, e6, e7, e8, f 9 (nz h0 q0)]
      rfl
    · have e5 := f 5 (fun h => q5 ((eq 5 (by omega) (by decide) _ rfl h0).mpr h))
      have e6 := f 6 (fun h => q6 ((eq 6 (by omega) (by decide) _ rfl h0).mpr h))
      have e7 := (eq 7 (by omega) (by decide) _ rfl h0).mp q7
      have e : t_kd B S = 3 := by
        unfold t_kd
        rw [e5, e6, e7]
        rfl
      rw [e]
      exact ⟨by omega, rfl⟩
    · have e8 := (eq 8 (by omega) (by decide) _ rfl h0).mp q8
      have e5 := f 5 (fun h => q5 ((eq 5 (by omega) (by decide) _ rfl h0).mpr h))
      have e6 := f 6 (fun h => q6 ((eq 6 (by omega) (by decide) _ rfl h0).mpr h))
      have e7 := f 7 (fun h => absurd (two h0 7 8 (by omega) (by omega) (by decide) (by decide) h e8) (by decide))
      have e : t_kd B S = 4 := by
        unfold t_kd
        rw [e5, e6, e7, e8]
        rfl
      rw [e]
      exact ⟨by omega, rfl⟩
    · have e5 := f 5 (fun h => q5 ((eq 5 (by omega) (by decide) _ rfl h0).mpr h))
      have e6 := (eq 6 (by omega) (by decide) _ rfl h0).mp q6
      have e : t_kd B S = 2 := by
        unfold t_kd
        rw [e5, e6]
        rfl
      rw [e]
      exact ⟨by omega, rfl⟩
    · have e5 := (eq 5 (by omega) (by decide) _ rfl h0).mp q5
      have e : t_kd B S = 1 := by
        unfold t_kd
        rw [e5]
        rfl
      rw [e]
      exact ⟨by omega, rfl⟩
end Told
