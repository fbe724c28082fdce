/-! day: those who go out (model) -/
theorem z_leaveW {f f' : Nat → Int32} {D N m w a d i : Nat} {L K R H : Nat → Nat} {y : Int32} (hw : q_wf f D N m w a d L K R H) (hi : i < m)
    (hf : ∀ j, j < 309 → f' j = if j = 8 then nI (m - 1) else if j = 72 + 4 * L i then y else if 9 + i ≤ j ∧ j < 9 + (m - 1) then f (j + 1) else f j) :
    q_wf f' D N (m - 1) w a d (q_pp i L) K R H := by
  obtain ⟨w0, w1, w2, w3, w4, w5, w6, w7, w8, w9, wa, wb, wc⟩ := hw
  have lo : ∀ j, j < 8 → f' j = f j := fun j hj => by
    rw [hf j (by omega), if_neg (by omega), if_neg (by omega), if_neg (by omega)]
  have hp := (wa i hi).2
  have fl : ∀ t, t < m - 1 → f' (9 + t) = if t < i then f (9 + t) else f (9 + (t + 1)) := fun t ht => by
    rw [hf _ (by omega), if_neg (by omega), if_neg (by omega)]
    by_cases e : t < i
    · rw [if_neg (by omega), if_pos e]
    · rw [if_pos (by omega), if_neg e]
      exact congrArg f (by omega)
  have old : ∀ q k, q < N → k < 3 → f' (69 + k + 4 * q) = f (69 + k + 4 * q) := fun q k hq hk => by
    rw [hf _ (by omega), if_neg (by omega), if_neg (by omega), if_neg (by omega)]
  have f3 : ∀ q, q < N → f' (72 + 4 * q) = if q = L i then y else f (72 + 4 * q) := fun q hq => by
    rw [hf _ (by omega), if_neg (by omega)]
    by_cases e : q = L i
    · rw [if_pos (by omega), if_pos e]
    · rw [if_neg (by omega), if_neg (by omega), if_neg e]
  refine ⟨(lo 0 (by omega)).trans w0, w1, (lo 3 (by omega)).trans w2, w3, (lo 4 (by omega)).trans w4, w5, (lo 7 (by omega)).trans w6, w7, ?_, by omega, fun t ht => ⟨?_, ?_⟩, fun s t hs ht q => ?_, fun q hq => ?_⟩
  · rw [hf _ (by omega), if_pos rfl]
  · show f' (9 + t) = nI (if t < i then L t else L (t + 1))
    rw [fl t ht]
    by_cases e : t < i
    · rw [if_pos e, if_pos e]; exact (wa t (by omega)).1
    · rw [if_neg e, if_neg e]; exact (wa (t + 1) (by omega)).1
  · show (if t < i then L t else L (t + 1)) < N
    by_cases e : t < i
    · rw [if_pos e]; exact (wa t (by omega)).2
    · rw [if_neg e]; exact (wa (t + 1) (by omega)).2
  · have q : (if s < i then L s else L (s + 1)) = (if t < i then L t else L (t + 1)) := q
    by_cases e : s < i <;> by_cases e' : t < i
    · rw [if_pos e, if_pos e'] at q; exact wb s t (by omega) (by omega) q
    · rw [if_pos e, if_neg e'] at q
      have := wb s (t + 1) (by omega) (by omega) q
      omega
    · rw [if_neg e, if_pos e'] at q
      have := wb (s + 1) t (by omega) (by omega) q
      omega
    · rw [if_neg e, if_neg e'] at q
      have := wb (s + 1) (t + 1) (by omega) (by omega) q
      omega
  · obtain ⟨x1, x2, x3, x4, x5, x6, x7, x8⟩ := wc q hq
    refine ⟨(old q 0 hq (by omega)).trans x1, x2, x3, (old q 1 hq (by omega)).trans x4, x5, (old q 2 hq (by omega)).trans x6, x7, fun hh => ?_⟩
    obtain ⟨t, ht, hl⟩ := hh
    have hl : (if t < i then L t else L (t + 1)) = q := hl
    have key : ∃ u, u < m ∧ L u = q ∧ ¬ u = i := by
      by_cases e : t < i
      · rw [if_pos e] at hl; exact ⟨t, by omega, hl, by omega⟩
      · rw [if_neg e] at hl; exact ⟨t + 1, by omega, hl, by omega⟩
    obtain ⟨u, hu, hl2, hne⟩ := key
    rw [f3 q hq, if_neg (fun g => hne (wb u i hu hi (hl2.trans g)))]
    exact x8 ⟨u, hu, hl2⟩
section MFirst
variable {E : m_E} {r : Nat} {σ : m_M} {Q : m_F → Prop} {D N m w a d : Nat} {L K R H : Nat → Nat}
theorem s_wtW (hT : q_wf (σ.1 13 3) D N m w a d L K R H) (p : Nat) (hp : p < N) {x : Int32} (hx : x = nI p) (hq : Q (0, [], [vI (nI (q_tn w (K p) (R p)))], σ)) : m_T E 65535 (r + 1) 115 (0, [some (vR 6 0), some (vI x)], [], σ) Q := by
  subst hx
  obtain ⟨w0, w1, w2, w3, w4, w5, w6, w7, w8, w9, wa, wb, wc⟩ := hT
  obtain ⟨x1, x2, x3, x4, x5, -⟩ := wc p hp
  have w0 : σ.1 13 3 0 = nI w := w0
  have i0 : vp_in (Int32.ofInt 0) 309 := k_in (k := 0) (n := 309) (by decide) (by decide)
  refine m_T_un 60 (fun y _ => Nat.beq y 116 || Nat.beq y 117) ?_
  obtain rfl | rfl | rfl : w = 0 ∨ w = 1 ∨ w = 2 := by omega
  · exact ⟨i0, fun q => absurd w0 q, fun _ => hq⟩
  · refine ⟨i0, fun _ => ⟨i0, fun q => absurd w0 q, fun _ => ?_⟩, fun q => absurd (w0.symm.trans q) (by decide)⟩
    refine s_of p 1 (by omega) (by omega) rfl rfl ?_
    have e : (Int8.ofInt 9).toInt32 - σ.1 13 3 (69 + 4 * p + 1) = nI (q_tn 1 (K p) (R p)) := by
      rw [show σ.1 13 3 (69 + 4 * p + 1) = nI (R p) by rw [show 69 + 4 * p + 1 = 70 + 4 * p by omega]; exact x4, show (Int8.ofInt 9).toInt32 = nI 9 from rfl, pk_sub x5]
      rfl
    have h2 : Q (0, [], [vI ((Int8.ofInt 9).toInt32 - σ.1 13 3 (69 + 4 * p + 1))], σ) := by rw [e]; exact hq
    exact h2
  · refine ⟨i0, fun _ => ⟨i0, fun _ => ?_, fun q => absurd (w0.symm.trans q) (by decide)⟩, fun q => absurd (w0.symm.trans q) (by decide)⟩
    refine s_of p 0 (by omega) (by omega) rfl rfl ?_
    exact s_ord (K p) x2 x3 x1 hq
theorem s_mp1W (hT : q_wf (σ.1 13 3) D N m w a d L K R H) (i : Nat) (hi : i < m) (hq : Q (0, [], [vI (nI i)], σ)) : m_T E 65535 r 114 (0, [some (vR 6 0), some (vI (nI (L i))), none], [], σ) Q := by
  obtain ⟨w0, w1, w2, w3, w4, w5, w6, w7, w8, w9, wa, wb, wc⟩ := hT
  refine s_mpl1 i w8 (show m ≤ 60 by omega) hi (wa i hi).1 (fun t ht q => ?_) hq
  have e : nI (L t) = nI (L i) := (wa t (by omega)).1.symm.trans q
  have h1 := (wa t (by omega)).2
  have h2 := (wa i hi).2
  have := wb t i (by omega) hi ((nI_eq (by omega) (by omega)).mp e)
  omega
theorem s_mahW (hT : q_wf (σ.1 13 3) D N m w a d L K R H) (i : Nat) (hi : i < m) {x : Int32} (hx : x = nI (L i)) (hq : Q (0, [], [vI (nI (q_ah w L K R (L i) i m))], σ)) : m_T E 65535 (r + 2) 113 (0, [some (vR 6 0), some (vI x), none, none, none, none], [], σ) Q := by
  subst hx
  have h60 : m ≤ 60 := Nat.le_trans hT.2.2.2.2.2.2.2.2.2.1 hT.2.2.2.2.2.2.2.1
  have hm : σ.1 13 3 8 = nI m := hT.2.2.2.2.2.2.2.2.1
  have hLN : ∀ t, t < m → L t < N := fun t ht => (hT.2.2.2.2.2.2.2.2.2.2.1 t ht).2
  have i8 : vp_in ((Int8.ofInt 8).toInt32) 309 := k_in (k := 8) (n := 309) (by decide) (by decide)
  have tb : ∀ t, t < m → q_tn w (K (L t)) (R (L t)) ≤ 9 := fun t ht => by
    have b1 := (hT.2.2.2.2.2.2.2.2.2.2.2.2 (L t) (hLN t ht)).2.2.2.2.1
    have o4 : q_ord (K (L t)) ≤ 4 := by
      unfold q_ord
      cases Nat.beq (K (L t)) 3 <;> cases Nat.beq (K (L t)) 1 <;> cases Nat.beq (K (L t)) 2 <;> cases Nat.beq (K (L t)) 5 <;> decide
    unfold q_tn
    cases Nat.beq w 0 <;> cases Nat.beq w 1 <;> simp only [cond_true, cond_false] <;> omega
  have key : ∀ n t, t + n = m → m_T E 65535 (r + 2) 113 (11, [some (vR 6 0), some (vI (nI (L i))), some (vI (nI i)), some (vI (nI (q_ah w L K R (L i) i t))), some (vI (nI t)), none], [], σ) Q := by
    intro n
    induction n with
    | zero =>
      intro t ht
      refine m_T_un 40 (fun y pc => (Nat.beq y 113 && Nat.beq pc 11) || Nat.beq y 115) ?_
      refine ⟨i8, fun _ => ?_, fun q => ?_⟩
      · obtain rfl : t = m := by omega
        exact hq
      · have q : ¬ σ.1 13 3 8 ≤ nI t := q
        rw [hm] at q
        exact absurd (nI_le (show m ≤ t by omega) (by omega)) q
    | succ n ih =>
      intro t ht
      have hl : σ.1 13 3 (9 + t) = nI (L t) := (hT.2.2.2.2.2.2.2.2.2.2.1 t (by omega)).1
      have t1 := tb t (by omega)
      have t2 := tb i hi
      have hv : vp_in ((Int8.ofInt 9).toInt32 + nI t) 309 := by rw [k_9]; exact k_in (by omega) (by decide)
      have hx : σ.1 13 3 ((Int8.ofInt 9).toInt32 + nI t).toNatClampNeg = nI (L t) := by rw [k_9, k_cl (by omega)]; exact hl
      refine m_T_un 60 (fun y pc => (Nat.beq y 113 && Nat.beq pc 11) || Nat.beq y 115) ?_
      refine ⟨i8, fun q => ?_, fun _ => ⟨hv, ?_⟩⟩
      · have q : σ.1 13 3 8 ≤ nI t := q
        rw [hm] at q
        exact absurd q (nI_ge (show t < m by omega) (by omega))
      have e := ih (t + 1) (by omega)
      rw [nI_succ t] at e
      have yes : (q_tn w (K (L t)) (R (L t)) < q_tn w (K (L i)) (R (L i)) ∨ (q_tn w (K (L t)) (R (L t)) = q_tn w (K (L i)) (R (L i)) ∧ t < i)) → m_T E 65535 (r + 2) 113 (11, [some (vR 6 0), some (vI (nI (L i))), some (vI (nI i)), some (vI (nI (q_ah w L K R (L i) i t) + Int32.ofInt 1)), some (vI (nI t + 1)), none], [], σ) Q := fun h => by
        rw [show Int32.ofInt 1 = nI 1 from rfl, nI_add, ← show q_ah w L K R (L i) i (t + 1) = q_ah w L K R (L i) i t + 1 from if_pos h]
        exact e
      have no : ¬ (q_tn w (K (L t)) (R (L t)) < q_tn w (K (L i)) (R (L i)) ∨ (q_tn w (K (L t)) (R (L t)) = q_tn w (K (L i)) (R (L i)) ∧ t < i)) → m_T E 65535 (r + 2) 113 (11, [some (vR 6 0), some (vI (nI (L i))), some (vI (nI i)), some (vI (nI (q_ah w L K R (L i) i t) + Int32.ofInt 0)), some (vI (nI t + 1)), none], [], σ) Q := fun h => by
        rw [show Int32.ofInt 0 = nI 0 from rfl, nI_add, Nat.add_zero, ← show q_ah w L K R (L i) i (t + 1) = q_ah w L K R (L i) i t from if_neg h]
        exact e
      refine s_wtW hT (L t) (hLN t (by omega)) hx ?_
      refine s_wtW hT (L i) (hLN i hi) rfl ⟨fun q => ?_, fun q => ?_⟩
      · have q : nI (q_tn w (K (L t)) (R (L t))) < nI (q_tn w (K (L i)) (R (L i))) := q
        rw [nI_ltI (by omega) (by omega)] at q
        refine m_T_mask [true, true, true, true, true, false] ?_
        exact yes (Or.inl (by omega))
      · have q : ¬ nI (q_tn w (K (L t)) (R (L t))) < nI (q_tn w (K (L i)) (R (L i))) := q
        rw [nI_ltI (by omega) (by omega)] at q
        refine s_wtW hT (L i) (hLN i hi) rfl ⟨fun q2 => ?_, fun q2 => ⟨fun q3 => ?_, fun q3 => ?_⟩⟩
        · have q2 : ¬ nI (q_tn w (K (L t)) (R (L t))) = nI (q_tn w (K (L i)) (R (L i))) := q2
          rw [nI_eq (by omega) (by omega)] at q2
          refine m_T_mask [true, true, true, true, true, false] ?_
          exact no (by omega)
        · have q3 : nI i ≤ nI t := q3
          rw [nI_leI (by omega) (by omega)] at q3
          refine m_T_mask [true, true, true, true, true, false] ?_
          exact no (by omega)
        · have q2 : nI (q_tn w (K (L t)) (R (L t))) = nI (q_tn w (K (L i)) (R (L i))) := q2
          rw [nI_eq (by omega) (by omega)] at q2
          have q3 : ¬ nI i ≤ nI t := q3
          rw [nI_leI (by omega) (by omega)] at q3
          refine m_T_mask [true, true, true, true, true, false] ?_
          exact yes (by omega)
  refine m_T_un 40 (fun y pc => (Nat.beq y 113 && Nat.beq pc 11) || Nat.beq y 114) ?_
  refine s_mp1W hT i hi ?_
  exact key m 0 (by omega)
theorem q_ah_0 {p i : Nat} : ∀ t, (∀ s, s < t → ¬ (q_tu w K R (L s) < q_tu w K R p ∨ (q_tu w K R (L s) = q_tu w K R p ∧ s < i))) → q_ah w L K R p i t = 0
  | 0, _ => rfl
  | t + 1, h => by
    unfold q_ah
    have h1 := h t (by omega)
    unfold q_tu at h1
    rw [if_neg h1]
    exact q_ah_0 t (fun s hs => h s (by omega))
theorem q_ah_1 {p i s : Nat} (hs : q_tu w K R (L s) < q_tu w K R p ∨ (q_tu w K R (L s) = q_tu w K R p ∧ s < i)) : ∀ t, s < t → 0 < q_ah w L K R p i t
  | 0, h => absurd h (by omega)
  | t + 1, h => by
    unfold q_ah
    by_cases e : s = t
    · subst e
      unfold q_tu at hs
      rw [if_pos hs]
      omega
    · have := q_ah_1 hs t (by omega)
      split <;> omega
theorem s_ftg (hT : q_wf (σ.1 13 3) D N m w a d L K R H) (m1 : 1 ≤ m) (hq : Q (0, [], [vI (nI (L (q_ft (q_tu w K R) L m)))], σ)) : m_T E 65535 (r + 3) 112 (0, [some (vR 6 0), none], [], σ) Q := by
  have f1 := q_ft_lt (U := q_tu w K R) (L := L) m m1
  have f2 := q_ft_le (U := q_tu w K R) (L := L) m
  have f3 := q_ft_fst (U := q_tu w K R) (L := L) m
  have m60 : m ≤ 60 := Nat.le_trans hT.2.2.2.2.2.2.2.2.2.1 hT.2.2.2.2.2.2.2.1
  have hm : σ.1 13 3 8 = nI m := hT.2.2.2.2.2.2.2.2.1
  have hl := hT.2.2.2.2.2.2.2.2.2.2.1
  have i8 : vp_in ((Int8.ofInt 8).toInt32) 309 := k_in (k := 8) (n := 309) (by decide) (by decide)
  have key : ∀ k t, t + k = q_ft (q_tu w K R) L m → m_T E 65535 (r + 3) 112 (2, [some (vR 6 0), some (vI (nI t))], [], σ) Q := by
    intro k
    induction k with
    | zero =>
      intro t ht
      have hx : σ.1 13 3 ((Int8.ofInt 9).toInt32 + nI t).toNatClampNeg = nI (L t) := by rw [k_9, k_cl (by omega)]; exact (hl t (by omega)).1
      have hv : vp_in ((Int8.ofInt 9).toInt32 + nI t) 309 := by rw [k_9]; exact k_in (by omega) (by decide)
      have z := q_ah_0 (w := w) (K := K) (R := R) (L := L) (p := L t) (i := t) m (fun s hs q => by
        obtain rfl : t = q_ft (q_tu w K R) L m := by omega
        have := f2 s hs
        rcases q with q | q
        · omega
        · have := f3 s q.2
          omega)
      refine m_T_un 40 (fun y pc => (Nat.beq y 112 && Nat.beq pc 2) || Nat.beq y 113) ?_
      refine ⟨i8, fun q => ?_, fun _ => ⟨hv, ?_⟩⟩
      · have q : σ.1 13 3 8 ≤ nI t := q
        rw [hm] at q
        exact absurd q (nI_ge (by omega) (by omega))
      refine s_mahW hT t (by omega) hx ⟨fun q => ?_, fun q => ⟨hv, ?_⟩⟩
      · have q : ¬ nI (q_ah w L K R (L t) t m) = 0 := q
        rw [z] at q
        exact absurd rfl q
      · have h2 : Q (0, [], [vI (σ.1 13 3 ((Int8.ofInt 9).toInt32 + nI t).toNatClampNeg)], σ) := by
          rw [hx, show t = q_ft (q_tu w K R) L m by omega]
          exact hq
        exact h2
    | succ k ih =>
      intro t ht
      have hx : σ.1 13 3 ((Int8.ofInt 9).toInt32 + nI t).toNatClampNeg = nI (L t) := by rw [k_9, k_cl (by omega)]; exact (hl t (by omega)).1
      have hv : vp_in ((Int8.ofInt 9).toInt32 + nI t) 309 := by rw [k_9]; exact k_in (by omega) (by decide)
      have z := q_ah_1 (w := w) (K := K) (R := R) (L := L) (p := L t) (i := t) (s := q_ft (q_tu w K R) L m) (Or.inl (f3 t (by omega))) m f1
      have zl : q_ah w L K R (L t) t m ≤ m := q_ah_le m
      refine m_T_un 40 (fun y pc => (Nat.beq y 112 && Nat.beq pc 2) || Nat.beq y 113) ?_
      refine ⟨i8, fun q => ?_, fun _ => ⟨hv, ?_⟩⟩
      · have q : σ.1 13 3 8 ≤ nI t := q
        rw [hm] at q
        exact absurd q (nI_ge (by omega) (by omega))
      have e := ih (t + 1) (by omega)
      rw [nI_succ] at e
      refine s_mahW hT t (by omega) hx ⟨fun _ => e, fun q => ?_⟩
      have q : nI (q_ah w L K R (L t) t m) = 0 := q
      exact absurd q (nI_ne0 z (by omega))
  refine m_T_un 40 (fun y pc => Nat.beq y 112 && Nat.beq pc 2) ?_
  exact key (q_ft (q_tu w K R) L m) 0 (by omega)
end MFirst
