/-! odds: the model -/
theorem m_upL_eq {σ : m_M} {j k : Nat} {x : Int64} (h : k = j) : (m_upL σ j x).2 k = x := if_pos h
theorem m_upL_ne {σ : m_M} {j k : Nat} {x : Int64} (h : ¬ k = j) : (m_upL σ j x).2 k = σ.2 k := if_neg h
def y_W (σ τ : m_M) (F : Nat → Nat) : Prop := (∀ k, k < 161 → τ.2 k = lN (F k)) ∧ τ.1 = σ.1
section MOdds
variable {E : m_E} {r : Nat} {σ : m_M} {Q : m_F → Prop} {s s' n : Nat} {lo hi : Nat → Nat}
/-- one sum's ways -/
theorem s_ml1 {τ : m_M} {W : Nat → Nat} {l h d k : Nat} (hs : s < 8) (hs' : s' < 8) (hd : d < 40) (hlh : l ≤ h) (h20 : h ≤ 20) (hk : k < 161) (xl : τ.1 13 2 (40 * s + d) = nI l) (xh : τ.1 13 2 (40 * s' + d) = nI h) (hW : ∀ j, j ≤ k → τ.2 j = lN (W j)) (hq : m_T E 65535 r 135 (119, [some (vR 6 0), some (vI (nI s)), some (vI (nI s')), some (vI (nI n)), some (vI (nI d)), some (vI (nI k)), some (vL (lN (w_c W l k (h + 1 - l)))), none, none], [], τ) Q) : ∀ j e, e + j = h + 1 - l → m_T E 65535 r 135 (70, [some (vR 6 0), some (vI (nI s)), some (vI (nI s')), some (vI (nI n)), some (vI (nI d)), some (vI (nI k)), some (vL (lN (w_c W l k e))), none, some (vI (nI (l + e)))], [], τ) Q := by
  have hv : vp_in ((Int8.ofInt 40).toInt32 * nI s' + nI d) 320 := by rw [k_40n]; exact k_in (by omega) (by decide)
  have hx : τ.1 13 2 ((Int8.ofInt 40).toInt32 * nI s' + nI d).toNatClampNeg = nI h := by rw [k_40n, k_cl (by omega)]; exact xh
  intro j
  induction j with
  | zero =>
    intro e he
    refine m_T_un 40 (fun y pc => (Nat.beq y 135 && (Nat.beq pc 70 || Nat.beq pc 119))) ?_
    refine ⟨hv, fun _ => ?_, fun q => ?_⟩
    · refine m_T_mask [true, true, true, true, true, true, true, true, false] ?_
      rw [show h + 1 - l = e by omega] at hq
      exact hq
    · have q : ¬ τ.1 13 2 ((Int8.ofInt 40).toInt32 * nI s' + nI d).toNatClampNeg < nI (l + e) := q
      rw [hx] at q
      exact absurd (nI_lt (by omega) (by omega)) q
  | succ j ih =>
    intro e he
    have ee := ih (e + 1) (by omega)
    rw [← Nat.add_assoc, nI_succ (l + e), show w_c W l k (e + 1) = w_c W l k e + (if l + e ≤ k then W (k - (l + e)) else 0) from rfl, ← lN_add] at ee
    refine m_T_un 60 (fun y pc => (Nat.beq y 135 && (Nat.beq pc 70 || Nat.beq pc 119))) ?_
    refine ⟨hv, fun q => ?_, fun _ => ⟨fun q => ?_, fun q => ?_⟩⟩
    · have q : τ.1 13 2 ((Int8.ofInt 40).toInt32 * nI s' + nI d).toNatClampNeg < nI (l + e) := q
      rw [hx] at q
      exact absurd q (nI_nlt (by omega) (by omega))
    · have q : nI k < nI (l + e) := q
      rw [nI_ltI (by omega) (by omega)] at q
      rw [if_neg (by omega)] at ee
      exact ee
    · have q : ¬ nI k < nI (l + e) := q
      rw [nI_ltI (by omega) (by omega)] at q
      have e1 : nI k - nI (l + e) = nI (k - (l + e)) := pk_sub (by omega)
      have e2 : (nI k - nI (l + e)).toNatClampNeg = k - (l + e) := by rw [e1, k_cl (by omega)]
      rw [if_pos (by omega), ← hW (k - (l + e)) (by omega), ← e2] at ee
      exact ⟨show vp_in (nI k - nI (l + e)) 161 by rw [e1]; exact k_in (by omega) (by decide), ee⟩
/-- a day's ways -/
theorem s_ml2 {W : Nat → Nat} {l h d : Nat} {u6 : Option m_V} (hs : s < 8) (hs' : s' < 8) (hd : d < 40) (hlh : l ≤ h) (h20 : h ≤ 20) (xl : σ.1 13 2 (40 * s + d) = nI l) (xh : σ.1 13 2 (40 * s' + d) = nI h) (hq : ∀ τ, y_W σ τ (fun k => w_c W l k (h + 1 - l)) → m_T E 65535 r 135 (134, [some (vR 6 0), some (vI (nI s)), some (vI (nI s')), some (vI (nI n)), some (vI (nI d)), none, none, none, none], [], τ) Q) : ∀ t τ, t ≤ 161 → (∀ k, k < 161 → τ.2 k = if k < t then lN (W k) else lN (w_c W l k (h + 1 - l))) → τ.1 = σ.1 → m_T E 65535 r 135 (48, [some (vR 6 0), some (vI (nI s)), some (vI (nI s')), some (vI (nI n)), some (vI (nI d)), some (vI (nI t + Int32.ofInt (-1))), none, none, none], [], τ) Q := by
  have hv : vp_in ((Int8.ofInt 40).toInt32 * nI s + nI d) 320 := by rw [k_40n]; exact k_in (by omega) (by decide)
  intro t
  induction t with
  | zero =>
    intro τ ht h1 h2
    refine m_T_un 40 (fun y pc => (Nat.beq y 135 && (Nat.beq pc 48 || Nat.beq pc 134))) ?_
    refine ⟨fun _ => ?_, fun q => absurd (show (nI 0 + Int32.ofInt (-1) : Int32) < 0 by decide) q⟩
    refine m_T_mask [true, true, true, true, true, false, true, true, true] ?_
    exact hq τ ⟨fun k hk => (h1 k hk).trans (if_neg (by omega)), h2⟩
  | succ t ih =>
    intro τ ht h1 h2
    rw [k_pred]
    have hx : τ.1 13 2 ((Int8.ofInt 40).toInt32 * nI s + nI d).toNatClampNeg = nI (l + 0) := by rw [k_40n, k_cl (by omega), h2]; exact xl
    refine m_T_un 40 (fun y pc => (Nat.beq y 135 && (Nat.beq pc 48 || Nat.beq pc 70))) ?_
    refine ⟨fun q => absurd q (nI_pos (by omega)), fun _ => ⟨hv, ?_⟩⟩
    have e := s_ml1 (E := E) (r := r) (Q := Q) (n := n) (τ := τ) (W := W) (l := l) (h := h) (d := d) (k := t) hs hs' hd hlh h20 (by omega) (by rw [h2]; exact xl) (by rw [h2]; exact xh) (fun j hj => (h1 j (by omega)).trans (if_pos (by omega))) (by
      refine m_T_un 40 (fun y pc => (Nat.beq y 135 && (Nat.beq pc 48))) ?_
      refine ⟨k_in (k := t) (n := 161) (by omega) (by decide), ?_⟩
      have e := ih (m_upL τ t (lN (w_c W l t (h + 1 - l)))) (by omega) (fun k hk => by
        by_cases g : k = t
        · rw [m_upL_eq g, if_neg (by omega), g]
        · rw [m_upL_ne g, h1 k hk]
          by_cases g2 : k < t
          · rw [if_pos g2, if_pos (by omega)]
          · rw [if_neg g2, if_neg (by omega)]) h2
      refine m_T_mask [true, true, true, true, true, true, false, false, false] ?_
      have e2 : (nI t).toNatClampNeg = t := k_cl (by omega)
      have go : ∀ j, j = t → m_T E 65535 r 135 (48, [some (vR 6 0), some (vI (nI s)), some (vI (nI s')), some (vI (nI n)), some (vI (nI d)), some (vI (nI t + Int32.ofInt (-1))), none, none, none], [], m_upL τ j (lN (w_c W l t (h + 1 - l)))) Q := fun j hj => by
        subst hj
        exact e
      exact go _ e2) (h + 1 - l) 0 (by omega)
    rw [← hx] at e
    exact e
theorem s_mlw {x y z : Int32} (hs : s < 8) (hs' : s' < 8) (hn : n ≤ 8) (hlh : q_lh lo hi n) (xx : ∀ t, t < n → σ.1 13 2 (40 * s + t) = nI (lo t) ∧ σ.1 13 2 (40 * s' + t) = nI (hi t)) (hx : x = nI s) (hy : y = nI s') (hz : z = nI n) (hq : ∀ τ, y_W σ τ (w_W lo hi n) → Q (0, [], [], τ)) : m_T E 65535 r 135 (0, [some (vR 6 0), some (vI x), some (vI y), some (vI z), none, none, none, none, none], [], σ) Q := by
  subst hx
  subst hy
  subst hz
  have days : ∀ k t τ, t + k = n → y_W σ τ (w_W lo hi t) → m_T E 65535 r 135 (37, [some (vR 6 0), some (vI (nI s)), some (vI (nI s')), some (vI (nI n)), some (vI (nI t)), none, none, none, none], [], τ) Q := by
    intro k
    induction k with
    | zero =>
      intro t τ ht hW
      obtain rfl : t = n := by omega
      refine m_T_un 40 (fun y pc => (Nat.beq y 135 && (Nat.beq pc 37 || Nat.beq pc 48))) ?_
      exact ⟨fun _ => hq τ hW, fun q => absurd (nI_le (Nat.le_refl t) (by omega)) q⟩
    | succ k ih =>
      intro t τ ht hW
      obtain ⟨h1, h2, h3⟩ := hlh t (by omega)
      refine m_T_un 40 (fun y pc => (Nat.beq y 135 && (Nat.beq pc 37 || Nat.beq pc 48))) ?_
      refine ⟨fun q => absurd q (nI_ge (by omega) (by omega)), fun _ => ?_⟩
      have e := s_ml2 (E := E) (r := r) (Q := Q) (n := n) (σ := σ) (W := w_W lo hi t) (l := lo t) (h := hi t) (d := t) (u6 := none) hs hs' (by omega) h1 h2 (xx t (by omega)).1 (xx t (by omega)).2 (fun τ' hW' => by
        refine m_T_un 20 (fun y pc => (Nat.beq y 135 && (Nat.beq pc 37))) ?_
        have e := ih (t + 1) τ' (by omega) hW'
        rw [nI_succ t] at e
        exact e) 161 τ (by omega) (fun k hk => (hW.1 k hk).trans (if_pos hk).symm) hW.2
      rw [show (161 : Nat) = 160 + 1 from rfl, k_pred] at e
      exact e
  have init : ∀ k t τ, t + k = 161 → (∀ j, j < t → τ.2 j = lN (w_W lo hi 0 j)) → τ.1 = σ.1 → m_T E 65535 r 135 (3, [some (vR 6 0), some (vI (nI s)), some (vI (nI s')), some (vI (nI n)), some (vI (nI t)), none, none, none, none], [], τ) Q := by
    intro k
    induction k with
    | zero =>
      intro t τ ht h1 h2
      refine m_T_un 40 (fun y pc => (Nat.beq y 135 && (Nat.beq pc 3 || Nat.beq pc 37))) ?_
      refine ⟨fun _ => days n 0 τ (by omega) ⟨fun k hk => h1 k (by omega), h2⟩, fun q => absurd (nI_lt (show 160 < t by omega) (by omega)) q⟩
    | succ k ih =>
      intro t τ ht h1 h2
      have go : ∀ (j : Nat) (v : Int64), j = t → v = lN (w_W lo hi 0 t) → m_T E 65535 r 135 (3, [some (vR 6 0), some (vI (nI s)), some (vI (nI s')), some (vI (nI n)), some (vI (nI t + 1)), none, none, none, none], [], m_upL τ j v) Q := fun j v hj hv => by
        subst hj
        subst hv
        rw [← nI_succ]
        refine ih (j + 1) _ (by omega) (fun i hi => ?_) h2
        by_cases g : i = j
        · rw [m_upL_eq g, g]
        · rw [m_upL_ne g, h1 i (by omega)]
      have e2 : (nI t).toNatClampNeg = t := k_cl (by omega)
      have hv : vp_in (nI t) 161 := k_in (by omega) (by decide)
      refine m_T_un 40 (fun y pc => (Nat.beq y 135 && (Nat.beq pc 3 || Nat.beq pc 37))) ?_
      refine ⟨fun q => absurd q (nI_nlt (show t ≤ 160 by omega) (by omega)), fun _ => ⟨fun q => ⟨hv, ?_⟩, fun q => ⟨hv, ?_⟩⟩⟩
      · have q : ¬ nI t = nI 0 := q
        rw [nI_eq (by omega) (by omega)] at q
        exact go _ _ e2 (by rw [show w_W lo hi 0 t = 0 from if_neg q]; rfl)
      · have q : nI t = nI 0 := q
        rw [nI_eq (by omega) (by omega)] at q
        exact go _ _ e2 (by rw [show w_W lo hi 0 t = 1 from if_pos q]; rfl)
  refine m_T_un 20 (fun y pc => (Nat.beq y 135 && (Nat.beq pc 3))) ?_
  exact init 161 0 σ (by omega) (fun j hj => absurd hj (by omega)) rfl
/-- the part of all -/
theorem s_prt {up low : Nat} {u v : Int64} {wh : Int32} (hup : up < 2 ^ 31) (h1 : 1 ≤ low) (hlow : low < 2 ^ 31) (hu : u = lN up) (hv : v = lN low) (hq : Q (0, [], [vL (lN ((if wh = 0 then up else low) / Nat.gcd up low))], σ)) : m_T E 65535 r 136 (0, [some (vL u), none, some (vL v), none, some (vI wh), none, none, none, none, none, none], [], σ) Q := by
  subst hu
  subst hv
  have g1 : 1 ≤ Nat.gcd up low := Nat.gcd_pos_of_pos_right up h1
  have fin : ∀ (w0 : Int64), m_T E 65535 r 136 (31, [some (vL (lN up)), none, some (vL (lN low)), none, some (vI wh), some (vL (lN (Nat.gcd up low))), none, some (vL w0), none, none, none], [], σ) Q := fun w0 => by
    have g2 : Nat.gcd up low ≤ low := Nat.gcd_le_right up h1
    have nz : ¬ lN (Nat.gcd up low) = 0 := fun q => by
      have q : lN (Nat.gcd up low) = lN 0 := q
      rw [pk_lEQ (by omega) (by omega)] at q
      omega
    refine m_T_un 40 m_no ?_
    refine ⟨fun q => ⟨nz, ?_⟩, fun q => ⟨nz, ?_⟩⟩
    · have q : ¬ wh = 0 := q
      rw [if_neg q, ← pk_lDiv (by omega) g1 (by omega)] at hq
      exact hq
    · have q : wh = 0 := q
      rw [if_pos q, ← pk_lDiv (by omega) g1 (by omega)] at hq
      exact hq
  have key : ∀ y x, x < 2 ^ 31 → y < 2 ^ 31 → Nat.gcd x y = Nat.gcd up low → m_T E 65535 r 136 (6, [some (vL (lN up)), none, some (vL (lN low)), none, some (vI wh), some (vL (lN x)), none, some (vL (lN y)), none, none, none], [], σ) Q := by
    intro y
    induction y using Nat.strongRecOn with
    | ind y ih =>
      intro x hx hy hg
      refine m_T_un 40 (fun y pc => (Nat.beq y 136 && (Nat.beq pc 6 || Nat.beq pc 31))) ?_
      by_cases y0 : y = 0
      · subst y0
        rw [Nat.gcd_zero_right] at hg
        refine ⟨fun _ => ?_, fun q => absurd ((lg_cmp_eq _ _).mpr rfl) q⟩
        have e := fin (lN 0)
        rw [← hg] at e
        exact e
      · have nz : ¬ lN y = 0 := fun q => by
          have q : lN y = lN 0 := q
          rw [pk_lEQ (by omega) (by omega)] at q
          omega
        refine ⟨fun q => absurd ((lg_cmp_eq _ _).mp q) nz, fun _ => ⟨nz, ?_⟩⟩
        have hr : x % y < y := Nat.mod_lt x (by omega)
        have e := ih (x % y) hr y hy (by omega) (by rw [← k_gcd]; exact hg)
        rw [← pk_lRem (by omega) (by omega) (by omega)] at e
        refine m_T_mask [true, true, true, true, true, true, true, true, true, false, true] ?_
        exact e
  refine m_T_un 20 (fun y pc => (Nat.beq y 136 && (Nat.beq pc 6))) ?_
  exact key low up hup hlow rfl
end MOdds
