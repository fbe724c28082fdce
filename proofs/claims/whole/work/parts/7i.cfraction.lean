/-! odds: the class's fraction -/
def q_od (wh : Int32) (A a : Nat) (z : Bool) (W : Nat → Nat) : Int32 := if A < a then nI 1 else if z = true then (if wh = 0 then nI 0 else nI 1) else nI ((if wh = 0 then q_sm (w_g W A a) 161 else q_sm W 161) / Nat.gcd (q_sm (w_g W A a) 161) (q_sm W 161))
def q_lh (lo hi : Nat → Nat) (n : Nat) : Prop := ∀ t, t < n → lo t ≤ hi t ∧ hi t ≤ 20 ∧ hi t ≤ lo t + 9
theorem q_lh_sm {lo hi : Nat → Nat} {n : Nat} (h : q_lh lo hi n) : ∀ t, t ≤ n → q_sm hi t ≤ 20 * t := q_sm_le (fun t ht => (h t ht).2.1)
theorem q_lh_p {lo hi : Nat → Nat} {n : Nat} (h : q_lh lo hi n) (hn : n ≤ 8) : 1 ≤ w_p lo hi (n - 1) ∧ w_p lo hi (n - 1) ≤ 10000000 := by
  have e := w_pb (lo := lo) (hi := hi) (n - 1) (fun t ht => (h t (by omega)).2.2)
  refine ⟨e.1, Nat.le_trans e.2 ?_⟩
  have : 10 ^ (n - 1) ≤ 10 ^ 7 := Nat.pow_le_pow_right (by omega) (by omega)
  omega
theorem q_lh_t {lo hi : Nat → Nat} {n : Nat} (h : q_lh lo hi n) (hn : n ≤ 8) : q_sm (w_W lo hi (n - 1)) 161 = w_p lo hi (n - 1) := by
  have e := q_lh_sm h (n - 1) (by omega)
  exact w_tot (n - 1) (fun t ht => (h t (by omega)).1) 161 (by omega)
section CFraction
variable {E : m_E} {r : Nat} {σ : m_M} {Q : m_F → Prop} {D N m w a d : Nat} {L K R H : Nat → Nat} {s s' n : Nat} {lo hi : Nat → Nat} {wh x0 : Int32}
theorem s_cfe {τ : m_M} (hn : n ≤ 8) (hlh : q_lh lo hi n) {A : Nat} (hA : a ≤ A) (hA2 : A < 100) (hW : z_W σ τ (w_W lo hi (n - 1))) (hq : Q (0, [], [vI (nI ((if wh = 0 then q_sm (w_g (w_W lo hi (n - 1)) A a) 161 else q_sm (w_W lo hi (n - 1)) 161) / Nat.gcd (q_sm (w_g (w_W lo hi (n - 1)) A a) 161) (q_sm (w_W lo hi (n - 1)) 161)))], τ)) : m_T E 65535 (r + 1) 21 (162, [some (vR 0 0), some (vI x0), some (vR 3 s), some (vR 3 s'), some (vI (nI n)), some (vI wh), some (vI (nI (A - a))), some (vI (nI (w_p lo hi (n - 1)))), some (vI (nI (q_sm hi (n - 1)))), some (vI (nI (n - 1))), none], [], τ) Q := by
  have hr := q_lh_sm hlh (n - 1) (by omega)
  have hp := q_lh_p hlh hn
  have ht := q_lh_t hlh hn
  have hgl := w_gle (W := w_W lo hi (n - 1)) (A := A) (a := a) 161
  have hab := w_ab (W := w_W lo hi (n - 1)) hA hA2 (show q_sm hi (n - 1) ≤ 160 by omega) (fun k hk => w_sup (n - 1) (fun t ht => (hlh t (by omega)).1) k hk)
  have key : ∀ j e, e + j = q_sm hi (n - 1) - (A - a) → m_T E 65535 (r + 1) 21 (171, [some (vR 0 0), some (vI x0), some (vR 3 s), some (vR 3 s'), some (vI (nI n)), some (vI wh), some (vI (nI (A - a))), some (vI (nI (w_p lo hi (n - 1)))), some (vI (nI (q_sm hi (n - 1)))), some (vI (nI (q_sr (w_W lo hi (n - 1)) (A - a + 1) e))), some (vI (nI (A - a + 1 + e)))], [], τ) Q := by
    intro j
    induction j with
    | zero =>
      intro e he
      rw [show e = q_sm hi (n - 1) - (A - a) by omega, hab]
      rw [ht] at hq hgl
      generalize q_sm (w_g (w_W lo hi (n - 1)) A a) 161 = x at hq hgl ⊢
      generalize w_p lo hi (n - 1) = y at hq hgl hp ⊢
      have g1 : 1 ≤ Nat.gcd x y := Nat.gcd_pos_of_pos_right x hp.1
      have g2 : Nat.gcd x y ≤ y := Nat.gcd_le_right x hp.1
      have emax : (if nI (Nat.gcd x y) < Int32.ofInt 1 then Int32.ofInt 1 else nI (Nat.gcd x y)) = nI (Nat.gcd x y) := if_neg (show ¬ nI (Nat.gcd x y) < Int32.ofInt 1 from nI_nlt (b := 1) g1 (by omega))
      refine m_T_un 60 (fun y pc => (Nat.beq y 21 && (Nat.beq pc 171 || Nat.beq pc 211)) || Nat.beq y 50 || Nat.beq y 23) ?_
      refine ⟨fun _ => ?_, fun q => absurd (nI_lt (by omega) (by omega)) q⟩
      refine s_sdv (by omega) (by omega) ?_
      have fin : ∀ g : Int32, g = nI (Nat.gcd x y) → m_T E 65535 (r + 1) 21 (211, [some (vR 0 0), some (vI x0), some (vR 3 s), some (vR 3 s'), some (vI (nI n)), some (vI wh), some (vI (nI (A - a))), some (vI (nI y)), some (vI (nI (q_sm hi (n - 1)))), some (vI (nI x)), some (vI g)], [], τ) Q := fun g hg => by
        subst hg
        refine m_T_un 60 m_no ?_
        refine ⟨fun q => ⟨nI_ne0 g1 (by omega), ?_⟩, fun q => ⟨nI_ne0 g1 (by omega), ?_⟩⟩
        · have q : ¬ wh = 0 := q
          rw [if_neg q, ← pk_div (by omega) g1 (by omega)] at hq
          exact hq
        · have q : wh = 0 := q
          rw [if_pos q, ← pk_div (by omega) g1 (by omega)] at hq
          exact hq
      exact fin _ emax
    | succ j ih =>
      intro e he
      have ee := ih (e + 1) (by omega)
      rw [← Nat.add_assoc, nI_succ (A - a + 1 + e), show q_sr (w_W lo hi (n - 1)) (A - a + 1) (e + 1) = q_sr (w_W lo hi (n - 1)) (A - a + 1) e + w_W lo hi (n - 1) (A - a + 1 + e) from rfl, ← nI_add, ← hW.1 (A - a + 1 + e) (by omega)] at ee
      refine m_T_un 60 (fun y pc => (Nat.beq y 21 && Nat.beq pc 171) || Nat.beq y 50 || Nat.beq y 23) ?_
      refine ⟨fun q => absurd q (nI_nlt (by omega) (by omega)), fun _ => ?_⟩
      exact s_at (v := 30) (A - a + 1 + e) rfl (show A - a + 1 + e < 161 by omega) ee
  refine m_T_un 20 (fun y pc => (Nat.beq y 21 && Nat.beq pc 171)) ?_
  have e := key (q_sm hi (n - 1) - (A - a)) 0 (by omega)
  rw [Nat.add_zero, nI_succ (A - a)] at e
  exact e
theorem s_cfl (hs : s < 8) (hs' : s' < 8) (hn : n ≤ 8) (hlh : q_lh lo hi n) (hx : ∀ t, t < n → σ.1 12 (20 + s) t = nI (lo t) ∧ σ.1 12 (20 + s') t = nI (hi t)) {left : Int32} (hq : ∀ τ, z_W σ τ (w_W lo hi (n - 1)) → m_T E 65535 (r + 2) 21 (162, [some (vR 0 0), some (vI x0), some (vR 3 s), some (vR 3 s'), some (vI (nI n)), some (vI wh), some (vI left), some (vI (nI (w_p lo hi (n - 1)))), some (vI (nI (q_sm hi (n - 1)))), some (vI (nI (n - 1))), none], [], τ) Q) (n1 : 1 ≤ n) : ∀ k t τ, t + k = n - 1 → z_W σ τ (w_W lo hi t) → m_T E 65535 (r + 2) 21 (73, [some (vR 0 0), some (vI x0), some (vR 3 s), some (vR 3 s'), some (vI (nI n)), some (vI wh), some (vI left), some (vI (nI (w_p lo hi t))), some (vI (nI (q_sm hi t))), some (vI (nI t)), none], [], τ) Q := by
  have en : nI n - Int32.ofInt 1 = nI (n - 1) := by rw [show Int32.ofInt 1 = nI 1 from rfl, pk_sub (by omega)]
  intro k
  induction k with
  | zero =>
    intro t τ ht hW
    have f := hq τ (by rw [show n - 1 = t by omega]; exact hW)
    rw [show n - 1 = t by omega] at f
    refine m_T_un 60 (fun y pc => (Nat.beq y 21 && (Nat.beq pc 73 || Nat.beq pc 162)) || Nat.beq y 50 || Nat.beq y 22) ?_
    refine ⟨fun _ => f, fun q => ?_⟩
    have q : ¬ nI n - Int32.ofInt 1 ≤ nI t := q
    rw [en] at q
    exact absurd (nI_le (by omega) (by omega)) q
  | succ k ih =>
    intro t τ ht hW
    obtain ⟨h1, h2, h3⟩ := hlh t (by omega)
    have hr := q_lh_sm hlh (t + 1) (by omega)
    have hr' : q_sm hi (t + 1) = q_sm hi t + hi t := rfl
    have xl : ∀ τ : m_M, (∀ c v, ¬ (c = 12 ∧ v = 30) → τ.1 c v = σ.1 c v) → τ.1 12 (20 + s) t = nI (lo t) := fun τ h => by rw [h 12 (20 + s) (by omega)]; exact (hx t (by omega)).1
    have xh : ∀ τ : m_M, (∀ c v, ¬ (c = 12 ∧ v = 30) → τ.1 c v = σ.1 c v) → τ.1 12 (20 + s') t = nI (hi t) := fun τ h => by rw [h 12 (20 + s') (by omega)]; exact (hx t (by omega)).2
    refine m_T_un 60 (fun y pc => (Nat.beq y 21 && (Nat.beq pc 73 || Nat.beq pc 162)) || Nat.beq y 50 || Nat.beq y 22) ?_
    refine ⟨fun q => ?_, fun _ => ?_⟩
    · have q : nI n - Int32.ofInt 1 ≤ nI t := q
      rw [en] at q
      exact absurd q (nI_ge (by omega) (by omega))
    refine s_at t rfl (by rw [m_lenR hs]; omega) ?_
    refine s_at t rfl (by rw [m_lenR hs']; omega) ?_
    refine s_at t rfl (by rw [m_lenR hs']; omega) ?_
    refine s_spr (σ := σ) (W := w_W lo hi t) (lo := lo t) (hi := hi t) (rch := q_sm hi (t + 1)) h1 h2 (by omega) (xl τ hW.2) (xh τ hW.2) ?_ (fun j hj => ⟨w_sup t (fun t ht => (hlh t (by omega)).1) j (by omega), w_sup (t + 1) (fun t ht => (hlh t (by omega)).1) j hj⟩) hW (fun τ' hW' => ?_)
    · show nI (q_sm hi t) + τ.1 12 (20 + s') t = nI (q_sm hi (t + 1))
      rw [xh τ hW.2, nI_add]
      rfl
    have e := ih (t + 1) τ' (by omega) hW'
    have eb : nI (w_p lo hi t) * (τ'.1 12 (20 + s') t - τ'.1 12 (20 + s) t + Int32.ofInt 1) = nI (w_p lo hi (t + 1)) := by
      rw [xl τ' hW'.2, xh τ' hW'.2, pk_sub h1, show Int32.ofInt 1 = nI 1 from rfl, nI_add, pk_mul]
      rfl
    have er : nI (q_sm hi t) + τ'.1 12 (20 + s') t = nI (q_sm hi (t + 1)) := by
      rw [xh τ' hW'.2, nI_add]
      rfl
    rw [nI_succ t, ← eb, ← er] at e
    refine s_at t rfl (by rw [m_lenR hs']; omega) ?_
    refine s_at t rfl (by rw [m_lenR hs']; omega) ?_
    refine s_at t rfl (by rw [m_lenR hs]; omega) ?_
    exact e
theorem s_cfr (hT : q_T σ D N m w a d L K R H) (i : Nat) (hi' : i < m) (hs : s < 8) (hs' : s' < 8) (n1 : 1 ≤ n) (hn : n ≤ 8) (hlh : q_lh lo hi n) (hx : ∀ t, t < n → σ.1 12 (20 + s) t = nI (lo t) ∧ σ.1 12 (20 + s') t = nI (hi t)) (hq : ∀ τ, (∀ c v, ¬ (c = 12 ∧ v = 30) → τ.1 c v = σ.1 c v) → Q (0, [], [vI (q_od wh (q_ah w L K R (L i) i m) a (q_pass w (K (L i))) (w_W lo hi (n - 1)))], τ)) : m_T E 65535 (r + 3) 21 (0, [some (vR 0 0), some (vI (nI (L i))), some (vR 3 s), some (vR 3 s'), some (vI (nI n)), some (vI wh), none, none, none, none, none], [], σ) Q := by
  have h60 : m ≤ 60 := Nat.le_trans hT.1.2.2.2.2.2.2.2.2.2.1 hT.1.2.2.2.2.2.2.2.1
  have hA : q_ah w L K R (L i) i m ≤ m := q_ah_le m
  have hLi := (hT.1.2.2.2.2.2.2.2.2.2.2.1 i hi').2
  have hc : σ.1 5 0 4 = nI a := (hT.2.1 3 (by omega)).trans hT.1.2.2.1
  have ha := hT.1.2.2.2.1
  have hq0 := hq σ (fun _ _ _ => rfl)
  refine m_T_un 60 (fun y pc => Nat.beq y 79 || Nat.beq y 81 || Nat.beq y 47 || Nat.beq y 48 || (Nat.beq y 21 && Nat.beq pc 73)) ?_
  refine s_cah hT i hi' ⟨fun q => ?_, fun q => ?_⟩
  · have q : (0 : Int32) ≤ nI (q_ah w L K R (L i) i m) - σ.1 5 0 4 := q
    rw [hc, k_le, pk_sub_toInt (by omega) (by omega), k_z32] at q
    refine s_lps hT (L i) hLi rfl rfl ?_
    cases z : q_pass w (K (L i)) with
    | true =>
      unfold q_od at hq0
      rw [if_neg (by omega), if_pos z] at hq0
      refine ⟨fun q3 => absurd q3 k_no1, fun _ => ⟨fun q4 => ?_, fun q4 => ?_⟩⟩
      · have q4 : ¬ wh = 0 := q4
        rw [if_neg q4] at hq0
        exact hq0
      · have q4 : wh = 0 := q4
        rw [if_pos q4] at hq0
        exact hq0
    | false =>
      refine ⟨fun _ => ?_, fun q3 => absurd rfl q3⟩
      refine s_clear ?_
      refine s_put (v := 30) 0 rfl (show 0 < 161 by decide) ?_
      have cl : ∀ left : Int32, left = nI (q_ah w L K R (L i) i m - a) → ∀ τ, z_W σ τ (w_W lo hi 0) → m_T E 65535 (r + 3) 21 (73, [some (vR 0 0), some (vI (nI (L i))), some (vR 3 s), some (vR 3 s'), some (vI (nI n)), some (vI wh), some (vI left), some (vI (nI 1)), some (vI (nI 0)), some (vI (nI 0)), none], [], τ) Q := fun left hl τ hW => by
        subst hl
        refine s_cfl (r := r + 1) (σ := σ) (lo := lo) (hi := hi) hs hs' hn hlh hx (fun τ2 hW2 => ?_) n1 (n - 1) 0 τ (by omega) hW
        refine s_cfe hn hlh (by omega) (by omega) hW2 ?_
        have f := hq τ2 hW2.2
        unfold q_od at f
        rw [if_neg (by omega), if_neg (by rw [z]; decide)] at f
        exact f
      refine cl _ ?_ _ ⟨fun k hk => ?_, fun c v h => ?_⟩
      · show nI (q_ah w L K R (L i) i m) - σ.1 5 0 4 = _
        rw [hc, pk_sub (by omega)]
      · by_cases g : k = 0
        · subst g
          rw [m_up_eq rfl]
          rfl
        · rw [m_up_ne g, show w_W lo hi 0 k = 0 from if_neg g]
          exact if_pos ⟨rfl, rfl, hk⟩
      · rw [m_up_other h, m_zero_other h]
  · have q : ¬ (0 : Int32) ≤ nI (q_ah w L K R (L i) i m) - σ.1 5 0 4 := q
    rw [hc, k_le, pk_sub_toInt (by omega) (by omega), k_z32] at q
    unfold q_od at hq0
    rw [if_pos (by omega)] at hq0
    exact hq0
end CFraction
