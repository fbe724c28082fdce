/-! odds: the class -/
def z_W (σ τ : m_M) (F : Nat → Nat) : Prop := (∀ k, k < 161 → τ.1 12 30 k = nI (F k)) ∧ (∀ c v, ¬ (c = 12 ∧ v = 30) → τ.1 c v = σ.1 c v)
section Fraction
variable {E : m_E} {r : Nat} {σ : m_M} {Q : m_F → Prop}
theorem s_atn {v : Nat} {x : Int32} (hx : x < 0) (h : Q (0, [], [vI (Int32.ofInt 0)], σ)) : m_T E 65535 r 50 (0, [some (vR 2 v), some (vI x)], [], σ) Q := by
  refine m_T_un 40 m_no ?_
  exact ⟨fun _ => h, fun c => absurd hx c⟩
/-- one sum's ways -/
theorem s_sp1 {W : Nat → Nat} {lo hi : Nat} {rch : Int32} {k : Nat} (hlh : lo ≤ hi) (hi20 : hi ≤ 20) (hk : k < 161) (hW : ∀ j, j ≤ k → σ.1 12 30 j = nI (W j)) (hq : m_T E 65535 (r + 1) 22 (43, [some (vR 0 0), some (vI (nI lo)), some (vI (nI hi)), some (vI rch), some (vI (nI k)), some (vI (nI (w_c W lo k (hi + 1 - lo)))), none], [], σ) Q) : ∀ j e, e + j = hi + 1 - lo → m_T E 65535 (r + 1) 22 (14, [some (vR 0 0), some (vI (nI lo)), some (vI (nI hi)), some (vI rch), some (vI (nI k)), some (vI (nI (w_c W lo k e))), some (vI (nI (lo + e)))], [], σ) Q := by
  intro j
  induction j with
  | zero =>
    intro e he
    refine m_T_un 40 (fun y pc => (Nat.beq y 22 && (Nat.beq pc 14 || Nat.beq pc 43)) || Nat.beq y 50) ?_
    refine ⟨fun _ => ?_, fun q => absurd (nI_lt (show hi < lo + e by omega) (by omega)) q⟩
    refine m_T_mask [true, true, true, true, true, true, false] ?_
    rw [show hi + 1 - lo = e by omega] at hq
    exact hq
  | succ j ih =>
    intro e he
    have ee := ih (e + 1) (by omega)
    rw [← Nat.add_assoc, nI_succ (lo + e), show w_c W lo k (e + 1) = w_c W lo k e + (if lo + e ≤ k then W (k - (lo + e)) else 0) from rfl, ← nI_add] at ee
    refine m_T_un 40 (fun y pc => (Nat.beq y 22 && (Nat.beq pc 14 || Nat.beq pc 43)) || Nat.beq y 50) ?_
    refine ⟨fun q => absurd q (nI_nlt (show lo + e ≤ hi by omega) (by omega)), fun _ => ?_⟩
    by_cases g : lo + e ≤ k
    · rw [if_pos g, ← hW (k - (lo + e)) (by omega)] at ee
      exact s_at (k - (lo + e)) (pk_sub g) (show k - (lo + e) < 161 by omega) ee
    · rw [if_neg g] at ee
      exact s_atn (pk_sneg (by omega) (by omega)) ee
theorem s_spr {τ : m_M} {W : Nat → Nat} {lo hi rch : Nat} {x y z : Int32} (hlh : lo ≤ hi) (hi20 : hi ≤ 20) (hr : rch ≤ 160) (hx : x = nI lo) (hy : y = nI hi) (hz : z = nI rch) (hs : ∀ k, rch < k → W k = 0 ∧ w_c W lo k (hi + 1 - lo) = 0) (hW : z_W σ τ W) (hq : ∀ τ', z_W σ τ' (fun k => w_c W lo k (hi + 1 - lo)) → Q (0, [], [], τ')) : m_T E 65535 (r + 1) 22 (0, [some (vR 0 0), some (vI x), some (vI y), some (vI z), none, none, none], [], τ) Q := by
  subst hx
  subst hy
  subst hz
  have key : ∀ s τ, s ≤ 161 → (∀ k, k < 161 → τ.1 12 30 k = if k < s then nI (W k) else nI (w_c W lo k (hi + 1 - lo))) → (∀ c v, ¬ (c = 12 ∧ v = 30) → τ.1 c v = σ.1 c v) → m_T E 65535 (r + 1) 22 (3, [some (vR 0 0), some (vI (nI lo)), some (vI (nI hi)), some (vI (nI rch)), some (vI (nI s + Int32.ofInt (-1))), none, none], [], τ) Q := by
    intro s
    induction s with
    | zero =>
      intro τ hs1 h1 h2
      refine m_T_un 40 (fun y pc => (Nat.beq y 22 && (Nat.beq pc 3 || Nat.beq pc 14))) ?_
      refine ⟨fun _ => ?_, fun q => absurd (show (nI 0 + Int32.ofInt (-1) : Int32) < 0 by decide) q⟩
      exact hq τ ⟨fun k hk => (h1 k hk).trans (if_neg (by omega)), h2⟩
    | succ s ih =>
      intro τ hs1 h1 h2
      rw [k_pred]
      refine m_T_un 40 (fun y pc => (Nat.beq y 22 && (Nat.beq pc 3 || Nat.beq pc 14))) ?_
      refine ⟨fun q => absurd q (nI_pos (by omega)), fun _ => ?_⟩
      refine s_sp1 (W := W) hlh hi20 (by omega) (fun j hj => (h1 j (by omega)).trans (if_pos (by omega))) ?_ (hi + 1 - lo) 0 (by omega)
      refine m_T_un 40 (fun y pc => (Nat.beq y 22 && (Nat.beq pc 3 || Nat.beq pc 14)) || Nat.beq y 48) ?_
      refine s_put (v := 30) s rfl (show s < 161 by omega) ?_
      refine m_T_mask [true, true, true, true, true, false, false] ?_
      refine ih _ (by omega) (fun k hk => ?_) (fun c v h => ?_)
      · by_cases g : k = s
        · rw [m_up_eq g, if_neg (by omega), g]
        · rw [m_up_ne g, h1 k hk]
          by_cases g2 : k < s
          · rw [if_pos g2, if_pos (by omega)]
          · rw [if_neg g2, if_neg (by omega)]
      · rw [m_up_other h, h2 c v h]
  refine m_T_un 40 (fun y pc => (Nat.beq y 22 && Nat.beq pc 3)) ?_
  have e := key (rch + 1) τ (by omega) (fun k hk => by
    rw [hW.1 k hk]
    by_cases g : k < rch + 1
    · rw [if_pos g]
    · rw [if_neg g, (hs k (by omega)).1, (hs k (by omega)).2]) hW.2
  rw [k_pred] at e
  exact e
/-- the shared divisor -/
theorem s_sdl (x0 y0 : Int32) : ∀ n x y st (z : m_L), x < 2 ^ 31 → y < 2 ^ n → n ≤ 31 → st + 2 * n ≤ 100 → Q (0, [], [vI (nI (Nat.gcd x y))], σ) → m_T E 65535 r 23 (7, [some (vI x0), some (vI y0), some (vI (nI x)), some (vI (nI y)), some (vI (nI st)), none], [], σ) Q := by
  intro n
  induction n with
  | zero =>
    intro x y st z hx hy hn hs hq
    obtain rfl : y = 0 := by omega
    rw [Nat.gcd_zero_right] at hq
    refine m_T_un 40 (fun y pc => (Nat.beq y 23 && Nat.beq pc 7)) ?_
    exact ⟨fun _ => hq, fun _ => ⟨fun _ => hq, fun q => absurd rfl q⟩⟩
  | succ n ih =>
    intro x y st z hx hy hn hs hq
    have hp : 2 ^ (n + 1) ≤ 2 ^ 31 := Nat.pow_le_pow_right (by omega) hn
    by_cases y0' : y = 0
    · subst y0'
      rw [Nat.gcd_zero_right] at hq
      refine m_T_un 40 (fun y pc => (Nat.beq y 23 && Nat.beq pc 7)) ?_
      exact ⟨fun _ => hq, fun _ => ⟨fun _ => hq, fun q => absurd rfl q⟩⟩
    · have hr : x % y < y := Nat.mod_lt x (by omega)
      have e1 : nI x - nI x / nI y * nI y = nI (x % y) := pk_rem hx (by omega) (by omega)
      rw [k_gcd] at hq
      have step : m_T E 65535 r 23 (7, [some (vI x0), some (vI y0), some (vI (nI y)), some (vI (nI (x % y))), some (vI (nI (st + 1))), none], [], σ) Q := by
        by_cases r0 : x % y = 0
        · rw [r0] at hq ⊢
          rw [Nat.gcd_zero_right] at hq
          refine m_T_un 40 (fun y pc => (Nat.beq y 23 && Nat.beq pc 7)) ?_
          exact ⟨fun _ => hq, fun _ => ⟨fun _ => hq, fun q => absurd rfl q⟩⟩
        · have hr2 : y % (x % y) < x % y := Nat.mod_lt y (by omega)
          have hr3 : y % (x % y) + x % y ≤ y := by
            have := Nat.div_add_mod y (x % y)
            have h1 : 1 ≤ y / (x % y) := (Nat.one_le_div_iff (by omega)).mpr (by omega)
            have h2 : x % y * 1 ≤ x % y * (y / (x % y)) := Nat.mul_le_mul_left _ h1
            omega
          have e2 : nI y - nI y / nI (x % y) * nI (x % y) = nI (y % (x % y)) := pk_rem (by omega) (by omega) (by omega)
          have hq2 := hq
          rw [k_gcd] at hq2
          have hpn : 2 ^ (n + 1) = 2 ^ n * 2 := Nat.pow_succ 2 n
          have e := ih (x % y) (y % (x % y)) (st + 2) z (by omega) (by omega) (by omega) (by omega) hq2
          rw [show st + 2 = st + 1 + 1 from rfl, nI_succ (st + 1), ← e2] at e
          refine m_T_un 40 (fun y pc => (Nat.beq y 23 && Nat.beq pc 7)) ?_
          refine ⟨fun q => absurd q (nI_ge (show st + 1 < 100 by omega) (by omega)), fun _ => ⟨fun q => absurd q (nI_ne0 (by omega) (by omega)), fun _ => ⟨nI_ne0 (by omega) (by omega), ?_⟩⟩⟩
          refine m_T_mask [true, true, true, true, true, false] ?_
          exact e
      rw [nI_succ st, ← e1] at step
      refine m_T_un 40 (fun y pc => (Nat.beq y 23 && Nat.beq pc 7)) ?_
      refine ⟨fun q => absurd q (nI_ge (show st < 100 by omega) (by omega)), fun _ => ⟨fun q => absurd q (nI_ne0 (by omega) (by omega)), fun _ => ⟨nI_ne0 (by omega) (by omega), ?_⟩⟩⟩
      refine m_T_mask [true, true, true, true, true, false] ?_
      exact step
theorem s_sdv {x y : Nat} (hx : x < 2 ^ 31) (hy : y < 2 ^ 31) (hq : Q (0, [], [vI (nI (Nat.gcd x y))], σ)) : m_T E 65535 r 23 (0, [some (vI (nI x)), some (vI (nI y)), none, none, none, none], [], σ) Q := by
  refine m_T_un 40 (fun y pc => (Nat.beq y 23 && Nat.beq pc 7)) ?_
  exact s_sdl (nI x) (nI y) 31 x y 0 [] hx hy (Nat.le_refl 31) (by omega) hq
end Fraction
