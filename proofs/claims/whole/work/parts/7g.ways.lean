/-! how many ways there are to each sum -/
def w_c (W : Nat → Nat) (lo k : Nat) : Nat → Nat
  | 0 => 0
  | e + 1 => w_c W lo k e + (if lo + e ≤ k then W (k - (lo + e)) else 0)
def w_W (lo hi : Nat → Nat) : Nat → Nat → Nat
  | 0 => fun k => if k = 0 then 1 else 0
  | n + 1 => fun k => w_c (w_W lo hi n) (lo n) k (hi n + 1 - lo n)
def w_p (lo hi : Nat → Nat) : Nat → Nat
  | 0 => 1
  | n + 1 => w_p lo hi n * (hi n - lo n + 1)
def q_sr (F : Nat → Nat) (s : Nat) : Nat → Nat
  | 0 => 0
  | e + 1 => q_sr F s e + F (s + e)
theorem w_c0 {W : Nat → Nat} {lo k : Nat} : ∀ e, (∀ t, t < e → lo + t ≤ k → W (k - (lo + t)) = 0) → w_c W lo k e = 0
  | 0, _ => rfl
  | e + 1, h => by
    show w_c W lo k e + (if lo + e ≤ k then W (k - (lo + e)) else 0) = 0
    rw [w_c0 e (fun t ht => h t (by omega))]
    by_cases g : lo + e ≤ k
    · rw [if_pos g, h e (by omega) g]
    · rw [if_neg g]
theorem w_sup {lo hi : Nat → Nat} : ∀ n, (∀ t, t < n → lo t ≤ hi t) → ∀ k, q_sm hi n < k → w_W lo hi n k = 0
  | 0, _, k, h => if_neg (by omega)
  | n + 1, hl, k, h => by
    have h : q_sm hi n + hi n < k := h
    have h1 := hl n (by omega)
    exact w_c0 _ (fun t ht hk => w_sup n (fun t ht => hl t (by omega)) _ (by omega))
theorem q_sm_add {f g : Nat → Nat} : ∀ M, q_sm (fun k => f k + g k) M = q_sm f M + q_sm g M
  | 0 => rfl
  | M + 1 => by
    have ih := q_sm_add (f := f) (g := g) M
    show q_sm (fun k => f k + g k) M + (f M + g M) = q_sm f M + f M + (q_sm g M + g M)
    omega
theorem q_sm_sh {W : Nat → Nat} {c : Nat} : ∀ M, q_sm (fun k => if c ≤ k then W (k - c) else 0) M = q_sm W (M - c)
  | 0 => by rw [Nat.zero_sub]; rfl
  | M + 1 => by
    have ih := q_sm_sh (W := W) (c := c) M
    show q_sm (fun k => if c ≤ k then W (k - c) else 0) M + (if c ≤ M then W (M - c) else 0) = _
    rw [ih]
    by_cases g : c ≤ M
    · rw [if_pos g, show M + 1 - c = M - c + 1 by omega]
      rfl
    · rw [if_neg g, show M + 1 - c = M - c by omega, Nat.add_zero]
theorem q_sm_0 : ∀ M, q_sm (fun _ => 0) M = 0
  | 0 => rfl
  | M + 1 => q_sm_0 M
theorem w_sum {W : Nat → Nat} {lo M T : Nat} : ∀ e, (∀ t, t < e → q_sm W (M - (lo + t)) = T) → q_sm (fun k => w_c W lo k e) M = T * e
  | 0, _ => q_sm_0 M
  | e + 1, h => by
    have ih := w_sum (W := W) (lo := lo) (M := M) (T := T) e (fun t ht => h t (by omega))
    show q_sm (fun k => w_c W lo k e + (if lo + e ≤ k then W (k - (lo + e)) else 0)) M = _
    rw [q_sm_add (f := fun k => w_c W lo k e) (g := fun k => if lo + e ≤ k then W (k - (lo + e)) else 0), ih, q_sm_sh, h e (by omega), Nat.mul_succ]
theorem w_tot {lo hi : Nat → Nat} : ∀ n, (∀ t, t < n → lo t ≤ hi t) → ∀ M, q_sm hi n < M → q_sm (w_W lo hi n) M = w_p lo hi n
  | 0, _, M, h => by
    have e : ∀ M, q_sm (w_W lo hi 0) (M + 1) = 1 := fun M => by
      induction M with
      | zero => rfl
      | succ M ih =>
        show q_sm (w_W lo hi 0) (M + 1) + (if M + 1 = 0 then 1 else 0) = 1
        rw [ih, if_neg (by omega)]
    obtain ⟨k, rfl⟩ : ∃ k, M = k + 1 := ⟨M - 1, by omega⟩
    exact e k
  | n + 1, hl, M, h => by
    have h : q_sm hi n + hi n < M := h
    have h1 := hl n (by omega)
    have e := w_sum (W := w_W lo hi n) (lo := lo n) (M := M) (T := w_p lo hi n) (hi n + 1 - lo n) (fun t ht => w_tot n (fun t ht => hl t (by omega)) _ (by omega))
    rw [show hi n + 1 - lo n = hi n - lo n + 1 by omega] at e
    show q_sm (fun k => w_c (w_W lo hi n) (lo n) k (hi n + 1 - lo n)) M = _
    rw [show hi n + 1 - lo n = hi n - lo n + 1 by omega]
    exact e
theorem w_pb {lo hi : Nat → Nat} : ∀ n, (∀ t, t < n → hi t ≤ lo t + 9) → 1 ≤ w_p lo hi n ∧ w_p lo hi n ≤ 10 ^ n
  | 0, _ => ⟨Nat.le_refl 1, Nat.le_refl 1⟩
  | n + 1, h => by
    obtain ⟨a, b⟩ := w_pb (lo := lo) (hi := hi) n (fun t ht => h t (by omega))
    have h1 := h n (by omega)
    refine ⟨Nat.mul_pos a (by omega), ?_⟩
    rw [Nat.pow_succ]
    exact Nat.mul_le_mul b (by omega)
theorem q_sr_z {F : Nat → Nat} {s e : Nat} (h : ∀ j, s + e ≤ j → F j = 0) : ∀ x, q_sr F s (e + x) = q_sr F s e
  | 0 => rfl
  | x + 1 => by
    show q_sr F s (e + x) + F (s + (e + x)) = _
    rw [q_sr_z h x, h _ (by omega), Nat.add_zero]
theorem q_sm_lo {F : Nat → Nat} {s : Nat} : ∀ M, M ≤ s → q_sm (fun k => if s ≤ k then F k else 0) M = 0
  | 0, _ => rfl
  | M + 1, h => by
    show q_sm (fun k => if s ≤ k then F k else 0) M + (if s ≤ M then F M else 0) = 0
    rw [q_sm_lo M (by omega), if_neg (by omega)]
theorem q_sm_hi {F : Nat → Nat} {s : Nat} : ∀ e, q_sm (fun k => if s ≤ k then F k else 0) (s + e) = q_sr F s e
  | 0 => q_sm_lo s (Nat.le_refl s)
  | e + 1 => by
    show q_sm (fun k => if s ≤ k then F k else 0) (s + e) + (if s ≤ s + e then F (s + e) else 0) = q_sr F s e + F (s + e)
    rw [q_sm_hi e, if_pos (by omega)]
theorem q_sm_mono {f g : Nat → Nat} (h : ∀ k, f k ≤ g k) : ∀ M, q_sm f M ≤ q_sm g M
  | 0 => Nat.le_refl 0
  | M + 1 => Nat.add_le_add (q_sm_mono h M) (h M)
theorem q_sm_ex {f g : Nat → Nat} (h : ∀ k, f k = g k) (M : Nat) : q_sm f M = q_sm g M := by
  rw [show f = g from funext h]
/-- what is asked for, of those that are good -/
def w_g (W : Nat → Nat) (A a : Nat) : Nat → Nat := fun k => if A < a + k then W k else 0
theorem w_ab {W : Nat → Nat} {A a rch : Nat} (hA : a ≤ A) (hA2 : A < 100) (hr : rch ≤ 160) (hs : ∀ k, rch < k → W k = 0) : q_sr W (A - a + 1) (rch - (A - a)) = q_sm (w_g W A a) 161 := by
  have e1 : q_sm (w_g W A a) 161 = q_sm (fun k => if A - a + 1 ≤ k then W k else 0) 161 := q_sm_ex (fun k => by
    show (if A < a + k then W k else 0) = (if A - a + 1 ≤ k then W k else 0)
    by_cases g : A < a + k
    · rw [if_pos g, if_pos (by omega)]
    · rw [if_neg g, if_neg (by omega)]) 161
  rw [e1, show 161 = A - a + 1 + (160 - (A - a)) by omega, q_sm_hi, show 160 - (A - a) = rch - (A - a) + (160 - (A - a) - (rch - (A - a))) by omega, q_sr_z (fun j hj => hs j (by omega))]
theorem w_gt {W : Nat → Nat} {A a : Nat} (hA : A < a) (M : Nat) : q_sm (w_g W A a) M = q_sm W M := q_sm_ex (fun k => if_pos (by omega)) M
theorem w_gle {W : Nat → Nat} {A a : Nat} (M : Nat) : q_sm (w_g W A a) M ≤ q_sm W M := q_sm_mono (fun k => by
  show (if A < a + k then W k else 0) ≤ W k
  by_cases g : A < a + k
  · rw [if_pos g]; exact Nat.le_refl _
  · rw [if_neg g]; exact Nat.zero_le _) M
theorem k_gcd (x y : Nat) : Nat.gcd x y = Nat.gcd y (x % y) := by
  rw [Nat.gcd_comm x y, Nat.gcd_rec y x, Nat.gcd_comm]
