/-! what rows lack; are they comings -/
def q_lack (σ : m_M) (s : Nat) (n : Int32) : Int32 := if σ.1 3 s 1 = 0 then Int32.ofInt 1 else if n ≤ σ.1 3 s 3 then Int32.ofInt 0 else Int32.ofInt 2
section Lack
variable {E : m_E} {r : Nat} {σ : m_M} {Q : m_F → Prop}
theorem s_lk {s : Nat} {n : Int32} (hq : Q (0, [], [vI (q_lack σ s n)], σ)) : m_T E 65535 r 54 (0, [some (vR 3 s), some (vI n)], [], σ) Q := by
  refine m_T_un 40 m_no ?_
  refine ⟨fun c => ⟨fun c2 => ?_, fun c2 => ?_⟩, fun c => ?_⟩
  · have c : ¬ σ.1 3 s 1 = 0 := c
    have c2 : n ≤ σ.1 3 s 3 := c2
    rw [show q_lack σ s n = Int32.ofInt 0 by unfold q_lack; rw [if_neg c, if_pos c2]] at hq
    exact hq
  · have c : ¬ σ.1 3 s 1 = 0 := c
    have c2 : ¬ n ≤ σ.1 3 s 3 := c2
    rw [show q_lack σ s n = Int32.ofInt 2 by unfold q_lack; rw [if_neg c, if_neg c2]] at hq
    exact hq
  · have c : σ.1 3 s 1 = 0 := c
    rw [show q_lack σ s n = Int32.ofInt 1 by unfold q_lack; rw [if_pos c]] at hq
    exact hq
theorem s_mlk {s : Nat} {n : Int32} (hs : s < 8) (hr : q_row σ s) (hq : Q (0, [], [vI (q_lack σ s n)], σ)) : m_T E 65535 r 128 (0, [some (vR 6 0), some (vI (nI s)), some (vI n)], [], σ) Q := by
  obtain ⟨k, k40, e1, e2, e3, -⟩ := hr
  have i8 : vp_in (nI s) 8 := k_in hs (by decide)
  refine m_T_un 40 m_no ?_
  refine ⟨i8, fun c => ⟨i8, fun c2 => ?_, fun c2 => ?_⟩, fun c => ?_⟩
  · have c : (0 : Int32) ≤ σ.1 13 0 (nI s).toNatClampNeg := c
    have c2 : n ≤ σ.1 13 1 (nI s).toNatClampNeg := c2
    rw [k_cl (by omega)] at c c2
    rw [e2, ← e1] at c2
    rcases e3 with ⟨t0, t1⟩ | ⟨t0, t1⟩
    · rw [t1] at c
      exact absurd c (by decide)
    · rw [show q_lack σ s n = Int32.ofInt 0 by unfold q_lack; rw [if_neg (by rw [t0]; decide), if_pos c2]] at hq
      exact hq
  · have c : (0 : Int32) ≤ σ.1 13 0 (nI s).toNatClampNeg := c
    have c2 : ¬ n ≤ σ.1 13 1 (nI s).toNatClampNeg := c2
    rw [k_cl (by omega)] at c c2
    rw [e2, ← e1] at c2
    rcases e3 with ⟨t0, t1⟩ | ⟨t0, t1⟩
    · rw [t1] at c
      exact absurd c (by decide)
    · rw [show q_lack σ s n = Int32.ofInt 2 by unfold q_lack; rw [if_neg (by rw [t0]; decide), if_neg c2]] at hq
      exact hq
  · have c : ¬ (0 : Int32) ≤ σ.1 13 0 (nI s).toNatClampNeg := c
    rw [k_cl (by omega)] at c
    rcases e3 with ⟨t0, t1⟩ | ⟨t0, d, d2, t1, t2⟩
    · rw [show q_lack σ s n = Int32.ofInt 1 by unfold q_lack; rw [if_pos t0]] at hq
      exact hq
    · rw [t2] at c
      exact absurd (nI_pos' (by omega)) c
/-- the first n items are 0 to hi -/
def q_btw (σ : m_M) (s n hi : Nat) : Prop := ∀ t, t < n → 0 ≤ (σ.1 12 (20 + s) t).toInt ∧ (σ.1 12 (20 + s) t).toInt ≤ hi
theorem k_20 : ((Int8.ofInt 20).toInt32) = nI 20 := rfl
theorem k_l20 : (m_nth m_kL 14 0).toInt = 20 := by decide
theorem s_btw1 {s n hi : Nat} (hs : s < 8) (hn : n ≤ 40) (hh : hi < 2 ^ 31) (h : q_btw σ s n hi) (hq : Q (0, [], [vI (Int32.ofInt 1)], σ)) : m_T E 65535 (r + 1) 55 (0, [some (vR 3 s), some (vI (nI n)), some (vI (Int32.ofInt 0)), some (vI (nI hi)), none], [], σ) Q := by
  have key : ∀ k t, t + k = n → m_T E 65535 (r + 1) 55 (3, [some (vR 3 s), some (vI (nI n)), some (vI (Int32.ofInt 0)), some (vI (nI hi)), some (vI (nI t))], [], σ) Q := by
    intro k
    induction k with
    | zero =>
      intro t ht
      refine m_T_un 40 (fun y pc => (Nat.beq y 55 && Nat.beq pc 3) || Nat.beq y 50 || Nat.beq y 2) ?_
      exact ⟨fun _ => ⟨Or.inr rfl, hq⟩, fun q => absurd (nI_le (show n ≤ t by omega) (by omega)) q⟩
    | succ k ih =>
      intro t ht
      refine m_T_un 40 (fun y pc => (Nat.beq y 55 && Nat.beq pc 3) || Nat.beq y 50 || Nat.beq y 2) ?_
      refine ⟨fun q => absurd q (nI_ge (show t < n by omega) (by omega)), fun _ => ?_⟩
      refine s_at t rfl (by rw [m_lenR hs]; omega) ?_
      refine s_outA0 0 hi k_0 (k_nI hh) (h t (by omega)).1 (h t (by omega)).2 ⟨fun _ => ?_, fun q => absurd rfl q⟩
      have e := ih (t + 1) (by omega)
      rw [nI_succ] at e
      exact e
  refine m_T_un 40 (fun y pc => Nat.beq y 55 && Nat.beq pc 3) ?_
  exact key n 0 (by omega)
theorem s_btw0 {s n hi : Nat} (hs : s < 8) (hn : n ≤ 40) (hh : hi < 2 ^ 31) (h : ¬ q_btw σ s n hi) (hq : Q (0, [], [vI (Int32.ofInt 0)], σ)) : m_T E 65535 (r + 1) 55 (0, [some (vR 3 s), some (vI (nI n)), some (vI (Int32.ofInt 0)), some (vI (nI hi)), none], [], σ) Q := by
  have key : ∀ k t, t + k = n → q_btw σ s t hi → m_T E 65535 (r + 1) 55 (3, [some (vR 3 s), some (vI (nI n)), some (vI (Int32.ofInt 0)), some (vI (nI hi)), some (vI (nI t))], [], σ) Q := by
    intro k
    induction k with
    | zero =>
      intro t ht hb
      obtain rfl : t = n := by omega
      exact absurd hb h
    | succ k ih =>
      intro t ht hb
      refine m_T_un 40 (fun y pc => (Nat.beq y 55 && Nat.beq pc 3) || Nat.beq y 50 || Nat.beq y 2) ?_
      refine ⟨fun q => absurd q (nI_ge (show t < n by omega) (by omega)), fun _ => ?_⟩
      refine s_at t rfl (by rw [m_lenR hs]; omega) ?_
      by_cases g : 0 ≤ (σ.1 12 (20 + s) t).toInt ∧ (σ.1 12 (20 + s) t).toInt ≤ hi
      · refine s_outA0 0 hi k_0 (k_nI hh) g.1 g.2 ⟨fun _ => ?_, fun q => absurd rfl q⟩
        have e := ih (t + 1) (by omega) (fun u hu => by
          by_cases e : u = t
          · rw [e]; exact g
          · exact hb u (by omega))
        rw [nI_succ] at e
        exact e
      · exact s_outA1 0 hi k_0 (k_nI hh) (by omega) ⟨fun q => absurd q k_no1, fun _ => ⟨Or.inl rfl, hq⟩⟩
  refine m_T_un 40 (fun y pc => Nat.beq y 55 && Nat.beq pc 3) ?_
  exact key n 0 (by omega) (fun t ht => absurd ht (by omega))
/-- the model: the flag once down stays down -/
theorem s_cmg {s n : Nat} (hs : s < 8) (hn : n ≤ 40) (hr : q_row σ s) (hq : ∀ z : Bool, (z = true ↔ q_btw σ s n 20) → Q (0, [], [vI (k_bit z)], σ)) : m_T E 65535 (r + 1) 129 (0, [some (vR 6 0), some (vI (nI s)), some (vI (nI n)), none, none], [], σ) Q := by
  obtain ⟨_, -, -, -, -, f⟩ := hr
  have key : ∀ k t (z : Bool), t + k = n → (z = true ↔ q_btw σ s t 20) → m_T E 65535 (r + 1) 129 (5, [some (vR 6 0), some (vI (nI s)), some (vI (nI n)), some (vI (k_bit z)), some (vI (nI t))], [], σ) Q := by
    intro k
    induction k with
    | zero =>
      intro t z ht hz
      obtain rfl : t = n := by omega
      refine m_T_un 40 (fun y pc => (Nat.beq y 129 && Nat.beq pc 5) || Nat.beq y 87) ?_
      cases z with
      | true => exact ⟨fun _ => ⟨Or.inr rfl, hq true hz⟩, fun q => absurd (nI_le (Nat.le_refl t) (by omega)) q⟩
      | false => exact ⟨fun _ => ⟨Or.inl rfl, hq false hz⟩, fun q => absurd (nI_le (Nat.le_refl t) (by omega)) q⟩
    | succ k ih =>
      intro t z ht hz
      have hv : vp_in ((Int8.ofInt 40).toInt32 * nI s + nI t) 320 := by rw [k_40n]; exact k_in (by omega) (by decide)
      have hx : σ.1 13 2 ((Int8.ofInt 40).toInt32 * nI s + nI t).toNatClampNeg = σ.1 12 (20 + s) t := by rw [k_40n, k_cl (by omega)]; exact (f t (by omega)).symm
      have stop : q_btw σ s (t + 1) 20 ↔ (q_btw σ s t 20 ∧ 0 ≤ (σ.1 12 (20 + s) t).toInt ∧ (σ.1 12 (20 + s) t).toInt ≤ 20) := by
        constructor
        · intro h
          exact ⟨fun u hu => h u (by omega), h t (by omega)⟩
        · intro h u hu
          by_cases e : u = t
          · rw [e]; exact h.2
          · exact h.1 u (by omega)
      refine m_T_un 40 (fun y pc => (Nat.beq y 129 && Nat.beq pc 5) || Nat.beq y 87) ?_
      cases z with
      | false =>
        have e := ih (t + 1) false (by omega) (by rw [stop]; exact ⟨fun q => absurd q (by decide), fun q => hz.mpr q.1⟩)
        rw [nI_succ] at e
        exact ⟨fun q => absurd q (nI_ge (show t < n by omega) (by omega)), fun _ => ⟨fun _ => e, fun q => absurd rfl q⟩⟩
      | true =>
        refine ⟨fun q => absurd q (nI_ge (show t < n by omega) (by omega)), fun _ => ⟨fun q => absurd q (by decide), fun _ => ⟨hv, ?_⟩⟩⟩
        by_cases g : 0 ≤ (σ.1 12 (20 + s) t).toInt ∧ (σ.1 12 (20 + s) t).toInt ≤ 20
        · have e := ih (t + 1) true (by omega) (by rw [stop]; exact ⟨fun _ => ⟨hz.mp rfl, g⟩, fun _ => rfl⟩)
          rw [nI_succ] at e
          exact s_inA1 0 20 k_L0 k_l20 (by rw [hx]; exact g.1) (by rw [hx]; exact g.2) ⟨fun q => absurd q k_no1, fun _ => e⟩
        · have e := ih (t + 1) false (by omega) (by rw [stop]; exact ⟨fun q => absurd q (by decide), fun q => absurd q.2 g⟩)
          rw [nI_succ] at e
          exact s_inA0 0 20 k_L0 k_l20 (by rw [hx]; omega) ⟨fun _ => e, fun q => absurd rfl q⟩
  refine m_T_un 40 (fun y pc => Nat.beq y 129 && Nat.beq pc 5) ?_
  exact key n 0 true (by omega) ⟨fun _ t ht => absurd ht (by omega), fun _ => rfl⟩
end Lack
