/-! pairs of rows: copy -/
theorem m_cp_upG {σ : m_M} {i j n : Nat} {x : Int32} (hx : x = σ.1 13 2 (i + n)) : m_up (m_cp σ 2 2 i j n) 13 2 (j + n) x = m_cp σ 2 2 i j (n + 1) := by
  subst hx
  refine Prod.ext ?_ rfl
  funext c u t
  simp only [m_up, m_cp]
  by_cases h1 : c = 13 ∧ u = 2
  · obtain ⟨rfl, rfl⟩ := h1
    by_cases h2 : t = j + n
    · subst h2
      rw [if_pos ⟨rfl, rfl, rfl⟩, if_pos ⟨rfl, rfl, by omega, by omega⟩, show j + n - j = n by omega]
    · rw [if_neg (by omega)]
      by_cases h3 : j ≤ t ∧ t < j + n
      · rw [if_pos ⟨rfl, rfl, h3⟩, if_pos ⟨rfl, rfl, by omega, by omega⟩]
      · rw [if_neg (by omega), if_neg (by omega)]
  · rw [if_neg (by omega), if_neg (by omega), if_neg (by omega)]
theorem m_cp_dnG {σ : m_M} {i j n : Nat} {x : Int32} (hx : x = σ.1 13 2 i) : m_up (m_cp σ 2 2 (i + 1) (j + 1) n) 13 2 j x = m_cp σ 2 2 i j (n + 1) := by
  subst hx
  refine Prod.ext ?_ rfl
  funext c u t
  simp only [m_up, m_cp]
  by_cases h1 : c = 13 ∧ u = 2
  · obtain ⟨rfl, rfl⟩ := h1
    by_cases h2 : t = j
    · subst h2
      rw [if_pos ⟨rfl, rfl, rfl⟩, if_pos ⟨rfl, rfl, by omega, by omega⟩, show i + (t - t) = i by omega]
    · rw [if_neg (by omega)]
      by_cases h3 : j + 1 ≤ t ∧ t < j + 1 + n
      · rw [if_pos ⟨rfl, rfl, h3⟩, if_pos ⟨rfl, rfl, by omega, by omega⟩, show i + 1 + (t - (j + 1)) = i + (t - j) by omega]
      · rw [if_neg (by omega), if_neg (by omega)]
  · rw [if_neg (by omega), if_neg (by omega), if_neg (by omega)]
theorem k_40s (r i t : Nat) : (Int8.ofInt 40).toInt32 * nI r + nI i + nI t = nI (40 * r + i + t) := by
  rw [k_40n, nI_add]
theorem k_sub2 {n t : Nat} (h : t < n) : nI n - Int32.ofInt 1 - nI t = nI (n - 1 - t) := by
  rw [show Int32.ofInt 1 = nI 1 from rfl, pk_sub (by omega), pk_sub (by omega)]
theorem s_mcpU {E : m_E} {x r s i j n : Nat} {σ : m_M} {Q : m_F → Prop} (hr : r < 8) (hs : s < 8) (hi : i + n ≤ 40) (hj : j + n ≤ 40) (hij : j ≤ i) (hq : Q (0, [], [vI (nI n)], m_cp σ 2 2 (40 * r + i) (40 * s + j) n)) : m_T E 65535 x 90 (143, [some (vR 6 0), some (vI (nI r)), some (vI (nI i)), some (vI (nI s)), some (vI (nI j)), some (vI (nI n)), some (vI (Int32.ofInt 1)), some (vI (nI 0)), none], [], σ) Q := by
  have key : ∀ k t, t + k = n → m_T E 65535 x 90 (143, [some (vR 6 0), some (vI (nI r)), some (vI (nI i)), some (vI (nI s)), some (vI (nI j)), some (vI (nI n)), some (vI (Int32.ofInt 1)), some (vI (nI t)), none], [], m_cp σ 2 2 (40 * r + i) (40 * s + j) t) Q := by
    intro k
    induction k with
    | zero =>
      intro t ht
      refine m_T_un 60 (fun y pc => Nat.beq y 90 && Nat.beq pc 143) ?_
      refine ⟨fun c1 => ?_, fun c1 => absurd (nI_le (show n ≤ t by omega) (by omega)) c1⟩
      obtain rfl : t = n := by omega
      exact hq
    | succ k ih =>
      intro t ht
      refine m_T_un 60 (fun y pc => Nat.beq y 90 && Nat.beq pc 143) ?_
      refine ⟨fun c1 => absurd c1 (nI_ge (show t < n by omega) (by omega)), fun c1 => ⟨fun q => absurd q k_no1, fun _ => ⟨show vp_in ((Int8.ofInt 40).toInt32 * nI r + nI i + nI t) 320 by rw [k_40s]; exact k_in (by omega) (by decide), show vp_in ((Int8.ofInt 40).toInt32 * nI s + nI j + nI t) 320 by rw [k_40s]; exact k_in (by omega) (by decide), ?_⟩⟩⟩
      refine m_T_mask [true, true, true, true, true, true, true, true, false] ?_
      have e := ih (t + 1) (by omega)
      rw [← m_cp_upG (x := (m_cp σ 2 2 (40 * r + i) (40 * s + j) t).1 13 2 (40 * r + i + t)) (m_cp_out (by omega)), nI_succ] at e
      have e2 : m_T E 65535 x 90 (143, [some (vR 6 0), some (vI (nI r)), some (vI (nI i)), some (vI (nI s)), some (vI (nI j)), some (vI (nI n)), some (vI (Int32.ofInt 1)), some (vI (nI t + 1)), none], [], m_up (m_cp σ 2 2 (40 * r + i) (40 * s + j) t) 13 2 ((Int8.ofInt 40).toInt32 * nI s + nI j + nI t).toNatClampNeg ((m_cp σ 2 2 (40 * r + i) (40 * s + j) t).1 13 2 ((Int8.ofInt 40).toInt32 * nI r + nI i + nI t).toNatClampNeg)) Q := by
        rw [k_40s, k_40s, k_cl (by omega), k_cl (by omega)]; exact e
      exact e2
  have e := key n 0 (by omega)
  rw [m_cp_0] at e
  exact e
theorem s_mcpD {E : m_E} {x r s i j n : Nat} {σ : m_M} {Q : m_F → Prop} (hr : r < 8) (hs : s < 8) (hi : i + n ≤ 40) (hj : j + n ≤ 40) (hij : i < j) (hq : Q (0, [], [vI (nI n)], m_cp σ 2 2 (40 * r + i) (40 * s + j) n)) : m_T E 65535 x 90 (143, [some (vR 6 0), some (vI (nI r)), some (vI (nI i)), some (vI (nI s)), some (vI (nI j)), some (vI (nI n)), some (vI (Int32.ofInt 0)), some (vI (nI 0)), none], [], σ) Q := by
  have key : ∀ k t, t + k = n → m_T E 65535 x 90 (143, [some (vR 6 0), some (vI (nI r)), some (vI (nI i)), some (vI (nI s)), some (vI (nI j)), some (vI (nI n)), some (vI (Int32.ofInt 0)), some (vI (nI t)), none], [], m_cp σ 2 2 (40 * r + i + k) (40 * s + j + k) t) Q := by
    intro k
    induction k with
    | zero =>
      intro t ht
      refine m_T_un 60 (fun y pc => Nat.beq y 90 && Nat.beq pc 143) ?_
      refine ⟨fun c1 => ?_, fun c1 => absurd (nI_le (show n ≤ t by omega) (by omega)) c1⟩
      obtain rfl : t = n := by omega
      exact hq
    | succ k ih =>
      intro t ht
      have k1 : n - 1 - t = k := by omega
      refine m_T_un 60 (fun y pc => Nat.beq y 90 && Nat.beq pc 143) ?_
      refine ⟨fun c1 => absurd c1 (nI_ge (show t < n by omega) (by omega)), fun c1 => ⟨fun _ => ⟨show vp_in ((Int8.ofInt 40).toInt32 * nI r + nI i + (nI n - Int32.ofInt 1 - nI t)) 320 by rw [k_sub2 (by omega), k_40s]; exact k_in (by omega) (by decide), show vp_in ((Int8.ofInt 40).toInt32 * nI s + nI j + (nI n - Int32.ofInt 1 - nI t)) 320 by rw [k_sub2 (by omega), k_40s]; exact k_in (by omega) (by decide), ?_⟩, fun q => absurd rfl q⟩⟩
      refine m_T_mask [true, true, true, true, true, true, true, true, false] ?_
      have e := ih (t + 1) (by omega)
      rw [← m_cp_dnG (x := (m_cp σ 2 2 (40 * r + i + k + 1) (40 * s + j + k + 1) t).1 13 2 (40 * r + i + k)) (m_cp_out (by omega)), nI_succ] at e
      have e2 : m_T E 65535 x 90 (143, [some (vR 6 0), some (vI (nI r)), some (vI (nI i)), some (vI (nI s)), some (vI (nI j)), some (vI (nI n)), some (vI (Int32.ofInt 0)), some (vI (nI t + 1)), none], [], m_up (m_cp σ 2 2 (40 * r + i + (k + 1)) (40 * s + j + (k + 1)) t) 13 2 ((Int8.ofInt 40).toInt32 * nI s + nI j + (nI n - Int32.ofInt 1 - nI t)).toNatClampNeg ((m_cp σ 2 2 (40 * r + i + (k + 1)) (40 * s + j + (k + 1)) t).1 13 2 ((Int8.ofInt 40).toInt32 * nI r + nI i + (nI n - Int32.ofInt 1 - nI t)).toNatClampNeg)) Q := by
        rw [k_sub2 (by omega), k_40s, k_40s, k_cl (by omega), k_cl (by omega), k1]; exact e
      exact e2
  have e := key n 0 (by omega)
  rw [show m_cp σ 2 2 (40 * r + i + n) (40 * s + j + n) 0 = σ from m_cp_0] at e
  exact e
/-- does a row reach -/
theorem s_rch1 {E : m_E} {x r n : Nat} {σ : m_M} {Q : m_F → Prop} {b e : Int32} (hn : σ.1 3 r 3 = nI n) (h40 : n ≤ 40) (h1 : 0 ≤ b.toInt) (h2 : 0 ≤ e.toInt) (h3 : b.toInt + e.toInt ≤ n) (hq : Q (0, [], [vI (Int32.ofInt 1)], σ)) : m_T E 65535 x 53 (0, [some (vR 3 r), some (vI b), some (vI e)], [], σ) Q := by
  obtain ⟨i, hi, rfl⟩ := k_of (n := 41) h1 (by omega)
  obtain ⟨m, hm, rfl⟩ := k_of (n := 41) h2 (by omega)
  rw [k_nI (by omega), k_nI (by omega)] at h3
  refine m_T_un 60 m_no ?_
  refine ⟨fun q => absurd q (nI_pos (by omega)), fun _ => ⟨fun q => absurd q (nI_pos (by omega)), fun _ => ⟨fun q => ?_, fun _ => ⟨fun q => ?_, fun _ => ⟨Or.inr rfl, hq⟩⟩⟩⟩⟩
  · have q : σ.1 3 r 3 < nI i := q
    rw [hn] at q
    exact absurd q (nI_nlt (by omega) (by omega))
  · have q : σ.1 3 r 3 - nI i < nI m := q
    rw [hn, pk_sub (by omega)] at q
    exact absurd q (nI_nlt (by omega) (by omega))
theorem s_rch0 {E : m_E} {x r n : Nat} {σ : m_M} {Q : m_F → Prop} {b e : Int32} (hn : σ.1 3 r 3 = nI n) (h40 : n ≤ 40) (h : ¬ (0 ≤ b.toInt ∧ 0 ≤ e.toInt ∧ b.toInt + e.toInt ≤ n)) (hq : Q (0, [], [vI (Int32.ofInt 0)], σ)) : m_T E 65535 x 53 (0, [some (vR 3 r), some (vI b), some (vI e)], [], σ) Q := by
  refine m_T_un 60 m_no ?_
  refine ⟨fun _ => ⟨Or.inl rfl, hq⟩, fun c1 => ⟨fun _ => ⟨Or.inl rfl, hq⟩, fun c2 => ⟨fun _ => ⟨Or.inl rfl, hq⟩, fun c3 => ⟨fun _ => ⟨Or.inl rfl, hq⟩, fun c4 => ?_⟩⟩⟩⟩
  have c1 : ¬ b < 0 := c1
  have c2 : ¬ e < 0 := c2
  have c3 : ¬ σ.1 3 r 3 < b := c3
  have c4 : ¬ σ.1 3 r 3 - b < e := c4
  rw [k_lt, k_z32] at c1 c2
  rw [hn, k_lt, k_nI (by omega)] at c3
  obtain ⟨i, hi, rfl⟩ := k_of (x := b) (n := 41) (by omega) (by omega)
  rw [k_nI (by omega)] at c3 h
  rw [hn, pk_sub (by omega), k_lt, k_nI (by omega)] at c4
  omega
