/-! the text: the model's people -/
def y_D (τ : m_M) (N : Nat) (K R H : Nat → Nat) : Prop := τ.1 13 4 7 = nI N ∧ τ.1 13 4 8 = nI N ∧ ∀ p, p < N → τ.1 13 4 (69 + 4 * p) = nI (K p) ∧ τ.1 13 4 (70 + 4 * p) = nI (R p) ∧ τ.1 13 4 (71 + 4 * p) = nI (H p) ∧ τ.1 13 4 (72 + 4 * p) = -1000000 ∧ τ.1 13 4 (9 + p) = nI p
def y_L (μ τ : m_M) (n : Nat) (A : t_A) : Prop := (∃ fa : Int32, (τ.1 6 0 11 = nI n ∧ τ.1 6 0 12 = nI A.1.2.1 ∧ τ.1 6 0 13 = nI (t_mt A.1.2.2.1) ∧ τ.1 6 0 14 = nI A.1.1 ∧ τ.1 6 0 15 = nI A.1.2.1 ∧ τ.1 6 0 16 = nI A.1.2.2.2 ∧ τ.1 6 0 17 = fa) ∧ (¬ A.1.2.2.2 = 0 → fa = nI A.1.1)) ∧ y_D τ A.2.1 A.2.2.1 A.2.2.2.1 A.2.2.2.2 ∧ (∀ j, j < 7 → τ.1 13 4 j = μ.1 13 4 j) ∧ (∀ j, (j < 12 ∨ 17 < j) → τ.1 6 0 j = μ.1 6 0 j) ∧ (∀ c v, ¬ (c = 6 ∧ v = 0) → ¬ (c = 13 ∧ v = 4) → τ.1 c v = μ.1 c v)
theorem y_Lp {μ τ : m_M} {n : Nat} {A : t_A} (h : y_L μ τ n A) : p_M τ τ n A.1 := by
  obtain ⟨⟨fa, h1, h2⟩, -⟩ := h
  exact ⟨fa, ⟨h1, fun _ _ => rfl, fun _ _ _ => rfl⟩, h2⟩
theorem y_Lq {μ τ τ' : m_M} {n : Nat} {S : t_S} {A : t_A} (h : y_L μ τ n A) (hC : p_M τ τ' n S) : y_L μ τ' n (S, A.2) := by
  obtain ⟨-, ⟨h2, h3, h4⟩, h5, h6, h7⟩ := h
  obtain ⟨fa, ⟨c1, c2, c3⟩, c4⟩ := hC
  refine ⟨⟨fa, c1, c4⟩, ⟨by rw [c3 13 4 (by omega)]; exact h2, by rw [c3 13 4 (by omega)]; exact h3, by rw [c3 13 4 (by omega)]; exact h4⟩, by rw [c3 13 4 (by omega)]; exact h5, fun j g => (c2 j g).trans (h6 j g), fun c v g1 g2 => (c3 c v g1).trans (h7 c v g1 g2)⟩
def z_f (τ : m_M) (N : Nat) (x y z : Int32) : m_M := m_up (m_up (m_up (m_up (m_up (m_up (m_up τ 13 4 (69 + 4 * N) x) 13 4 (70 + 4 * N) y) 13 4 (71 + 4 * N) z) 13 4 (72 + 4 * N) (-1000000)) 13 4 (9 + N) (nI N)) 13 4 7 (nI (N + 1))) 13 4 8 (nI (N + 1))
theorem z_fj {τ : m_M} {N : Nat} {x y z : Int32} (j : Nat) : (z_f τ N x y z).1 13 4 j = if j = 8 then nI (N + 1) else if j = 7 then nI (N + 1) else if j = 9 + N then nI N else if j = 72 + 4 * N then -1000000 else if j = 71 + 4 * N then z else if j = 70 + 4 * N then y else if j = 69 + 4 * N then x else τ.1 13 4 j := by simp [z_f, m_up]
theorem z_fo {τ : m_M} {N : Nat} {x y z : Int32} (c v : Nat) (h : ¬ (c = 13 ∧ v = 4)) : (z_f τ N x y z).1 c v = τ.1 c v := by
  unfold z_f
  rw [m_up_other h, m_up_other h, m_up_other h, m_up_other h, m_up_other h, m_up_other h, m_up_other h]
theorem z_fL {μ τ : m_M} {n N k rr hh : Nat} {S : t_S} {K R H : Nat → Nat} (N60 : N < 60) (h : y_L μ τ n (S, N, K, R, H)) : y_L μ (z_f τ N (nI k) (nI rr) (nI hh)) n (S, N + 1, q_u K N k, q_u R N rr, q_u H N hh) := by
  obtain ⟨⟨fa, h1, h2⟩, ⟨h3, h4, h5⟩, h6, h7, h8⟩ := h
  have h5 : ∀ p, p < N → τ.1 13 4 (69 + 4 * p) = nI (K p) ∧ τ.1 13 4 (70 + 4 * p) = nI (R p) ∧ τ.1 13 4 (71 + 4 * p) = nI (H p) ∧ τ.1 13 4 (72 + 4 * p) = -1000000 ∧ τ.1 13 4 (9 + p) = nI p := h5
  refine ⟨⟨fa, by rw [z_fo 6 0 (by omega)]; exact h1, h2⟩, ⟨?_, ?_, fun p hp => ?_⟩, fun j hj => ?_, fun j g => by rw [z_fo 6 0 (by omega)]; exact h7 j g, fun c v g1 g2 => (z_fo c v g2).trans (h8 c v g1 g2)⟩
  · rw [z_fj, if_neg (by omega), if_pos rfl]
  · rw [z_fj, if_pos rfl]
  · have hp : p < N + 1 := hp
    show _ = nI (if p = N then k else K p) ∧ _ = nI (if p = N then rr else R p) ∧ _ = nI (if p = N then hh else H p) ∧ _ ∧ _
    by_cases g : p = N
    · subst g
      rw [if_pos rfl, if_pos rfl, if_pos rfl]
      refine ⟨?_, ?_, ?_, ?_, ?_⟩
      · rw [z_fj, if_neg (by omega), if_neg (by omega), if_neg (by omega), if_neg (by omega), if_neg (by omega), if_neg (by omega), if_pos rfl]
      · rw [z_fj, if_neg (by omega), if_neg (by omega), if_neg (by omega), if_neg (by omega), if_neg (by omega), if_pos rfl]
      · rw [z_fj, if_neg (by omega), if_neg (by omega), if_neg (by omega), if_neg (by omega), if_pos rfl]
      · rw [z_fj, if_neg (by omega), if_neg (by omega), if_neg (by omega), if_pos rfl]
      · rw [z_fj, if_neg (by omega), if_neg (by omega), if_pos rfl]
    · rw [if_neg g, if_neg g, if_neg g]
      have old : ∀ j, (69 ≤ j ∧ j < 69 + 4 * N) ∨ (9 ≤ j ∧ j < 9 + N) → (z_f τ N (nI k) (nI rr) (nI hh)).1 13 4 j = τ.1 13 4 j := fun j hj => by
        rw [z_fj, if_neg (by omega), if_neg (by omega), if_neg (by omega), if_neg (by omega), if_neg (by omega), if_neg (by omega), if_neg (by omega)]
      have e := h5 p (by omega)
      rw [old _ (by omega), old _ (by omega), old _ (by omega), old _ (by omega), old _ (by omega)]
      exact e
  · rw [z_fj, if_neg (by omega), if_neg (by omega), if_neg (by omega), if_neg (by omega), if_neg (by omega), if_neg (by omega), if_neg (by omega)]
    exact h6 j hj
section Abs3
variable (B : Nat → Nat) (n : Nat)
def t_r1 (S : t_S) : t_S := t_ac B n (Nat.blt 0 (t_kd B S)) S
def t_r2 (S : t_S) : t_S := t_nm B n 9 (t_r1 B n S)
def t_r3 (S : t_S) : t_S := t_nm B n 99 (t_r2 B n S)
def t_r4 (S : t_S) : t_S := t_ac B n (Nat.beq (t_r3 B n S).2.2.1 3) (t_r3 B n S)
end Abs3
theorem t_acn {B : Nat → Nat} {n : Nat} {b : Bool} {S : t_S} (h : ¬ S.2.2.2 = 0) : t_ac B n b S = S := if_neg h
theorem t_nmn {B : Nat → Nat} {n most : Nat} {S : t_S} (h : ¬ S.2.2.2 = 0) : t_nm B n most S = S := if_neg h
theorem t_r4n {B : Nat → Nat} {n : Nat} {S : t_S} (h : ¬ S.2.2.2 = 0) : t_r4 B n S = S := by
  have e1 : t_r1 B n S = S := t_acn h
  have e2 : t_r2 B n S = S := by unfold t_r2; rw [e1]; exact t_nmn h
  have e3 : t_r3 B n S = S := by unfold t_r3; rw [e2]; exact t_nmn h
  unfold t_r4
  rw [e3]
  exact t_acn h
section MPerson
variable {E : m_E} {r : Nat} {μ τ : m_M} {Q : m_F → Prop} {B : Nat → Nat} {n : Nat}
theorem s_mjf {N : Nat} {x y z : Int32} (h7 : τ.1 13 4 7 = nI N) (h8 : τ.1 13 4 8 = nI N) (N60 : N < 60) (hq : Q (0, [], [], z_f τ N x y z)) : m_T E 65535 r 108 (59, [some (vR 6 0), some (vI x), some (vI y), some (vI z), none], [], τ) Q := by
  have i7 : vp_in ((Int8.ofInt 7).toInt32) 309 := k_in (k := 7) (n := 309) (by decide) (by decide)
  have i8 : vp_in ((Int8.ofInt 8).toInt32) 309 := k_in (k := 8) (n := 309) (by decide) (by decide)
  have e0 : (Int8.ofInt 69).toInt32 + Int32.ofInt 4 * τ.1 13 4 7 = nI (69 + 4 * N) := by
    rw [h7, show (Int8.ofInt 69).toInt32 = nI 69 from rfl, show Int32.ofInt 4 = nI 4 from rfl, pk_mul, nI_add]
  have ek : ∀ k, (Int8.ofInt 69).toInt32 + Int32.ofInt 4 * τ.1 13 4 7 + nI k = nI (69 + k + 4 * N) := fun k => by
    rw [e0, nI_add]
    exact congrArg nI (by omega)
  have go : ∀ (w : m_V) (j0 j1 j2 j3 : Nat), j0 = 69 + 4 * N → j1 = 70 + 4 * N → j2 = 71 + 4 * N → j3 = 72 + 4 * N → m_T E 65535 r 108 (112, [some (vR 6 0), some (vI x), some (vI y), some (vI z), some w], [], m_up (m_up (m_up (m_up τ 13 4 j0 x) 13 4 j1 y) 13 4 j2 z) 13 4 j3 (-1000000)) Q := fun w j0 j1 j2 j3 g0 g1 g2 g3 => by
    subst g0
    subst g1
    subst g2
    subst g3
    have e7 : (m_up (m_up (m_up (m_up τ 13 4 (69 + 4 * N) x) 13 4 (70 + 4 * N) y) 13 4 (71 + 4 * N) z) 13 4 (72 + 4 * N) (-1000000)).1 13 4 7 = nI N := by
      rw [m_up_ne (by omega), m_up_ne (by omega), m_up_ne (by omega), m_up_ne (by omega), h7]
    have e8 : (m_up (m_up (m_up (m_up τ 13 4 (69 + 4 * N) x) 13 4 (70 + 4 * N) y) 13 4 (71 + 4 * N) z) 13 4 (72 + 4 * N) (-1000000)).1 13 4 8 = nI N := by
      rw [m_up_ne (by omega), m_up_ne (by omega), m_up_ne (by omega), m_up_ne (by omega), h8]
    have hz : Q (0, [], [], m_up (m_up (m_up (m_up (m_up (m_up (m_up τ 13 4 (69 + 4 * N) x) 13 4 (70 + 4 * N) y) 13 4 (71 + 4 * N) z) 13 4 (72 + 4 * N) (-1000000)) 13 4 (9 + N) (nI N)) 13 4 7 (nI (N + 1))) 13 4 8 (nI (N + 1))) := hq
    generalize m_up (m_up (m_up (m_up τ 13 4 (69 + 4 * N) x) 13 4 (70 + 4 * N) y) 13 4 (71 + 4 * N) z) 13 4 (72 + 4 * N) (-1000000) = X at e7 e8 hz
    have e9 : (Int8.ofInt 9).toInt32 + X.1 13 4 7 = nI (9 + N) := by rw [e7]; exact k_9 N
    have fin : ∀ (j : Nat) (a b c : Int32), j = 9 + N → a = nI N → b = nI (N + 1) → c = nI (N + 1) → Q (0, [], [], m_up (m_up (m_up X 13 4 j a) 13 4 7 b) 13 4 8 c) := fun j a b c g1 g2 g3 g4 => by
      subst g1
      subst g2
      subst g3
      subst g4
      exact hz
    refine m_T_un 60 m_no ?_
    refine ⟨i7, i7, show vp_in ((Int8.ofInt 9).toInt32 + X.1 13 4 7) 309 by rw [e9]; exact k_in (by omega) (by decide), i7, i7, i8, i8, ?_⟩
    have c9 : ((Int8.ofInt 9).toInt32 + X.1 13 4 7).toNatClampNeg = 9 + N := by rw [e9, k_cl (by omega)]
    refine fin _ _ _ _ c9 e7 ?_ ?_
    · show (m_up X 13 4 ((Int8.ofInt 9).toInt32 + X.1 13 4 7).toNatClampNeg (X.1 13 4 7)).1 13 4 7 + nI 1 = nI (N + 1)
      rw [c9, m_up_ne (by omega), e7, nI_add]
    · show (m_up (m_up X 13 4 ((Int8.ofInt 9).toInt32 + X.1 13 4 7).toNatClampNeg (X.1 13 4 7)) 13 4 7 _).1 13 4 8 + nI 1 = nI (N + 1)
      rw [m_up_ne (by omega), c9, m_up_ne (by omega), e8, nI_add]
  refine m_T_un 60 (fun y pc => (Nat.beq y 108 && Nat.beq pc 112)) ?_
  refine ⟨i7, show vp_in ((Int8.ofInt 69).toInt32 + Int32.ofInt 4 * τ.1 13 4 7) 309 by rw [e0]; exact k_in (by omega) (by decide), show vp_in ((Int8.ofInt 69).toInt32 + Int32.ofInt 4 * τ.1 13 4 7 + nI 1) 309 by rw [ek]; exact k_in (by omega) (by decide), show vp_in ((Int8.ofInt 69).toInt32 + Int32.ofInt 4 * τ.1 13 4 7 + nI 2) 309 by rw [ek]; exact k_in (by omega) (by decide), show vp_in ((Int8.ofInt 69).toInt32 + Int32.ofInt 4 * τ.1 13 4 7 + nI 3) 309 by rw [ek]; exact k_in (by omega) (by decide), ?_⟩
  refine go _ _ _ _ _ ?_ ?_ ?_ ?_
  · show ((Int8.ofInt 69).toInt32 + Int32.ofInt 4 * τ.1 13 4 7).toNatClampNeg = _
    rw [e0, k_cl (by omega)]
  · show ((Int8.ofInt 69).toInt32 + Int32.ofInt 4 * τ.1 13 4 7 + nI 1).toNatClampNeg = _
    rw [ek, k_cl (by omega)]
  · show ((Int8.ofInt 69).toInt32 + Int32.ofInt 4 * τ.1 13 4 7 + nI 2).toNatClampNeg = _
    rw [ek, k_cl (by omega)]
  · show ((Int8.ofInt 69).toInt32 + Int32.ofInt 4 * τ.1 13 4 7 + nI 3).toNatClampNeg = _
    rw [ek, k_cl (by omega)]
theorem s_mrp0 {A : t_A} (hn : n ≤ 500) (hB : ∀ j, j < n → μ.1 13 5 j = nI (B j) ∧ B j < 256) (hS : t_ok B n A.1) (hN : (t_r4 B n (t_ac B n true A.1)).2.2.2 = 0 → A.2.1 < 24) (hL : y_L μ τ n A) (hq1 : ¬ (t_r4 B n (t_ac B n true A.1)).2.2.2 = 0 → ∀ τ', y_L μ τ' n (t_r4 B n (t_ac B n true A.1), A.2) → Q (0, [], [], τ')) (hq0 : (t_r4 B n (t_ac B n true A.1)).2.2.2 = 0 → ∀ τ', y_L μ τ' n (t_r4 B n (t_ac B n true A.1), A.2.1 + 1, q_u A.2.2.1 A.2.1 (t_kd B (t_ac B n true A.1)), q_u A.2.2.2.1 A.2.1 (t_vl B (t_r1 B n (t_ac B n true A.1))), q_u A.2.2.2.2 A.2.1 (t_vl B (t_r2 B n (t_ac B n true A.1)))) → Q (0, [], [], τ')) : m_T E 65535 (r + 4) 108 (17, [some (vR 6 0), none, none, none, none], [], τ) Q := by
  have hBt : ∀ τ : m_M, (∀ c v, ¬ (c = 6 ∧ v = 0) → ¬ (c = 13 ∧ v = 4) → τ.1 c v = μ.1 c v) → ∀ j, j < n → τ.1 13 5 j = nI (B j) ∧ B j < 256 := fun τ h j hj => by
    rw [h 13 5 (by omega) (by omega)]
    exact hB j hj
  refine m_T_un 60 (fun y pc => k_mm y pc || (Nat.beq y 108 && Nat.beq pc 52)) ?_
  refine s_mmu hn (hBt τ hL.2.2.2.2) hS (y_Lp hL) true rfl (fun τ1 h1 => ?_)
  have o1 : t_ok B n (t_ac B n true A.1) := t_ac_ok hS
  generalize t_ac B n true A.1 = S1 at h1 o1 hN hq1 hq0
  have L1 : y_L μ τ1 n (S1, A.2) := y_Lq hL h1
  refine s_mtk hn (hBt τ1 L1.2.2.2.2) o1 (y_Lp L1) (fun y hy => ?_)
  have hy2 : S1.2.2.2 = 0 → (y = -1000000 ↔ Nat.blt 0 (t_kd B S1) = false) := fun h0 => by
    rcases hy h0 with ⟨g1, g2⟩ | ⟨g1, g2⟩
    · rw [g1]
      exact ⟨fun _ => rfl, fun _ => g2⟩
    · have := t_kd_le (B := B) S1
      refine ⟨fun h => absurd (g2.symm.trans h) (k_ne0 (by omega)), fun h => ?_⟩
      have e : Nat.blt 0 (t_kd B S1) = true := by rw [Nat.blt_eq]; omega
      rw [e] at h
      exact Bool.noConfusion h
  refine s_mkn hn (hBt τ1 L1.2.2.2.2) o1 (y_Lp L1) (Nat.blt 0 (t_kd B S1)) hy2 (fun τ2 h2 => ?_)
  have o2 : t_ok B n (t_r1 B n S1) := t_ac_ok o1
  have L2 : y_L μ τ2 n (t_r1 B n S1, A.2) := y_Lq (A := (S1, A.2)) L1 h2
  refine s_mnu (most := 9) hn (hBt τ2 L2.2.2.2.2) o2 (y_Lp L2) (by omega) rfl (fun τ3 x3 hx3 h3 => ?_)
  have o3 : t_ok B n (t_r2 B n S1) := t_nm_ok o2
  have L3 : y_L μ τ3 n (t_r2 B n S1, A.2) := y_Lq (A := (t_r1 B n S1, A.2)) L2 h3
  refine s_mnu (most := 99) hn (hBt τ3 L3.2.2.2.2) o3 (y_Lp L3) (by omega) rfl (fun τ4 x4 hx4 h4 => ?_)
  have o4 : t_ok B n (t_r3 B n S1) := t_nm_ok o3
  have L4 : y_L μ τ4 n (t_r3 B n S1, A.2) := y_Lq (A := (t_r2 B n S1, A.2)) L3 h4
  refine s_men hn (hBt τ4 L4.2.2.2.2) o4 (y_Lp L4) (fun τ5 h5 => ?_)
  have o5 : t_ok B n (t_r4 B n S1) := t_ac_ok o4
  have L5 : y_L μ τ5 n (t_r4 B n S1, A.2) := y_Lq (A := (t_r3 B n S1, A.2)) L4 h5
  have l16 : τ5.1 6 0 16 = nI (t_r4 B n S1).2.2.2 := by
    obtain ⟨⟨fa, h, -⟩, -⟩ := L5
    exact h.2.2.2.2.2.1
  have s4 := o5.2.2.2.1
  refine m_T_un 60 (fun y pc => (Nat.beq y 108 && Nat.beq pc 59)) ?_
  refine ⟨fun q => ?_, fun q => ?_⟩
  · have q : ¬ τ5.1 6 0 16 = nI 0 := q
    rw [l16, nI_eq (by omega) (by omega)] at q
    exact hq1 q τ5 L5
  · have q : τ5.1 6 0 16 = nI 0 := q
    rw [l16, nI_eq (by omega) (by omega)] at q
    obtain ⟨a4, -⟩ := t_ac_0 q
    obtain ⟨a3, b3⟩ := t_nm_0 a4
    obtain ⟨a2, b2⟩ := t_nm_0 a3
    obtain ⟨a1, b1⟩ := t_ac_0 a2
    have N24 := hN q
    have ey : y = nI (t_kd B S1) := by
      rcases hy a1 with ⟨g1, g2⟩ | ⟨g1, g2⟩
      · rw [g1] at b1
        exact absurd b1 (by decide)
      · exact g2
    have e3 := hx3 a2
    have e4 := hx4 a3
    subst ey
    subst e3
    subst e4
    exact s_mjf L5.2.1.1 L5.2.1.2.1 (by show A.2.1 < 60; omega) (hq0 q _ (z_fL (show A.2.1 < 60 by omega) L5))
theorem s_mrp {A : t_A} (hn : n ≤ 500) (hB : ∀ j, j < n → μ.1 13 5 j = nI (B j) ∧ B j < 256) (hS : t_ok B n A.1) (hN : A.2.1 ≤ 24) (h0 : A.1.2.2.2 = 0) (h4 : t_sw B A.1 4 = true) (hL : y_L μ τ n A) (hq : ∀ τ', y_L μ τ' n (t_st B n A) → Q (0, [], [], τ')) : m_T E 65535 (r + 4) 108 (0, [some (vR 6 0), none, none, none, none], [], τ) Q := by
  have i7 : vp_in ((Int8.ofInt 7).toInt32) 309 := k_in (k := 7) (n := 309) (by decide) (by decide)
  have n7 : τ.1 13 4 7 = nI A.2.1 := hL.2.1.1
  have l16 : τ.1 6 0 16 = nI 0 := by
    obtain ⟨⟨fa, h, -⟩, -⟩ := hL
    exact h.2.2.2.2.2.1.trans (congrArg nI h0)
  have hp1 : t_p1 B n A.1 = t_ac B n true A.1 := by unfold t_p1; rw [h4]
  have hp5 : t_p5 B n A.1 = t_r4 B n (t_ac B n true A.1) := by rw [← hp1]; rfl
  refine m_T_un 60 (fun y pc => k_mm y pc || (Nat.beq y 108 && Nat.beq pc 17)) ?_
  refine ⟨i7, fun q => ?_, fun q => ⟨fun q2 => absurd l16 q2, fun _ => ?_⟩⟩
  · have q : ¬ τ.1 13 4 7 = nI 24 := q
    rw [n7, nI_eq (by omega) (by omega)] at q
    unfold t_st at hq
    rw [if_neg (fun h => by omega), hp5] at hq
    refine s_mrp0 hn hB hS (fun _ => by omega) hL (fun g τ' h' => ?_) (fun g τ' h' => ?_)
    · rw [if_neg g] at hq
      exact hq τ' h'
    · rw [if_pos g] at hq
      refine hq τ' ?_
      have e1 : t_p2 B n A.1 = t_r1 B n (t_ac B n true A.1) := by rw [← hp1]; rfl
      have e2 : t_p3 B n A.1 = t_r2 B n (t_ac B n true A.1) := by rw [← hp1]; rfl
      rw [hp1, e1, e2]
      exact h'
  · have q : τ.1 13 4 7 = nI 24 := q
    rw [n7, nI_eq (by omega) (by omega)] at q
    unfold t_st at hq
    rw [if_pos ⟨h4, by omega⟩] at hq
    have L2 : y_L μ _ n ((A.1.1, A.1.2.1, A.1.2.2.1, 3), A.2) := y_Lq hL (p_Mb (k := 3) (y_Lp hL))
    have z : ¬ ((A.1.1, A.1.2.1, A.1.2.2.1, 3) : t_S).2.2.2 = 0 := show ¬ 3 = 0 by omega
    have e1 : t_ac B n true (A.1.1, A.1.2.1, A.1.2.2.1, 3) = (A.1.1, A.1.2.1, A.1.2.2.1, 3) := t_acn z
    have e2 : t_r4 B n (t_ac B n true (A.1.1, A.1.2.1, A.1.2.2.1, 3)) = (A.1.1, A.1.2.1, A.1.2.2.1, 3) := by rw [e1]; exact t_r4n z
    refine s_mrp0 (A := ((A.1.1, A.1.2.1, A.1.2.2.1, 3), A.2)) hn hB ⟨hS.1, hS.2.1, hS.2.2.1, (show 3 ≤ 3 by omega), hS.2.2.2.2⟩ (fun g => ?_) L2 (fun g τ' h' => ?_) (fun g τ' h' => ?_)
    · rw [e2] at g
      exact absurd g z
    · rw [e2] at h'
      exact hq τ' h'
    · rw [e2] at g
      exact absurd g z
end MPerson
