/-! the text: its people (class) -/
theorem k_any (x : Int32) : ∃ k : Nat, x = nI k := ⟨x.toBitVec.toNat, by
  apply Int32.toBitVec_inj.mp
  show x.toBitVec = BitVec.ofNat 32 x.toBitVec.toNat
  rw [BitVec.ofNat_toNat, BitVec.setWidth_eq]⟩
def q_u (f : Nat → Nat) (N x : Nat) : Nat → Nat := fun p => if p = N then x else f p
abbrev t_A : Type := t_S × Nat × (Nat → Nat) × (Nat → Nat) × (Nat → Nat)
section Abs
variable (B : Nat → Nat) (n : Nat)
def t_p1 (S : t_S) : t_S := t_ac B n (t_sw B S 4) S
def t_p2 (S : t_S) : t_S := t_ac B n (Nat.blt 0 (t_kd B (t_p1 B n S))) (t_p1 B n S)
def t_p3 (S : t_S) : t_S := t_nm B n 9 (t_p2 B n S)
def t_p4 (S : t_S) : t_S := t_nm B n 99 (t_p3 B n S)
def t_p5 (S : t_S) : t_S := t_ac B n (Nat.beq (t_p4 B n S).2.2.1 3) (t_p4 B n S)
def t_st (A : t_A) : t_A := if t_sw B A.1 4 = true ∧ 24 ≤ A.2.1 then ((A.1.1, A.1.2.1, A.1.2.2.1, 3), A.2) else if (t_p5 B n A.1).2.2.2 = 0 then (t_p5 B n A.1, A.2.1 + 1, q_u A.2.2.1 A.2.1 (t_kd B (t_p1 B n A.1)), q_u A.2.2.2.1 A.2.1 (t_vl B (t_p2 B n A.1)), q_u A.2.2.2.2 A.2.1 (t_vl B (t_p3 B n A.1))) else (t_p5 B n A.1, A.2)
def t_lp : Nat → t_A → t_A
  | 0, A => A
  | k + 1, A => if A.1.2.2.2 = 0 ∧ ¬ A.1.2.2.1 = 0 then t_lp k (t_st B n A) else A
def t_h1 : t_S := t_nx B n (0, 0, 0, 0)
def t_h2 : t_S := t_ac B n (t_sw B (t_h1 B n) 0) (t_h1 B n)
def t_h3 : t_S := t_ac B n (Nat.blt (t_lw B (t_h2 B n)) 3) (t_h2 B n)
def t_h4 : t_S := t_nm B n 999 (t_h3 B n)
def t_h5 : t_S := t_nm B n 99 (t_h4 B n)
def t_h6 : t_S := t_nm B n 20 (t_h5 B n)
def t_h7 : t_S := t_ac B n (Nat.beq (t_h6 B n).2.2.1 3) (t_h6 B n)
end Abs
section Abs2
variable {B : Nat → Nat} {n : Nat}
theorem t_ac_0 {b : Bool} {S : t_S} (h : (t_ac B n b S).2.2.2 = 0) : S.2.2.2 = 0 ∧ b = true := by
  unfold t_ac at h
  by_cases g : S.2.2.2 = 0
  · rw [if_pos g] at h
    cases b with
    | true => exact ⟨g, rfl⟩
    | false => exact absurd h (show ¬ 1 = 0 by omega)
  · rw [if_neg g] at h
    exact absurd h g
theorem t_nm_0 {most : Nat} {S : t_S} (h : (t_nm B n most S).2.2.2 = 0) : S.2.2.2 = 0 ∧ t_vl B S ≤ most := by
  unfold t_nm at h
  by_cases g : S.2.2.2 = 0
  · rw [if_pos g] at h
    by_cases g2 : most < t_vl B S
    · rw [if_pos g2] at h
      exact absurd h (show ¬ 2 = 0 by omega)
    · exact ⟨g, by omega⟩
  · rw [if_neg g] at h
    exact absurd h g
theorem t_kd_le (S : t_S) : t_kd B S ≤ 5 := by
  unfold t_kd
  cases t_sw B S 5 <;> cases t_sw B S 6 <;> cases t_sw B S 7 <;> cases t_sw B S 8 <;> cases t_sw B S 9 <;> decide
theorem t_lw_le (S : t_S) : t_lw B S ≤ 3 := by
  unfold t_lw
  cases t_sw B S 1 <;> cases t_sw B S 2 <;> cases t_sw B S 3 <;> decide
theorem t_p1_ok {S : t_S} (h : t_ok B n S) : t_ok B n (t_p1 B n S) := t_ac_ok h
theorem t_p2_ok {S : t_S} (h : t_ok B n S) : t_ok B n (t_p2 B n S) := t_ac_ok (t_p1_ok h)
theorem t_p3_ok {S : t_S} (h : t_ok B n S) : t_ok B n (t_p3 B n S) := t_nm_ok (t_p2_ok h)
theorem t_p4_ok {S : t_S} (h : t_ok B n S) : t_ok B n (t_p4 B n S) := t_nm_ok (t_p3_ok h)
theorem t_p5_ok {S : t_S} (h : t_ok B n S) : t_ok B n (t_p5 B n S) := t_ac_ok (t_p4_ok h)
theorem t_p_0 {S : t_S} (h : (t_p5 B n S).2.2.2 = 0) : S.2.2.2 = 0 ∧ t_sw B S 4 = true ∧ 1 ≤ t_kd B (t_p1 B n S) ∧ t_vl B (t_p2 B n S) ≤ 9 ∧ t_vl B (t_p3 B n S) ≤ 99 ∧ (t_p1 B n S).2.2.2 = 0 ∧ (t_p2 B n S).2.2.2 = 0 ∧ (t_p3 B n S).2.2.2 = 0 ∧ (t_p4 B n S).2.2.2 = 0 := by
  obtain ⟨a4, -⟩ := t_ac_0 h
  obtain ⟨a3, b3⟩ := t_nm_0 a4
  obtain ⟨a2, b2⟩ := t_nm_0 a3
  obtain ⟨a1, b1⟩ := t_ac_0 a2
  obtain ⟨a0, b0⟩ := t_ac_0 a1
  rw [Nat.blt_eq] at b1
  exact ⟨a0, b0, b1, b2, b3, a1, a2, a3, a4⟩
theorem t_st_ok {A : t_A} (h : t_ok B n A.1) : t_ok B n (t_st B n A).1 := by
  unfold t_st
  split
  · exact ⟨h.1, h.2.1, h.2.2.1, (show 3 ≤ 3 by omega), h.2.2.2.2⟩
  · split
    · exact t_p5_ok h
    · exact t_p5_ok h
theorem t_st_N {A : t_A} (h : A.2.1 ≤ 24) : (t_st B n A).2.1 ≤ 24 := by
  unfold t_st
  by_cases g : t_sw B A.1 4 = true ∧ 24 ≤ A.2.1
  · rw [if_pos g]
    exact h
  · rw [if_neg g]
    by_cases g2 : (t_p5 B n A.1).2.2.2 = 0
    · rw [if_pos g2]
      have e := (t_p_0 g2).2.1
      have e2 : ¬ 24 ≤ A.2.1 := fun q => g ⟨e, q⟩
      show A.2.1 + 1 ≤ 24
      omega
    · rw [if_neg g2]
      exact h
theorem t_h1_ok : t_ok B n (t_h1 B n) := t_nx_ok0 (Nat.zero_le n) (Nat.zero_le 3)
theorem t_h2_ok : t_ok B n (t_h2 B n) := t_ac_ok t_h1_ok
theorem t_h3_ok : t_ok B n (t_h3 B n) := t_ac_ok t_h2_ok
theorem t_h4_ok : t_ok B n (t_h4 B n) := t_nm_ok t_h3_ok
theorem t_h5_ok : t_ok B n (t_h5 B n) := t_nm_ok t_h4_ok
theorem t_h6_ok : t_ok B n (t_h6 B n) := t_nm_ok t_h5_ok
theorem t_h7_ok : t_ok B n (t_h7 B n) := t_ac_ok t_h6_ok
end Abs2
/-- the draft -/
def z_D (τ : m_M) (N : Nat) (K R H : Nat → Nat) : Prop := τ.1 5 1 8 = nI N ∧ τ.1 5 1 9 = nI N ∧ ∀ p, p < N → τ.1 12 5 p = nI (K p) ∧ τ.1 12 6 p = nI (R p) ∧ τ.1 12 7 p = nI (H p) ∧ τ.1 12 8 p = 0 ∧ τ.1 12 9 p = nI p
def z_L (σ τ : m_M) (n : Nat) (A : t_A) : Prop := (τ.1 4 0 1 = nI n ∧ τ.1 4 0 2 = nI A.1.1 ∧ τ.1 4 0 3 = nI A.1.2.1 ∧ τ.1 4 0 4 = nI A.1.2.2.1 ∧ τ.1 4 0 5 = nI A.1.2.2.2) ∧ z_D τ A.2.1 A.2.2.1 A.2.2.2.1 A.2.2.2.2 ∧ (∀ j, ¬ j = 8 → ¬ j = 9 → τ.1 5 1 j = σ.1 5 1 j) ∧ (∀ c v, ¬ (c = 4 ∧ v = 0) → ¬ (c = 5 ∧ v = 1) → ¬ (c = 12 ∧ 5 ≤ v ∧ v < 10) → τ.1 c v = σ.1 c v)
theorem z_Lp {σ τ : m_M} {n : Nat} {A : t_A} (h : z_L σ τ n A) : p_C τ τ n A.1 := ⟨h.1.1, h.1.2.1, h.1.2.2.1, h.1.2.2.2.1, h.1.2.2.2.2, fun _ _ _ => rfl⟩
theorem z_Lq {σ τ τ' : m_M} {n : Nat} {S : t_S} {A : t_A} (h : z_L σ τ n A) (hC : p_C τ τ' n S) : z_L σ τ' n (S, A.2) := by
  obtain ⟨h1, ⟨h2, h3, h4⟩, h5, h6⟩ := h
  obtain ⟨c1, c2, c3, c4, c5, c6⟩ := hC
  refine ⟨⟨c1, c2, c3, c4, c5⟩, ⟨by rw [c6 5 1 (by omega)]; exact h2, by rw [c6 5 1 (by omega)]; exact h3, ?_⟩, fun j g1 g2 => by rw [c6 5 1 (by omega)]; exact h5 j g1 g2, fun c v g1 g2 g3 => (c6 c v g1).trans (h6 c v g1 g2 g3)⟩
  rw [c6 12 5 (by omega), c6 12 6 (by omega), c6 12 7 (by omega), c6 12 8 (by omega), c6 12 9 (by omega)]
  exact h4
def z_j (τ : m_M) (N : Nat) (x y z : Int32) : m_M := m_up (m_up (m_up (m_up (m_up (m_up (m_up τ 5 1 8 (nI (N + 1))) 12 5 N x) 12 6 N y) 12 7 N z) 12 9 N (nI N)) 12 8 N 0) 5 1 9 (nI (N + 1))
theorem z_jL {σ τ : m_M} {n N k rr hh : Nat} {S : t_S} {K R H : Nat → Nat} (h : z_L σ τ n (S, N, K, R, H)) : z_L σ (z_j τ N (nI k) (nI rr) (nI hh)) n (S, N + 1, q_u K N k, q_u R N rr, q_u H N hh) := by
  obtain ⟨⟨a1, a2, a3, a4, a5⟩, ⟨h2, h3, h4⟩, h5, h6⟩ := h
  have e4 : (z_j τ N (nI k) (nI rr) (nI hh)).1 4 0 = τ.1 4 0 := by
    unfold z_j
    rw [m_up_other (by omega), m_up_other (by omega), m_up_other (by omega), m_up_other (by omega), m_up_other (by omega), m_up_other (by omega), m_up_other (by omega)]
  have e5 : ∀ j, (z_j τ N (nI k) (nI rr) (nI hh)).1 5 1 j = if j = 9 then nI (N + 1) else if j = 8 then nI (N + 1) else τ.1 5 1 j := fun j => by simp [z_j, m_up]
  have f5 : ∀ p, (z_j τ N (nI k) (nI rr) (nI hh)).1 12 5 p = if p = N then nI k else τ.1 12 5 p := fun p => by simp [z_j, m_up]
  have f6 : ∀ p, (z_j τ N (nI k) (nI rr) (nI hh)).1 12 6 p = if p = N then nI rr else τ.1 12 6 p := fun p => by simp [z_j, m_up]
  have f7 : ∀ p, (z_j τ N (nI k) (nI rr) (nI hh)).1 12 7 p = if p = N then nI hh else τ.1 12 7 p := fun p => by simp [z_j, m_up]
  have f8 : ∀ p, (z_j τ N (nI k) (nI rr) (nI hh)).1 12 8 p = if p = N then 0 else τ.1 12 8 p := fun p => by simp [z_j, m_up]
  have f9 : ∀ p, (z_j τ N (nI k) (nI rr) (nI hh)).1 12 9 p = if p = N then nI N else τ.1 12 9 p := fun p => by simp [z_j, m_up]
  refine ⟨by rw [e4]; exact ⟨a1, a2, a3, a4, a5⟩, ⟨by rw [e5, if_neg (by omega), if_pos rfl], by rw [e5, if_pos rfl], fun p hp => ?_⟩, fun j g1 g2 => by rw [e5, if_neg g2, if_neg g1]; exact h5 j g1 g2, fun c v g1 g2 g3 => ?_⟩
  · show _ = nI (if p = N then k else K p) ∧ _ = nI (if p = N then rr else R p) ∧ _ = nI (if p = N then hh else H p) ∧ _ ∧ _
    have hp : p < N + 1 := hp
    rw [f5, f6, f7, f8, f9]
    by_cases g : p = N
    · subst g
      rw [if_pos rfl, if_pos rfl, if_pos rfl, if_pos rfl, if_pos rfl, if_pos rfl, if_pos rfl, if_pos rfl]
      exact ⟨rfl, rfl, rfl, rfl, rfl⟩
    · rw [if_neg g, if_neg g, if_neg g, if_neg g, if_neg g, if_neg g, if_neg g, if_neg g]
      exact h4 p (by show p < N; omega)
  · unfold z_j
    rw [m_up_other (by omega), m_up_other (by omega), m_up_other (by omega), m_up_other (by omega), m_up_other (by omega), m_up_other (by omega), m_up_other (by omega)]
    exact h6 c v g1 g2 g3
section CPerson
variable {E : m_E} {r : Nat} {σ τ : m_M} {Q : m_F → Prop} {B : Nat → Nat} {n : Nat}
theorem s_cj1 {N : Nat} {x y z : Int32} (h8 : τ.1 5 1 8 = nI N) (h9 : τ.1 5 1 9 = nI N) (N60 : N < 60) (hq : Q (0, [], [vI (nI N)], z_j τ N x y z)) : m_T E 65535 (r + 2) 68 (0, [some (vR 5 1), some (vI x), some (vI y), some (vI z), none], [], τ) Q := by
  have e8 : τ.1 5 1 8 + Int32.ofInt 1 = nI (N + 1) := by rw [h8, show Int32.ofInt 1 = nI 1 from rfl, nI_add]
  have e9 : τ.1 5 1 9 + Int32.ofInt 1 = nI (N + 1) := by rw [h9, show Int32.ofInt 1 = nI 1 from rfl, nI_add]
  have go : ∀ (u v w : Int32), u = nI N → v = nI (N + 1) → w = nI (N + 1) → Q (0, [], [vI u], m_up (m_up (m_up (m_up (m_up (m_up (m_up τ 5 1 8 v) 12 5 N x) 12 6 N y) 12 7 N z) 12 9 N u) 12 8 N 0) 5 1 9 w) := fun u v w hu hv hw => by
    subst hu
    subst hv
    subst hw
    exact hq
  refine m_T_un 90 (fun y _ => Nat.beq y 48) ?_
  refine s_put (v := 5) N h8 (show N < 60 by omega) ?_
  refine s_put (v := 6) N h8 (show N < 60 by omega) ?_
  refine s_put (v := 7) N h8 (show N < 60 by omega) ?_
  refine s_put (v := 9) N h9 (show N < 60 by omega) ?_
  refine s_put (v := 8) N h8 (show N < 60 by omega) ?_
  exact go _ _ _ h8 e8 e9
theorem s_crp {A : t_A} (hn : n ≤ 500) (hB : ∀ j, j < n → σ.1 12 28 j = nI (B j) ∧ B j < 256) (hS : t_ok B n A.1) (hN : A.2.1 ≤ 24) (hL : z_L σ τ n A) (hq : ∀ τ', z_L σ τ' n (t_st B n A) → Q (0, [], [], τ')) : m_T E 65535 (r + 6) 65 (0, [some (vR 4 0), some (vR 5 1), none, none, none], [], τ) Q := by
  have hBt : ∀ τ : m_M, (∀ c v, ¬ (c = 4 ∧ v = 0) → ¬ (c = 5 ∧ v = 1) → ¬ (c = 12 ∧ 5 ≤ v ∧ v < 10) → τ.1 c v = σ.1 c v) → ∀ j, j < n → τ.1 12 28 j = nI (B j) ∧ B j < 256 := fun τ h j hj => by
    rw [h 12 28 (by omega) (by omega) (by omega)]
    exact hB j hj
  have n24 : τ.1 5 1 8 = nI A.2.1 := hL.2.1.1
  have main : ¬ (t_sw B A.1 4 = true ∧ 24 ≤ A.2.1) → m_T E 65535 (r + 6) 65 (24, [some (vR 4 0), some (vR 5 1), none, none, none], [], τ) Q := fun g => by
    unfold t_st at hq
    rw [if_neg g] at hq
    refine m_T_un 60 (fun y pc => k_rd y pc || (Nat.beq y 65 && Nat.beq pc 67)) ?_
    refine s_crw hn (hBt τ hL.2.2.2) hS (z_Lp hL) (show 4 < 10 by omega) (fun τ1 h1 => ?_)
    have L1 : z_L σ τ1 n (t_p1 B n A.1, A.2) := z_Lq hL h1
    refine s_crk hn (hBt τ1 L1.2.2.2) (t_p1_ok hS) (z_Lp L1) (fun τ2 h2 => ?_)
    have L2 : z_L σ τ2 n (t_p2 B n A.1, A.2) := z_Lq (A := (t_p1 B n A.1, A.2)) L1 h2
    refine s_crn (most := 9) hn (hBt τ2 L2.2.2.2) (t_p2_ok hS) (z_Lp L2) (by omega) rfl (fun τ3 h3 => ?_)
    have L3 : z_L σ τ3 n (t_p3 B n A.1, A.2) := z_Lq (A := (t_p2 B n A.1, A.2)) L2 h3
    refine s_crn (most := 99) hn (hBt τ3 L3.2.2.2) (t_p3_ok hS) (z_Lp L3) (by omega) rfl (fun τ4 h4 => ?_)
    have L4 : z_L σ τ4 n (t_p4 B n A.1, A.2) := z_Lq (A := (t_p3 B n A.1, A.2)) L3 h4
    have o4 := t_p4_ok hS
    have l4 : τ4.1 4 0 4 = nI (t_p4 B n A.1).2.2.1 := L4.1.2.2.2.1
    have last : ∀ τ5, p_C τ4 τ5 n (t_p5 B n A.1) → m_T E 65535 (r + 6) 65 (67, [some (vR 4 0), some (vR 5 1), some (vI (t_kx (t_kd B (t_p1 B n A.1)))), some (vI (nI (t_vl B (t_p2 B n A.1)))), some (vI (nI (t_vl B (t_p3 B n A.1))))], [], τ5) Q := fun τ5 h5 => by
      have L5 : z_L σ τ5 n (t_p5 B n A.1, A.2) := z_Lq (A := (t_p4 B n A.1, A.2)) L4 h5
      have o5 := t_p5_ok hS
      have l5 : τ5.1 4 0 5 = nI (t_p5 B n A.1).2.2.2 := L5.1.2.2.2.2
      refine m_T_un 60 k_rd ?_
      refine ⟨fun q => ?_, fun q => ?_⟩
      · have q : ¬ τ5.1 4 0 5 = nI 0 := q
        rw [l5, nI_eq (by have := o5.2.2.2.1; omega) (by omega)] at q
        rw [if_neg q] at hq
        exact hq τ5 L5
      · have q : τ5.1 4 0 5 = nI 0 := q
        rw [l5, nI_eq (by have := o5.2.2.2.1; omega) (by omega)] at q
        rw [if_pos q] at hq
        obtain ⟨p0, p1, p2, -⟩ := t_p_0 q
        refine s_cj1 L5.2.1.1 L5.2.1.2.1 (by show A.2.1 < 60; omega) ?_
        have ek : t_kx (t_kd B (t_p1 B n A.1)) = nI (t_kd B (t_p1 B n A.1)) := by
          unfold t_kx
          rw [show Nat.beq (t_kd B (t_p1 B n A.1)) 0 = false from Bool.eq_false_iff.mpr (fun h => by have := Nat.eq_of_beq_eq_true h; omega)]
          rfl
        rw [ek]
        exact hq _ (z_jL L5)
    refine ⟨fun q => ?_, fun q => ?_⟩
    · have q : ¬ τ4.1 4 0 4 = nI 3 := q
      rw [l4, nI_eq (by have := o4.2.2.1; omega) (by omega)] at q
      exact s_cac hn (hBt τ4 L4.2.2.2) o4 (z_Lp L4) (Nat.beq (t_p4 B n A.1).2.2.1 3) (by rw [show Nat.beq (t_p4 B n A.1).2.2.1 3 = false from Bool.eq_false_iff.mpr (fun h => q (Nat.eq_of_beq_eq_true h))]; rfl) last
    · have q : τ4.1 4 0 4 = nI 3 := q
      rw [l4, nI_eq (by have := o4.2.2.1; omega) (by omega)] at q
      exact s_cac hn (hBt τ4 L4.2.2.2) o4 (z_Lp L4) (Nat.beq (t_p4 B n A.1).2.2.1 3) (by rw [show Nat.beq (t_p4 B n A.1).2.2.1 3 = true from Nat.beq_eq.mpr q]; rfl) last
  refine m_T_un 60 (fun y pc => k_rd y pc || (Nat.beq y 65 && Nat.beq pc 24)) ?_
  refine s_cpw hn (hBt τ hL.2.2.2) hS (z_Lp hL) (show 4 < 10 by omega) ?_
  cases g1 : t_sw B A.1 4 with
  | false => exact ⟨fun _ => main (by rw [g1]; exact fun h => Bool.false_ne_true h.1), fun q => absurd rfl q⟩
  | true =>
    refine ⟨fun q => absurd q k_no1, fun _ => ⟨fun q => ?_, fun q => ?_⟩⟩
    · have q : τ.1 5 1 8 < nI 24 := q
      rw [n24, nI_ltI (by omega) (by omega)] at q
      exact main (by omega)
    · have q : ¬ τ.1 5 1 8 < nI 24 := q
      rw [n24, nI_ltI (by omega) (by omega)] at q
      unfold t_st at hq
      rw [if_pos ⟨g1, by omega⟩] at hq
      exact hq _ (z_Lq (S := (A.1.1, A.1.2.1, A.1.2.2.1, 3)) hL (p_F5 (z_Lp hL) rfl |> fun h => h))
end CPerson
