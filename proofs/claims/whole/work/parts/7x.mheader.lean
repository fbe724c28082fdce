/-! the text: the model's header -/
def y_H (μ τ : m_M) (n : Nat) (S : t_S) (F : Nat → Int32) : Prop := p_M τ τ n S ∧ (∀ j, j < 309 → τ.1 13 4 j = F j) ∧ (∀ j, (j < 12 ∨ 17 < j) → τ.1 6 0 j = μ.1 6 0 j) ∧ (∀ c v, ¬ (c = 6 ∧ v = 0) → ¬ (c = 13 ∧ v = 4) → τ.1 c v = μ.1 c v)
theorem y_Hq {μ τ τ' : m_M} {n : Nat} {S S' : t_S} {F : Nat → Int32} (h : y_H μ τ n S F) (hC : p_M τ τ' n S') : y_H μ τ' n S' F := by
  obtain ⟨-, h2, h3, h4⟩ := h
  obtain ⟨fa, ⟨c1, c2, c3⟩, c4⟩ := hC
  exact ⟨⟨fa, ⟨c1, fun _ _ => rfl, fun _ _ _ => rfl⟩, c4⟩, by rw [c3 13 4 (by omega)]; exact h2, fun j g => (c2 j g).trans (h3 j g), fun c v g1 g2 => (c3 c v g1).trans (h4 c v g1 g2)⟩
theorem y_Hu {μ τ : m_M} {n k : Nat} {S : t_S} {F : Nat → Int32} {x : Int32} (h : y_H μ τ n S F) : y_H μ (m_up τ 13 4 k x) n S (fun j => if j = k then x else F j) := by
  obtain ⟨⟨fa, ⟨c1, c2, c3⟩, c4⟩, h2, h3, h4⟩ := h
  refine ⟨⟨fa, ⟨by rw [m_up_other (by omega)]; exact c1, fun _ _ => rfl, fun _ _ _ => rfl⟩, c4⟩, fun j hj => ?_, fun j g => by rw [m_up_other (by omega)]; exact h3 j g, fun c v g1 g2 => by rw [m_up_other g2]; exact h4 c v g1 g2⟩
  show (m_up τ 13 4 k x).1 13 4 j = if j = k then x else F j
  by_cases g : j = k
  · rw [m_up_eq g, if_pos g]
  · rw [m_up_ne g, if_neg g]
    exact h2 j hj
theorem t_h_0 {B : Nat → Nat} {n : Nat} (h : (t_h7 B n).2.2.2 = 0) : (t_h2 B n).2.2.2 = 0 ∧ t_lw B (t_h2 B n) < 3 ∧ (t_h3 B n).2.2.2 = 0 ∧ (t_h4 B n).2.2.2 = 0 ∧ (t_h5 B n).2.2.2 = 0 ∧ t_vl B (t_h5 B n) ≤ 20 := by
  obtain ⟨a6, -⟩ := t_ac_0 h
  obtain ⟨a5, b5⟩ := t_nm_0 a6
  obtain ⟨a4, -⟩ := t_nm_0 a5
  obtain ⟨a3, -⟩ := t_nm_0 a4
  obtain ⟨a2, b2⟩ := t_ac_0 a3
  rw [Nat.blt_eq] at b2
  exact ⟨a2, b2, a3, a4, a5, b5⟩
def z_F (F : Nat → Int32) (a b c d : Int32) : Nat → Int32 := fun j => if j = 3 then d else if j = 2 then c else if j = 1 then b else if j = 0 then a else F j
section MHeader
variable {E : m_E} {r : Nat} {μ τ : m_M} {Q : m_F → Prop} {B : Nat → Nat} {n : Nat}
theorem s_mrt {F : Nat → Int32} (hn : n ≤ 500) (hB : ∀ j, j < n → μ.1 13 5 j = nI (B j) ∧ B j < 256) (hH : y_H μ τ n (t_h1 B n) F) (hq : ∀ τ' a b c d, y_H μ τ' n (t_h7 B n) (z_F F a b c d) → ((t_h7 B n).2.2.2 = 0 → a = nI (t_lw B (t_h2 B n)) ∧ b = nI (t_vl B (t_h3 B n)) ∧ c = nI (t_vl B (t_h4 B n)) ∧ d = nI (t_vl B (t_h5 B n))) → Q (0, [], [], τ')) : m_T E 65535 (r + 4) 99 (0, [some (vR 6 0), none], [], τ) Q := by
  have hBt : ∀ τ : m_M, (∀ c v, ¬ (c = 6 ∧ v = 0) → ¬ (c = 13 ∧ v = 4) → τ.1 c v = μ.1 c v) → ∀ j, j < n → τ.1 13 5 j = nI (B j) ∧ B j < 256 := fun τ h j hj => by
    rw [h 13 5 (by omega) (by omega)]
    exact hB j hj
  have i0 : vp_in (Int32.ofInt 0) 309 := k_in (k := 0) (n := 309) (by decide) (by decide)
  have i1 : vp_in (Int32.ofInt 1) 309 := k_in (k := 1) (n := 309) (by decide) (by decide)
  have i2 : vp_in (Int32.ofInt 2) 309 := k_in (k := 2) (n := 309) (by decide) (by decide)
  have i3 : vp_in (Int32.ofInt 3) 309 := k_in (k := 3) (n := 309) (by decide) (by decide)
  have h10 : (t_h1 B n).2.2.2 = 0 := rfl
  have nl := t_nv_lt (t_h1_ok (B := B) (n := n))
  have p0 := t_pw_lt 0 (by omega)
  have w0 := t_nv_w (t_h1_ok (B := B) (n := n)) h10 (v := 0) (by omega) (by decide)
  have rest : ∀ τ2, p_M τ τ2 n (t_h2 B n) → m_T E 65535 (r + 4) 99 (20, [some (vR 6 0), none], [], τ2) Q := fun τ2 h2 => by
    have H2 := y_Hq hH h2
    refine m_T_un 60 k_mm ?_
    refine s_mnm hn (hBt τ2 H2.2.2.2) t_h2_ok H2.1 ?_
    refine s_mlo t_h2_ok rfl (fun y hy => ?_)
    have hy2 : (t_h2 B n).2.2.2 = 0 → (y = -1000000 ↔ Nat.blt (t_lw B (t_h2 B n)) 3 = false) := fun h0 => by
      rcases hy h0 with ⟨g1, g2⟩ | ⟨g1, g2⟩
      · rw [g1]
        exact ⟨fun _ => rfl, fun _ => g2⟩
      · refine ⟨fun h => absurd (g2.symm.trans h) (k_ne0 (by omega)), fun h => ?_⟩
        have e : Nat.blt (t_lw B (t_h2 B n)) 3 = true := by rw [Nat.blt_eq]; exact g1
        rw [e] at h
        exact Bool.noConfusion h
    refine s_mkn hn (hBt τ2 H2.2.2.2) t_h2_ok H2.1 (Nat.blt (t_lw B (t_h2 B n)) 3) hy2 (fun τ3 h3 => ⟨i0, ?_⟩)
    have H3 : y_H μ (m_up τ3 13 4 0 y) n (t_h3 B n) _ := y_Hu (y_Hq H2 h3)
    refine s_mnu (most := 999) hn (hBt _ H3.2.2.2) t_h3_ok H3.1 (by omega) rfl (fun τ4 x4 hx4 h4 => ⟨i1, ?_⟩)
    have H4 : y_H μ (m_up τ4 13 4 1 x4) n (t_h4 B n) _ := y_Hu (y_Hq H3 h4)
    refine s_mnu (most := 99) hn (hBt _ H4.2.2.2) t_h4_ok H4.1 (by omega) rfl (fun τ5 x5 hx5 h5 => ⟨i2, ?_⟩)
    have H5 : y_H μ (m_up τ5 13 4 2 x5) n (t_h5 B n) _ := y_Hu (y_Hq H4 h5)
    refine s_mnu (most := 20) hn (hBt _ H5.2.2.2) t_h5_ok H5.1 (by omega) rfl (fun τ6 x6 hx6 h6 => ⟨i3, ?_⟩)
    have H6 : y_H μ (m_up τ6 13 4 3 x6) n (t_h6 B n) _ := y_Hu (y_Hq H5 h6)
    refine s_men hn (hBt _ H6.2.2.2) t_h6_ok H6.1 (fun τ7 h7 => ?_)
    have H7 : y_H μ τ7 n (t_h7 B n) (z_F F y x4 x5 x6) := y_Hq H6 h7
    refine hq τ7 y x4 x5 x6 H7 (fun h0 => ?_)
    obtain ⟨a2, b2, a3, a4, a5, -⟩ := t_h_0 h0
    refine ⟨?_, hx4 a3, hx5 a4, hx6 a5⟩
    rcases hy a2 with ⟨g1, -⟩ | ⟨-, g2⟩
    · omega
    · exact g2
  refine m_T_un 60 (fun y pc => k_mm y pc || (Nat.beq y 99 && Nat.beq pc 20)) ?_
  refine s_mnm hn (hBt τ hH.2.2.2) t_h1_ok hH.1 ⟨fun q => ?_, fun q => ?_⟩
  · have q : ¬ lg_cmp (lN (t_nv B (t_h1 B n))) (lN (t_pw 0)) = 0 := q
    rw [lg_cmp_eq, t_lEQ (by omega) (by omega), w0] at q
    exact s_mmu hn (hBt τ hH.2.2.2) t_h1_ok hH.1 (t_sw B (t_h1 B n) 0) (by rw [show t_sw B (t_h1 B n) 0 = false from Bool.eq_false_iff.mpr q]; rfl) rest
  · have q : lg_cmp (lN (t_nv B (t_h1 B n))) (lN (t_pw 0)) = 0 := q
    rw [lg_cmp_eq, t_lEQ (by omega) (by omega), w0] at q
    exact s_mmu hn (hBt τ hH.2.2.2) t_h1_ok hH.1 (t_sw B (t_h1 B n) 0) (by rw [q]; rfl) rest
/-- the fresh town is laid empty -/
theorem s_mcl (hq : ∀ τ', (∀ j, j < 309 → τ'.1 13 4 j = 0) → (∀ c v, ¬ (c = 13 ∧ v = 4) → τ'.1 c v = τ.1 c v) → m_T E 65535 r 93 (31, [some (vR 6 0), some (vI (nI 309))], [], τ') Q) : m_T E 65535 r 93 (11, [some (vR 6 0), some (vI (nI 0))], [], τ) Q := by
  have key : ∀ k t τ', t + k = 309 → (∀ j, j < t → τ'.1 13 4 j = 0) → (∀ c v, ¬ (c = 13 ∧ v = 4) → τ'.1 c v = τ.1 c v) → m_T E 65535 r 93 (11, [some (vR 6 0), some (vI (nI t))], [], τ') Q := by
    intro k
    induction k with
    | zero =>
      intro t τ' ht h1 h2
      obtain rfl : t = 309 := by omega
      refine m_T_un 40 (fun y pc => (Nat.beq y 93 && (Nat.beq pc 11 || Nat.beq pc 31))) ?_
      exact ⟨fun _ => hq τ' h1 h2, fun q => absurd (nI_le (Nat.le_refl 309) (by omega)) q⟩
    | succ k ih =>
      intro t τ' ht h1 h2
      have cl : (nI t).toNatClampNeg = t := k_cl (by omega)
      have e := ih (t + 1) (m_up τ' 13 4 t 0) (by omega) (fun j hj => by
        by_cases g : j = t
        · rw [m_up_eq g]
        · rw [m_up_ne g]
          exact h1 j (by omega)) (fun c v g => (m_up_other g).trans (h2 c v g))
      rw [nI_succ t] at e
      have go : ∀ j, j = t → m_T E 65535 r 93 (11, [some (vR 6 0), some (vI (nI t + 1))], [], m_up τ' 13 4 j 0) Q := fun j hj => by
        subst hj
        exact e
      refine m_T_un 40 (fun y pc => (Nat.beq y 93 && (Nat.beq pc 11 || Nat.beq pc 31))) ?_
      refine ⟨fun q => absurd q (nI_ge (show t < 309 by omega) (by omega)), fun _ => ⟨k_in (n := 309) (by omega) (by decide), ?_⟩⟩
      exact go _ cl
  exact key 309 0 τ (by omega) (fun j hj => absurd hj (by omega)) (fun _ _ _ => rfl)
/-- the town becomes the fresh one -/
theorem s_mcf (hq : ∀ τ', (∀ j, j < 309 → τ'.1 13 3 j = τ.1 13 4 j) → (∀ c v, ¬ (c = 13 ∧ v = 3) → τ'.1 c v = τ.1 c v) → m_T E 65535 r 93 (128, [some (vR 6 0), some (vI (nI 309))], [], τ') Q) : m_T E 65535 r 93 (103, [some (vR 6 0), some (vI (nI 0))], [], τ) Q := by
  have key : ∀ k t τ', t + k = 309 → (∀ j, j < t → τ'.1 13 3 j = τ.1 13 4 j) → (∀ c v, ¬ (c = 13 ∧ v = 3) → τ'.1 c v = τ.1 c v) → m_T E 65535 r 93 (103, [some (vR 6 0), some (vI (nI t))], [], τ') Q := by
    intro k
    induction k with
    | zero =>
      intro t τ' ht h1 h2
      obtain rfl : t = 309 := by omega
      refine m_T_un 40 (fun y pc => (Nat.beq y 93 && (Nat.beq pc 103 || Nat.beq pc 128))) ?_
      exact ⟨fun _ => hq τ' h1 h2, fun q => absurd (nI_le (Nat.le_refl 309) (by omega)) q⟩
    | succ k ih =>
      intro t τ' ht h1 h2
      have cl : (nI t).toNatClampNeg = t := k_cl (by omega)
      have e := ih (t + 1) (m_up τ' 13 3 t (τ'.1 13 4 t)) (by omega) (fun j hj => by
        by_cases g : j = t
        · rw [m_up_eq g, h2 13 4 (by omega), g]
        · rw [m_up_ne g]
          exact h1 j (by omega)) (fun c v g => (m_up_other g).trans (h2 c v g))
      rw [nI_succ t] at e
      have go : ∀ j, j = t → m_T E 65535 r 93 (103, [some (vR 6 0), some (vI (nI t + 1))], [], m_up τ' 13 3 j (τ'.1 13 4 j)) Q := fun j hj => by
        subst hj
        exact e
      refine m_T_un 40 (fun y pc => (Nat.beq y 93 && (Nat.beq pc 103 || Nat.beq pc 128))) ?_
      refine ⟨fun q => absurd q (nI_ge (show t < 309 by omega) (by omega)), fun _ => ⟨k_in (n := 309) (by omega) (by decide), k_in (n := 309) (by omega) (by decide), ?_⟩⟩
      exact go _ cl
  exact key 309 0 τ (by omega) (fun j hj => absurd hj (by omega)) (fun _ _ _ => rfl)
end MHeader
