/-! ask: the class -/
theorem m_nth_app {b d : Nat} : ∀ (l : List Nat) (j : Nat), m_nth (l ++ [b]) j d = if j < l.length then m_nth l j d else if j = l.length then b else d
  | [], 0 => rfl
  | [], j + 1 => by
    rw [if_neg (by simp), if_neg (by simp)]
    rfl
  | a :: l, 0 => by
    rw [if_pos (by simp)]
    rfl
  | a :: l, j + 1 => by
    show m_nth (l ++ [b]) j d = _
    rw [m_nth_app l j]
    by_cases g : j < l.length
    · rw [if_pos g, if_pos (by simp; omega)]
      rfl
    · rw [if_neg g, if_neg (show ¬ j + 1 < (a :: l).length by simp; omega)]
      by_cases g2 : j = l.length
      · rw [if_pos g2, if_pos (show j + 1 = (a :: l).length by simp; omega)]
      · rw [if_neg g2, if_neg (show ¬ j + 1 = (a :: l).length by simp; omega)]
def a_C (σ τ : m_M) (l : List Nat) : Prop := τ.1 1 0 1 = nI l.length ∧ (∀ j, j < l.length → τ.1 12 29 j = nI (m_nth l j 0)) ∧ (∀ c v, ¬ (c = 1 ∧ v = 0) → ¬ (c = 12 ∧ v = 29) → τ.1 c v = σ.1 c v)
def a_P (σ : m_M) (p k z h : Nat) : Prop := p < 60 ∧ σ.1 12 0 p = nI k ∧ 1 ≤ k ∧ k ≤ 5 ∧ σ.1 12 1 p = nI z ∧ σ.1 12 2 p = nI h
def q_bS : Nat → Nat
  | 1 => 11
  | 2 => 12
  | 3 => 11
  | 4 => 13
  | 5 => 14
  | _ => 10
def q_bM : Nat → Nat
  | 1 => 21
  | 2 => 21
  | 3 => 22
  | 4 => 23
  | 5 => 23
  | _ => 20
def q_mkv (p z : Nat) : Int32 := nI p + (Int8.ofInt 100).toInt32 * nI z
def q_szv (h : Nat) : Int32 := nI h - (Int8.ofInt 100).toInt32
section Ask
variable {E : m_E} {r : Nat} {σ τ : m_M} {Q : m_F → Prop} {p k z h dd : Nat} {l : List Nat} {x y b : Int32}
set_option maxRecDepth 20000 in
theorem s_nrS (hP : a_P σ p k z h) {v : Int32} (hv : v = nI k) (hq : Q (0, [], [vI (nI (q_bS k))], τ)) : m_T E 65535 r 44 (0, [some (vR 16 2), some (vI ((Int8.ofInt 10).toInt32)), some (vI v), none, none], [], τ) Q := by
  obtain ⟨-, -, k1, k5, -⟩ := hP
  subst hv
  obtain rfl | rfl | rfl | rfl | rfl : k = 1 ∨ k = 2 ∨ k = 3 ∨ k = 4 ∨ k = 5 := by omega
  all_goals refine m_T_un 160 m_no ?_
  all_goals repeat (first
    | exact hq
    | refine ⟨fun q => absurd q (by decide), fun _ => ?_⟩
    | refine ⟨fun _ => ?_, fun q => absurd q (by decide)⟩
    | refine ⟨fun q => absurd q (show ¬ ((6 : Int32) ≤ _) by decide), fun _ => ?_⟩
    | refine ⟨fun _ => ?_, fun q => absurd (show _ < (6 : Int32) by decide) q⟩
    | refine ⟨(show vp_in _ 6 by unfold vp_in; decide), ?_⟩)
set_option maxRecDepth 20000 in
theorem s_nrM (hP : a_P σ p k z h) {v : Int32} (hv : v = nI k) (hq : Q (0, [], [vI (nI (q_bM k))], τ)) : m_T E 65535 r 44 (0, [some (vR 16 3), some (vI ((Int8.ofInt 20).toInt32)), some (vI v), none, none], [], τ) Q := by
  obtain ⟨-, -, k1, k5, -⟩ := hP
  subst hv
  obtain rfl | rfl | rfl | rfl | rfl : k = 1 ∨ k = 2 ∨ k = 3 ∨ k = 4 ∨ k = 5 := by omega
  all_goals refine m_T_un 160 m_no ?_
  all_goals repeat (first
    | exact hq
    | refine ⟨fun q => absurd q (by decide), fun _ => ?_⟩
    | refine ⟨fun _ => ?_, fun q => absurd q (by decide)⟩
    | refine ⟨fun q => absurd q (show ¬ ((6 : Int32) ≤ _) by decide), fun _ => ?_⟩
    | refine ⟨fun _ => ?_, fun q => absurd (show _ < (6 : Int32) by decide) q⟩
    | refine ⟨(show vp_in _ 6 by unfold vp_in; decide), ?_⟩)
theorem a_Cs (hC : a_C σ τ l) (bb : Nat) : a_C σ (m_up (m_up τ 12 29 l.length (nI bb)) 1 0 1 (nI (l.length + 1))) (l ++ [bb]) := by
  obtain ⟨h1, h2, h3⟩ := hC
  refine ⟨?_, fun j hj => ?_, fun c v g1 g2 => ?_⟩
  · rw [m_up_eq rfl, List.length_append]
    rfl
  · rw [List.length_append] at hj
    have hj : j < l.length + 1 := hj
    rw [m_up_other (by omega), m_nth_app]
    by_cases g : j < l.length
    · rw [if_pos g, m_up_ne (by omega)]
      exact h2 j g
    · rw [if_neg g, if_pos (by omega), m_up_eq (by omega)]
  · rw [m_up_other g1, m_up_other (by omega)]
    exact h3 c v g1 g2
theorem s_bg (bb : Nat) (hC : a_C σ τ l) (hl : l.length < 16) (hd : dd ≤ 16) (hb : b = nI bb) (hy : y = nI dd) (hq : ∀ τ', a_C σ τ' (l ++ [bb]) → m_T E 65535 (r + 1) 45 (46, [some (vR 1 0), some (vI (nI bb)), some (vR 5 0), some (vI (nI p)), some (vI (nI dd)), some (vI (nI (dd + 1)))], [], τ') Q) : m_T E 65535 (r + 1) 45 (0, [some (vR 1 0), some (vI b), some (vR 5 0), some (vI (nI p)), some (vI y), none], [], τ) Q := by
  subst hb
  subst hy
  have e := hq _ (a_Cs hC bb)
  have e1 : τ.1 1 0 1 + Int32.ofInt 1 = nI (l.length + 1) := by rw [hC.1, show Int32.ofInt 1 = nI 1 from rfl, nI_add]
  rw [← e1, nI_succ dd] at e
  refine m_T_un 60 (fun y pc => Nat.beq y 48 || (Nat.beq y 45 && Nat.beq pc 46)) ?_
  refine ⟨fun _ => ⟨fun q => ?_, fun _ => ?_⟩, fun q => absurd (nI_le hd (by omega)) q⟩
  · have q : nI 16 ≤ τ.1 1 0 1 := q
    rw [hC.1] at q
    exact absurd q (nI_ge hl (by omega))
  · refine s_put (v := 29) l.length hC.1 (show l.length < 16 from hl) ?_
    exact e
def k_be : Nat → Nat → Bool := fun y pc => (Nat.beq y 45 && Nat.beq pc 0) || Nat.beq y 46 || Nat.beq y 43 || Nat.beq y 50
theorem s_b10 (hP : a_P σ p k z h) (hC : a_C σ τ l) (hl : l.length + 1 ≤ 16) (hd : dd ≤ 16) (hb : b = nI 10) (hy : y = nI dd) (hq : ∀ τ', a_C σ τ' (l ++ [10]) → Q (0, [], [vI (nI h)], τ')) : m_T E 65535 (r + 1) 45 (0, [some (vR 1 0), some (vI b), some (vR 5 0), some (vI (nI p)), some (vI y), none], [], τ) Q := by
  refine s_bg 10 hC (by omega) hd hb hy (fun τ' h' => ?_)
  refine m_T_un 60 k_be ?_
  refine ⟨m_sw_pick _ _ 0 _ rfl (by decide) ?_, fun q => absurd q (by decide)⟩
  refine s_at p rfl (show p < 60 from hP.1) ?_
  have e := hq τ' h'
  rw [← hP.2.2.2.2.2, ← h'.2.2 12 2 (by omega) (by omega)] at e
  exact e
theorem s_b20 (hC : a_C σ τ l) (hl : l.length + 1 ≤ 16) (hd : dd ≤ 16) (hb : b = nI 20) (hy : y = nI dd) (hq : ∀ τ', a_C σ τ' (l ++ [20]) → Q (0, [], [vI (nI p)], τ')) : m_T E 65535 (r + 1) 45 (0, [some (vR 1 0), some (vI b), some (vR 5 0), some (vI (nI p)), some (vI y), none], [], τ) Q := by
  refine s_bg 20 hC (by omega) hd hb hy (fun τ' h' => ?_)
  refine m_T_un 60 k_be ?_
  refine ⟨m_sw_pick _ _ 10 _ rfl (by decide) ?_, fun q => absurd q (by decide)⟩
  exact hq τ' h'
theorem s_b13 (hP : a_P σ p k z h) (hC : a_C σ τ l) (hl : l.length + 2 ≤ 16) (hd : dd + 1 ≤ 16) (hb : b = nI 13) (hy : y = nI dd) (hq : ∀ τ', a_C σ τ' (l ++ [13] ++ [10]) → Q (0, [], [vI (q_szv h)], τ')) : m_T E 65535 (r + 2) 45 (0, [some (vR 1 0), some (vI b), some (vR 5 0), some (vI (nI p)), some (vI y), none], [], τ) Q := by
  refine s_bg 13 hC (by omega) (by omega) hb hy (fun τ' h' => ?_)
  refine m_T_un 60 k_be ?_
  refine ⟨m_sw_pick _ _ 3 _ rfl (by decide) ?_, fun q => absurd q (by decide)⟩
  exact s_b10 (dd := dd + 1) hP h' (by simp; omega) hd rfl rfl hq
theorem s_b14 (hP : a_P σ p k z h) (hC : a_C σ τ l) (hl : l.length + 3 ≤ 16) (hd : dd + 2 ≤ 16) (hb : b = nI 14) (hy : y = nI dd) (hq : ∀ τ', a_C σ τ' (l ++ [14] ++ [13] ++ [10]) → Q (0, [], [vI (Int32.ofInt 2 * q_szv h)], τ')) : m_T E 65535 (r + 3) 45 (0, [some (vR 1 0), some (vI b), some (vR 5 0), some (vI (nI p)), some (vI y), none], [], τ) Q := by
  refine s_bg 14 hC (by omega) (by omega) hb hy (fun τ' h' => ?_)
  refine m_T_un 60 k_be ?_
  refine ⟨m_sw_pick _ _ 4 _ rfl (by decide) ?_, fun q => absurd q (by decide)⟩
  exact s_b13 (dd := dd + 1) hP h' (by simp; omega) (by omega) rfl rfl hq
theorem s_b21 (hP : a_P σ p k z h) (hC : a_C σ τ l) (hl : l.length + 2 ≤ 16) (hd : dd + 1 ≤ 16) (hb : b = nI 21) (hy : y = nI dd) (hq : ∀ τ', a_C σ τ' (l ++ [21] ++ [20]) → Q (0, [], [vI (q_mkv p z)], τ')) : m_T E 65535 (r + 2) 45 (0, [some (vR 1 0), some (vI b), some (vR 5 0), some (vI (nI p)), some (vI y), none], [], τ) Q := by
  refine s_bg 21 hC (by omega) (by omega) hb hy (fun τ' h' => ?_)
  refine m_T_un 60 k_be ?_
  refine ⟨m_sw_pick _ _ 11 _ rfl (by decide) ?_, fun q => absurd q (by decide)⟩
  refine s_b20 (dd := dd + 1) h' (by simp; omega) hd rfl rfl (fun τ2 h2 => ?_)
  refine s_at p rfl (show p < 60 from hP.1) ?_
  have e := hq τ2 h2
  unfold q_mkv at e
  rw [← hP.2.2.2.2.1, ← h2.2.2 12 1 (by omega) (by omega)] at e
  exact e
theorem s_b22 (hP : a_P σ p k z h) (hC : a_C σ τ l) (hl : l.length + 3 ≤ 16) (hd : dd + 2 ≤ 16) (hb : b = nI 22) (hy : y = nI dd) (hq : ∀ τ', a_C σ τ' (l ++ [22] ++ [21] ++ [20]) → Q (0, [], [vI (q_mkv p z - (Int16.ofInt 1000).toInt32)], τ')) : m_T E 65535 (r + 3) 45 (0, [some (vR 1 0), some (vI b), some (vR 5 0), some (vI (nI p)), some (vI y), none], [], τ) Q := by
  refine s_bg 22 hC (by omega) (by omega) hb hy (fun τ' h' => ?_)
  refine m_T_un 60 k_be ?_
  refine ⟨m_sw_pick _ _ 12 _ rfl (by decide) ?_, fun q => absurd q (by decide)⟩
  exact s_b21 (dd := dd + 1) hP h' (by simp; omega) (by omega) rfl rfl hq
def k_ae : Nat → Nat → Bool := fun y pc => Nat.beq y 45 || Nat.beq y 44 || Nat.beq y 50
theorem a_kd (hP : a_P σ p k z h) (hC : a_C σ τ l) : τ.1 12 0 p = nI k := by
  rw [hC.2.2 12 0 (by omega) (by omega)]
  exact hP.2.1
/-- size of who is born, smuggled -/
def q_bsv (k h : Nat) : Int32 := if k = 5 then Int32.ofInt 2 * q_szv h else q_szv h
def q_btr (k : Nat) (l : List Nat) : List Nat := if k = 5 then l ++ [14] ++ [13] ++ [10] else l ++ [13] ++ [10]
theorem s_sz45 (hP : a_P σ p k z h) (k4 : 4 ≤ k) (hC : a_C σ τ l) (hl : l.length + 3 ≤ 16) (hd : dd + 3 ≤ 16) (hy : y = nI dd) (hq : ∀ τ', a_C σ τ' (q_btr k l) → Q (0, [], [vI (q_bsv k h)], τ')) : m_T E 65535 (r + 4) 43 (0, [some (vR 1 0), some (vR 5 0), some (vI (nI p)), some (vI y)], [], τ) Q := by
  subst hy
  refine m_T_un 60 k_ae ?_
  refine s_at p rfl (show p < 60 from hP.1) ?_
  refine s_nrS hP (a_kd hP hC) ?_
  obtain rfl | rfl : k = 4 ∨ k = 5 := by have := hP.2.2.2.1; omega
  · exact s_b13 (dd := dd + 1) hP hC (by omega) (by omega) rfl (nI_succ dd).symm hq
  · exact s_b14 (dd := dd + 1) hP hC (by omega) (by omega) rfl (nI_succ dd).symm hq
/-- mark -/
def q_mv (k p z h : Nat) : Int32 := if 4 ≤ k then nI p - q_bsv k h else if k = 3 then q_mkv p z - (Int16.ofInt 1000).toInt32 else q_mkv p z
def q_mtr (k : Nat) (l : List Nat) : List Nat := if 4 ≤ k then q_btr k (l ++ [23] ++ [20]) else if k = 3 then l ++ [22] ++ [21] ++ [20] else l ++ [21] ++ [20]
theorem s_mk (hP : a_P σ p k z h) (hC : a_C σ τ l) (hl : l.length + 5 ≤ 16) (hd : dd + 5 ≤ 16) (hy : y = nI dd) (hq : ∀ τ', a_C σ τ' (q_mtr k l) → Q (0, [], [vI (q_mv k p z h)], τ')) : m_T E 65535 (r + 6) 46 (0, [some (vR 1 0), some (vR 5 0), some (vI (nI p)), some (vI y)], [], τ) Q := by
  subst hy
  refine m_T_un 60 k_ae ?_
  refine s_at p rfl (show p < 60 from hP.1) ?_
  refine s_nrM hP (a_kd hP hC) ?_
  have b23 : ∀ (b : Int32) (Q : m_F → Prop), 4 ≤ k → b = nI 23 → (∀ τ', a_C σ τ' (q_mtr k l) → Q (0, [], [vI (q_mv k p z h)], τ')) → m_T E 65535 (r + 5) 45 (0, [some (vR 1 0), some (vI b), some (vR 5 0), some (vI (nI p)), some (vI (nI dd + 1)), none], [], τ) Q := fun b Q k4 hb hq => by
    refine s_bg (dd := dd + 1) 23 hC (by omega) (by omega) hb (nI_succ dd).symm (fun τ' h' => ?_)
    refine m_T_un 60 k_be ?_
    refine ⟨m_sw_pick _ _ 13 _ rfl (by decide) ?_, fun q => absurd q (by decide)⟩
    refine s_b20 (dd := dd + 1 + 1) h' (by simp; omega) (by omega) rfl rfl (fun τ2 h2 => ?_)
    refine s_sz45 (dd := dd + 1 + 1) hP k4 h2 (by simp; omega) (by omega) rfl (fun τ3 h3 => ?_)
    have e := hq τ3 (by unfold q_mtr; rw [if_pos k4]; exact h3)
    unfold q_mv at e
    rw [if_pos k4] at e
    exact e
  obtain rfl | rfl | rfl | rfl | rfl : k = 1 ∨ k = 2 ∨ k = 3 ∨ k = 4 ∨ k = 5 := by have := hP.2.2.1; have := hP.2.2.2.1; omega
  · exact s_b21 (dd := dd + 1) hP hC (by omega) (by omega) rfl (nI_succ dd).symm hq
  · exact s_b21 (dd := dd + 1) hP hC (by omega) (by omega) rfl (nI_succ dd).symm hq
  · exact s_b22 (dd := dd + 1) hP hC (by omega) (by omega) rfl (nI_succ dd).symm hq
  · exact b23 _ _ (by omega) (rfl : nI (q_bM 4) = nI 23) hq
  · exact b23 _ _ (by omega) (rfl : nI (q_bM 5) = nI 23) hq
/-- size -/
def q_sv (k p z h : Nat) : Int32 := if 4 ≤ k then q_bsv k h else if k = 2 then -(nI h + q_mv k p z h) else nI h + q_mv k p z h
def q_str (k : Nat) (l : List Nat) : List Nat := if 4 ≤ k then q_btr k l else if k = 2 then q_mtr k (l ++ [12] ++ [11] ++ [10]) else q_mtr k (l ++ [11] ++ [10])
theorem s_b11 (hP : a_P σ p k z h) (hC : a_C σ τ l) (hl : l.length + 7 ≤ 16) (hd : dd + 6 ≤ 16) (hb : b = nI 11) (hy : y = nI dd) (hq : ∀ τ', a_C σ τ' (q_mtr k (l ++ [11] ++ [10])) → Q (0, [], [vI (nI h + q_mv k p z h)], τ')) : m_T E 65535 (r + 7) 45 (0, [some (vR 1 0), some (vI b), some (vR 5 0), some (vI (nI p)), some (vI y), none], [], τ) Q := by
  refine s_bg 11 hC (by omega) (by omega) hb hy (fun τ' h' => ?_)
  refine m_T_un 60 k_be ?_
  refine ⟨m_sw_pick _ _ 1 _ rfl (by decide) ?_, fun q => absurd q (by decide)⟩
  refine s_b10 (dd := dd + 1) hP h' (by simp; omega) (by omega) rfl rfl (fun τ2 h2 => ?_)
  exact s_mk (dd := dd + 1) hP h2 (by simp; omega) (by omega) rfl hq
theorem s_sz (hP : a_P σ p k z h) (hC : a_C σ τ l) (hl : l.length + 8 ≤ 16) (hd : dd + 8 ≤ 16) (hy : y = nI dd) (hq : ∀ τ', a_C σ τ' (q_str k l) → Q (0, [], [vI (q_sv k p z h)], τ')) : m_T E 65535 (r + 9) 43 (0, [some (vR 1 0), some (vR 5 0), some (vI (nI p)), some (vI y)], [], τ) Q := by
  by_cases k4 : 4 ≤ k
  · refine s_sz45 hP k4 hC (by omega) (by omega) hy (fun τ' h' => ?_)
    have e := hq τ' (by unfold q_str; rw [if_pos k4]; exact h')
    unfold q_sv at e
    rw [if_pos k4] at e
    exact e
  subst hy
  refine m_T_un 60 k_ae ?_
  refine s_at p rfl (show p < 60 from hP.1) ?_
  refine s_nrS hP (a_kd hP hC) ?_
  obtain rfl | rfl | rfl : k = 1 ∨ k = 2 ∨ k = 3 := by have := hP.2.2.1; omega
  · exact s_b11 (dd := dd + 1) hP hC (by omega) (by omega) rfl (nI_succ dd).symm hq
  · refine s_bg (dd := dd + 1) 12 hC (by omega) (by omega) rfl (nI_succ dd).symm (fun τ' h' => ?_)
    refine m_T_un 60 k_be ?_
    refine ⟨m_sw_pick _ _ 2 _ rfl (by decide) ?_, fun q => absurd q (by decide)⟩
    exact s_b11 (dd := dd + 1 + 1) hP h' (by simp; omega) (by omega) rfl rfl hq
  · exact s_b11 (dd := dd + 1) hP hC (by omega) (by omega) rfl (nI_succ dd).symm hq
end Ask
