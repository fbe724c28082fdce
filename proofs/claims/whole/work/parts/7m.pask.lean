/-! ask: the model; the pair -/
theorem q_sim_tr {D : Nat} {σ τ : m_M} (hc : ∀ c v, ¬ c = 1 → ¬ c = 6 → ¬ (c = 12 ∧ v = 29) → ¬ (c = 13 ∧ v = 7) → ¬ (c = 13 ∧ v = 4) → τ.1 c v = σ.1 c v) (h1 : τ.1 6 0 1 = σ.1 6 0 1) (h7 : τ.1 6 0 7 = σ.1 6 0 7) (h9 : τ.1 6 0 9 = σ.1 6 0 9) (ha : τ.1 6 0 10 = σ.1 6 0 10) (ht : q_trace τ) (h : q_sim D σ) : q_sim D τ := by
  obtain ⟨a1, a2, a3, a4, a5, a6, a7, a8⟩ := h
  refine ⟨fun r hr => q_row_eq (hc _ _ (by omega) (by omega) (by omega) (by omega) (by omega)) (hc _ _ (by omega) (by omega) (by omega) (by omega) (by omega)) (hc _ _ (by omega) (by omega) (by omega) (by omega) (by omega)) (hc _ _ (by omega) (by omega) (by omega) (by omega) (by omega)) (hc _ _ (by omega) (by omega) (by omega) (by omega) (by omega)) (a1 r hr), ?_, ?_, q_tape_eq (by rw [hc 4 0 (by omega) (by omega) (by omega) (by omega) (by omega)]) h9 (hc _ _ (by omega) (by omega) (by omega) (by omega) (by omega)) (hc _ _ (by omega) (by omega) (by omega) (by omega) (by omega)) a4, ?_, q_town_eq (fun j _ => by rw [hc 5 0 (by omega) (by omega) (by omega) (by omega) (by omega)]) (fun k _ => hc _ _ (by omega) (by omega) (by omega) (by omega) (by omega)) (hc _ _ (by omega) (by omega) (by omega) (by omega) (by omega)) a6, ?_, ht⟩
  · rw [hc 0 0 (by omega) (by omega) (by omega) (by omega) (by omega), h1]; exact a2
  · rw [hc 0 0 (by omega) (by omega) (by omega) (by omega) (by omega), ha]; exact a3
  · rw [hc 5 0 (by omega) (by omega) (by omega) (by omega) (by omega), h7]; exact a5
  · intro k hk
    rw [hc 5 (2 + k) (by omega) (by omega) (by omega) (by omega) (by omega), hc 15 0 (by omega) (by omega) (by omega) (by omega) (by omega)]
    obtain ⟨b1, b2, b3⟩ := a7 k hk
    exact ⟨b1, b2, fun q => ⟨by rw [h7]; exact (b3 q).1, q_town_eq (fun j _ => by rw [hc 5 (2 + k) (by omega) (by omega) (by omega) (by omega) (by omega)]) (fun i _ => hc _ _ (by omega) (by omega) (by omega) (by omega) (by omega)) (hc _ _ (by omega) (by omega) (by omega) (by omega) (by omega)) (b3 q).2⟩⟩
def a_M (σ τ : m_M) (l : List Nat) : Prop := τ.1 6 0 22 = nI l.length ∧ (∀ j, j < l.length → τ.1 13 7 j = nI (m_nth l j 0)) ∧ (∀ c v, ¬ c = 6 → ¬ (c = 13 ∧ v = 7) → τ.1 c v = σ.1 c v) ∧ (∀ j, ¬ j = 22 → τ.1 6 0 j = σ.1 6 0 j)
def a_N (σ : m_M) (p k z h : Nat) : Prop := p < 60 ∧ σ.1 13 3 (69 + 4 * p) = nI k ∧ 1 ≤ k ∧ k ≤ 5 ∧ σ.1 13 3 (70 + 4 * p) = nI z ∧ σ.1 13 3 (71 + 4 * p) = nI h
section MAsk
variable {E : m_E} {r : Nat} {σ τ : m_M} {Q : m_F → Prop} {p k z h : Nat} {l : List Nat} {x y b : Int32}
theorem a_Ms (hM : a_M σ τ l) (bb : Nat) : a_M σ (m_up (m_up τ 13 7 l.length (nI bb)) 6 0 22 (nI (l.length + 1))) (l ++ [bb]) := by
  obtain ⟨h1, h2, h3, h4⟩ := hM
  refine ⟨?_, fun j hj => ?_, fun c v g1 g2 => ?_, fun j hj => ?_⟩
  · rw [m_up_eq rfl, List.length_append]
    rfl
  · rw [List.length_append] at hj
    have hj : j < l.length + 1 := hj
    rw [m_up_other (by omega), m_nth_app]
    by_cases g : j < l.length
    · rw [if_pos g, m_up_ne (by omega)]
      exact h2 j g
    · rw [if_neg g, if_pos (by omega), m_up_eq (by omega)]
  · rw [m_up_other (by omega), m_up_other (by omega)]
    exact h3 c v g1 g2
  · rw [m_up_ne hj, m_up_other (by omega)]
    exact h4 j hj
theorem s_bgm (bb : Nat) (hM : a_M σ τ l) (hl : l.length < 16) (hb : b = nI bb) (hq : ∀ τ', a_M σ τ' (l ++ [bb]) → Q (0, [], [], τ')) : m_T E 65535 r 152 (0, [some (vR 6 0), some (vI b)], [], τ) Q := by
  subst hb
  have e := hq _ (a_Ms hM bb)
  have e1 : τ.1 6 0 22 + Int32.ofInt 1 = nI (l.length + 1) := by rw [hM.1, show Int32.ofInt 1 = nI 1 from rfl, nI_add]
  have e2 : (τ.1 6 0 22).toNatClampNeg = l.length := by rw [hM.1, k_cl (by omega)]
  rw [← e1, ← e2] at e
  refine m_T_un 60 m_no ?_
  refine ⟨fun q => ?_, fun _ => ⟨show vp_in (τ.1 6 0 22) 16 by rw [hM.1]; exact k_in hl (by decide), e⟩⟩
  have q : nI 16 ≤ τ.1 6 0 22 := q
  rw [hM.1] at q
  exact absurd q (nI_ge hl (by omega))
def k_mo : Nat → Nat → Bool := fun y pc => Nat.beq pc 0 && (Nat.beq y 152 || Nat.beq y 116 || Nat.beq y 153 || Nat.beq y 151 || Nat.beq y 148 || Nat.beq y 154)
theorem s_aof (hN : a_N σ p k z h) (hM : a_M σ τ l) (q : Nat) (hq4 : q < 4) (hy : y = nI q) (hq : Q (0, [], [vI (σ.1 13 3 (69 + 4 * p + q))], τ)) : m_T E 65535 r 116 (0, [some (vR 6 0), some (vI (nI p)), some (vI y)], [], τ) Q := by
  rw [← hM.2.2.1 13 3 (by omega) (by omega)] at hq
  exact s_of p q hN.1 hq4 rfl hy hq
theorem s_aps (hN : a_N σ p k z h) (hM : a_M σ τ l) (hl : l.length + 1 ≤ 16) (hq : ∀ τ', a_M σ τ' (l ++ [10]) → Q (0, [], [vI (nI h)], τ')) : m_T E 65535 (r + 1) 153 (0, [some (vR 6 0), some (vI (nI p))], [], τ) Q := by
  refine m_T_un 60 k_mo ?_
  refine s_bgm 10 hM (by omega) rfl (fun τ' h' => ?_)
  refine s_aof hN h' 2 (by omega) rfl ?_
  have e := hq τ' h'
  rw [← hN.2.2.2.2.2, show 71 + 4 * p = 69 + 4 * p + 2 by omega] at e
  exact e
theorem s_absz (hN : a_N σ p k z h) (k4 : 4 ≤ k) (hM : a_M σ τ l) (hl : l.length + 3 ≤ 16) (hy : y = nI k) (hq : ∀ τ', a_M σ τ' (q_btr k l) → Q (0, [], [vI (q_bsv k h)], τ')) : m_T E 65535 (r + 2) 151 (0, [some (vR 6 0), some (vI (nI p)), some (vI y), none], [], τ) Q := by
  subst hy
  refine m_T_un 60 k_mo ?_
  obtain rfl | rfl : k = 4 ∨ k = 5 := by have := hN.2.2.2.1; omega
  · refine ⟨fun _ => ?_, fun q => absurd q (by decide)⟩
    refine s_bgm 13 hM (by omega) rfl (fun τ1 h1 => ?_)
    refine s_aps hN h1 (by simp; omega) (fun τ2 h2 => ?_)
    exact ⟨fun _ => hq τ2 h2, fun q => absurd q (by decide)⟩
  · refine ⟨fun q => absurd q (by decide), fun _ => ?_⟩
    refine s_bgm 14 hM (by omega) rfl (fun τ1 h1 => ?_)
    refine s_bgm 13 h1 (by simp; omega) rfl (fun τ2 h2 => ?_)
    refine s_aps hN h2 (by simp; omega) (fun τ3 h3 => ?_)
    exact ⟨fun q => absurd q (by decide), fun _ => hq τ3 h3⟩
theorem s_ammk (hN : a_N σ p k z h) (hM : a_M σ τ l) (hl : l.length + 5 ≤ 16) (hy : y = nI k) (hq : ∀ τ', a_M σ τ' (q_mtr k l) → Q (0, [], [vI (q_mv k p z h)], τ')) : m_T E 65535 (r + 3) 154 (0, [some (vR 6 0), some (vI (nI p)), some (vI y), none], [], τ) Q := by
  subst hy
  have k5 := hN.2.2.2.1
  have k1 := hN.2.2.1
  have ez : ∀ τ' l', a_M σ τ' l' → Q (0, [], [vI (nI p + (Int8.ofInt 100).toInt32 * σ.1 13 3 (69 + 4 * p + 1))], τ') = Q (0, [], [vI (q_mkv p z)], τ') := fun τ' l' h' => by
    rw [show 69 + 4 * p + 1 = 70 + 4 * p by omega, hN.2.2.2.2.1]
    rfl
  refine m_T_un 90 k_mo ?_
  refine s_mis k 4 k1 k5 (by omega) ?_
  by_cases k4 : 4 ≤ k
  · have e0 : q_isof k 4 = true := by
      obtain rfl | rfl : k = 4 ∨ k = 5 := by omega
      · rfl
      · rfl
    rw [e0]
    refine ⟨fun q => absurd q k_no1, fun _ => ?_⟩
    refine s_bgm 23 hM (by omega) rfl (fun τ1 h1 => ?_)
    refine s_bgm 20 h1 (by simp; omega) rfl (fun τ2 h2 => ?_)
    refine s_absz hN k4 h2 (by simp; omega) rfl (fun τ3 h3 => ?_)
    have e := hq τ3 (by unfold q_mtr; rw [if_pos k4]; exact h3)
    unfold q_mv at e
    rw [if_pos k4] at e
    exact e
  · have e0 : q_isof k 4 = false := by
      obtain rfl | rfl | rfl : k = 1 ∨ k = 2 ∨ k = 3 := by omega
      · rfl
      · rfl
      · rfl
    rw [e0]
    refine ⟨fun _ => ?_, fun q => absurd rfl q⟩
    by_cases k3 : k = 3
    · subst k3
      refine ⟨fun q => absurd q (by decide), fun _ => ?_⟩
      refine s_bgm 22 hM (by omega) rfl (fun τ1 h1 => ?_)
      refine s_bgm 21 h1 (by simp; omega) rfl (fun τ2 h2 => ?_)
      refine s_bgm 20 h2 (by simp; omega) rfl (fun τ3 h3 => ?_)
      refine s_aof hN h3 1 (by omega) rfl ⟨fun q => absurd q (by decide), fun _ => ?_⟩
      have e := hq τ3 h3
      have e3 : q_mv 3 p z h = nI p + (Int8.ofInt 100).toInt32 * σ.1 13 3 (69 + 4 * p + 1) - (Int16.ofInt 1000).toInt32 := by
        rw [show 69 + 4 * p + 1 = 70 + 4 * p by omega, hN.2.2.2.2.1]
        rfl
      rw [e3] at e
      exact e
    · refine ⟨fun _ => ?_, fun q => ?_⟩
      · refine s_bgm 21 hM (by omega) rfl (fun τ2 h2 => ?_)
        refine s_bgm 20 h2 (by simp; omega) rfl (fun τ3 h3 => ?_)
        refine s_aof hN h3 1 (by omega) rfl ⟨fun _ => ?_, fun q => ?_⟩
        · have e := hq τ3 (by unfold q_mtr; rw [if_neg k4, if_neg k3]; exact h3)
          have e3 : q_mv k p z h = nI p + (Int8.ofInt 100).toInt32 * σ.1 13 3 (69 + 4 * p + 1) := by
            unfold q_mv
            rw [if_neg k4, if_neg k3, show 69 + 4 * p + 1 = 70 + 4 * p by omega, hN.2.2.2.2.1]
            rfl
          rw [e3] at e
          exact e
        · have q : nI k = nI 3 := q
          rw [nI_eq (by omega) (by omega)] at q
          exact absurd q k3
      · have q : nI k = nI 3 := q
        rw [nI_eq (by omega) (by omega)] at q
        exact absurd q k3
theorem s_amsz (hN : a_N σ p k z h) (hM : a_M σ τ l) (hl : l.length + 8 ≤ 16) (hy : y = nI k) (hq : ∀ τ', a_M σ τ' (q_str k l) → Q (0, [], [vI (q_sv k p z h)], τ')) : m_T E 65535 (r + 4) 150 (0, [some (vR 6 0), some (vI (nI p)), some (vI y), none], [], τ) Q := by
  subst hy
  have k5 := hN.2.2.2.1
  have k1 := hN.2.2.1
  refine m_T_un 90 k_mo ?_
  refine s_mis k 4 k1 k5 (by omega) ?_
  by_cases k4 : 4 ≤ k
  · have e0 : q_isof k 4 = true := by
      obtain rfl | rfl : k = 4 ∨ k = 5 := by omega
      · rfl
      · rfl
    rw [e0]
    refine ⟨fun q => absurd q k_no1, fun _ => ?_⟩
    refine s_absz hN k4 hM (by omega) rfl (fun τ3 h3 => ?_)
    have e := hq τ3 (by unfold q_str; rw [if_pos k4]; exact h3)
    unfold q_sv at e
    rw [if_pos k4] at e
    exact e
  · have e0 : q_isof k 4 = false := by
      obtain rfl | rfl | rfl : k = 1 ∨ k = 2 ∨ k = 3 := by omega
      · rfl
      · rfl
      · rfl
    rw [e0]
    refine ⟨fun _ => ?_, fun q => absurd rfl q⟩
    by_cases k2 : k = 2
    · subst k2
      refine ⟨fun q => absurd q (by decide), fun _ => ?_⟩
      refine s_bgm 12 hM (by omega) rfl (fun τ1 h1 => ?_)
      refine s_bgm 11 h1 (by simp; omega) rfl (fun τ2 h2 => ?_)
      refine s_aps hN h2 (by simp; omega) (fun τ3 h3 => ?_)
      refine s_ammk hN h3 (by simp; omega) rfl (fun τ4 h4 => ?_)
      exact ⟨fun q => absurd q (by decide), fun _ => hq τ4 h4⟩
    · refine ⟨fun _ => ?_, fun q => ?_⟩
      · refine s_bgm 11 hM (by omega) rfl (fun τ2 h2 => ?_)
        refine s_aps hN h2 (by simp; omega) (fun τ3 h3 => ?_)
        refine s_ammk hN h3 (by simp; omega) rfl (fun τ4 h4 => ?_)
        refine ⟨fun _ => ?_, fun q => ?_⟩
        · have e := hq τ4 (by unfold q_str; rw [if_neg k4, if_neg k2]; exact h4)
          unfold q_sv at e
          rw [if_neg k4, if_neg k2] at e
          exact e
        · have q : nI k = nI 2 := q
          rw [nI_eq (by omega) (by omega)] at q
          exact absurd q k2
      · have q : nI k = nI 2 := q
        rw [nI_eq (by omega) (by omega)] at q
        exact absurd q k2
end MAsk
theorem q_tr_len {k : Nat} (h1 : 1 ≤ k) (h5 : k ≤ 5) : (q_str k []).length ≤ 16 ∧ (q_mtr k []).length ≤ 16 := by
  obtain rfl | rfl | rfl | rfl | rfl : k = 1 ∨ k = 2 ∨ k = 3 ∨ k = 4 ∨ k = 5 := by omega
  all_goals exact ⟨by decide, by decide⟩
def k_qc : Nat → Nat → Bool := fun y _ => Nat.beq y 76 || Nat.beq y 2 || Nat.beq y 43 || Nat.beq y 46
def k_qm : Nat → Nat → Bool := fun y _ => Nat.beq y 123 || Nat.beq y 87 || Nat.beq y 116 || Nat.beq y 150 || Nat.beq y 154
theorem p_ask {E : m_E} {D : Nat} {σ : m_M} (hD : D < 512) (hs : q_sim D σ) (a : Int32) (b : Int32) : q_pair E D 38 149 [vI a, vI b] σ := by
  have hs1 : q_sim (D + 1) σ := q_sim_more (Nat.le_succ D) hs
  have hs2 : q_sim (D + 1) (m_up σ 6 0 0 (Int32.ofInt 0)) := z_thr hs1
  obtain ⟨N, m, w, c, d, L, K, R, H, ⟨w0, w1, w2, w3, w4, w5, w6, w7, w8, w9, wa, wb, wc⟩, c1, c2, c3⟩ := q_town0 hs.2.2.2.2.2.1
  have hN : σ.1 5 0 8 = nI N := (c1 7 (by omega)).trans w6
  refine m_T_un 60 k_qc ?_
  by_cases hr : 0 ≤ a.toInt ∧ a.toInt < N
  · obtain ⟨p, hp, rfl⟩ := k_of hr.1 hr.2
    obtain ⟨x1, x2, x3, x4, x5, x6, x7, x8⟩ := wc p hp
    obtain ⟨y1, y2, y3, y4⟩ := c3 p hp
    refine s_has1 hN w7 hr.1 hr.2 ⟨fun q => absurd q k_no1, fun _ => ?_⟩
    have mo : ∀ (b : Int32) (τ : m_M) (Q : m_F → Prop), (m_up τ 6 0 0 (Int32.ofInt 0)).1 13 3 7 = nI N → m_T E 65535 19 149 (13, [some (vR 6 0), some (vI (nI p)), some (vI b)], [], m_up τ 6 0 0 (Int32.ofInt 0)) Q → m_T E 65535 19 149 (0, m_entry 149 [vR 6 0, vI (nI p), vI b], [], τ) Q := fun b τ Q h7 hh => by
      refine m_T_un 60 (fun y pc => k_qm y pc || (Nat.beq y 149 && Nat.beq pc 13)) ?_
      exact s_one1 (N := N) h7 w7 hr.1 hr.2 ⟨fun q => absurd q k_no1, fun _ => hh⟩
    by_cases hb : 0 ≤ b.toInt ∧ b.toInt ≤ 1
    · have hP : a_P (m_up σ 1 0 1 (Int32.ofInt 0)) p (K p) (R p) (H p) := ⟨by omega, y1.trans x1, x2, x3, y2.trans x4, y3.trans x6⟩
      have hC : a_C (m_up σ 1 0 1 (Int32.ofInt 0)) (m_up σ 1 0 1 (Int32.ofInt 0)) [] := ⟨m_up_eq rfl, fun j hj => absurd hj (Nat.not_lt_zero j), fun _ _ _ _ => rfl⟩
      refine s_outA0 0 1 k_0 k_1 hb.1 hb.2 ⟨fun _ => ?_, fun q => absurd rfl q⟩
      have fin : ∀ (τ : m_M) (l : List Nat), a_C (m_up σ 1 0 1 (Int32.ofInt 0)) τ l → l.length ≤ 16 → (τ.1 13 3 = σ.1 13 3 ∧ a_N (m_up (m_up τ 6 0 0 (Int32.ofInt 0)) 6 0 22 (Int32.ofInt 0)) p (K p) (R p) (H p) ∧ a_M (m_up (m_up τ 6 0 0 (Int32.ofInt 0)) 6 0 22 (Int32.ofInt 0)) (m_up (m_up τ 6 0 0 (Int32.ofInt 0)) 6 0 22 (Int32.ofInt 0)) [] ∧ ∀ ρ, a_M (m_up (m_up τ 6 0 0 (Int32.ofInt 0)) 6 0 22 (Int32.ofInt 0)) ρ l → q_sim (D + 1) ρ) := fun τ l hl h16 => by
        have t13 : τ.1 13 3 = σ.1 13 3 := by rw [hl.2.2 13 3 (by omega) (by omega), m_up_other (by omega)]
        have u13 : (m_up (m_up τ 6 0 0 (Int32.ofInt 0)) 6 0 22 (Int32.ofInt 0)).1 13 3 = σ.1 13 3 := by rw [m_up_other (by omega), m_up_other (by omega), t13]
        refine ⟨t13, ⟨by omega, by rw [u13]; exact x1, x2, x3, by rw [u13]; exact x4, by rw [u13]; exact x6⟩, ⟨m_up_eq rfl, fun j hj => absurd hj (Nat.not_lt_zero j), fun _ _ _ _ => rfl, fun _ _ => rfl⟩, fun ρ hρ => ?_⟩
        have oc : ∀ c v, ¬ c = 6 → ¬ (c = 13 ∧ v = 7) → ρ.1 c v = τ.1 c v := fun c v g1 g2 => by
          rw [hρ.2.2.1 c v g1 g2, m_up_other (by omega), m_up_other (by omega)]
        have o6 : ∀ j, ¬ j = 0 → ¬ j = 22 → ρ.1 6 0 j = σ.1 6 0 j := fun j g1 g2 => by
          rw [hρ.2.2.2 j g2, m_up_ne g2, m_up_ne g1, hl.2.2 6 0 (by omega) (by omega), m_up_other (by omega)]
        refine q_sim_tr (σ := σ) (fun c v g1 g2 g3 g4 g5 => ?_) (o6 1 (by omega) (by omega)) (o6 7 (by omega) (by omega)) (o6 9 (by omega) (by omega)) (o6 10 (by omega) (by omega)) ⟨l.length, h16, ?_, hρ.1, fun j hj => ?_⟩ hs1
        · rw [oc c v g2 g4, hl.2.2 c v (by omega) g3, m_up_other (by omega)]
        · rw [oc 1 0 (by omega) (by omega)]
          exact hl.1
        · rw [oc 12 29 (by omega) (by omega), hρ.2.1 j hj]
          exact hl.2.1 j hj
      refine ⟨fun b0 => ?_, fun b0 => ?_⟩
      · have b0 : ¬ b = 0 := b0
        refine s_mk (dd := 0) hP hC (by decide) (by omega) rfl (fun τ hτ => ?_)
        obtain ⟨f1, f2, f3, f4⟩ := fin τ _ hτ (q_tr_len x2 x3).2
        refine ⟨_, rfl, mo _ _ _ (by rw [m_up_other (by omega), f1]; exact w6) (m_T_un 60 k_qm ?_)⟩
        refine s_inA1 0 1 k_L0 k_L1 hb.1 hb.2 ⟨fun _ => ⟨fun _ => ?_, fun q => absurd q b0⟩, fun q => absurd q k_no1⟩
        refine s_aof (l := []) f2 f3 0 (by omega) rfl ?_
        refine s_ammk f2 f3 (by decide) f2.2.1 (fun ρ hρ => ⟨rfl, f4 ρ hρ⟩)
      · have b0 : b = 0 := b0
        refine s_sz (dd := 0) hP hC (by decide) (by omega) rfl (fun τ hτ => ?_)
        obtain ⟨f1, f2, f3, f4⟩ := fin τ _ hτ (q_tr_len x2 x3).1
        refine ⟨_, rfl, mo _ _ _ (by rw [m_up_other (by omega), f1]; exact w6) (m_T_un 60 k_qm ?_)⟩
        refine s_inA1 0 1 k_L0 k_L1 hb.1 hb.2 ⟨fun _ => ⟨fun q => absurd b0 q, fun _ => ?_⟩, fun q => absurd q k_no1⟩
        refine s_aof (l := []) f2 f3 0 (by omega) rfl ?_
        refine s_amsz f2 f3 (by decide) f2.2.1 (fun ρ hρ => ⟨rfl, f4 ρ hρ⟩)
    · refine s_outA1 0 1 k_0 k_1 (by omega) ⟨fun q => absurd q k_no1, fun _ => ⟨_, rfl, mo _ _ _ w6 (m_T_un 60 k_qm ?_)⟩⟩
      exact s_inA0 0 1 k_L0 k_L1 (by omega) ⟨fun q => absurd rfl q, fun _ => ⟨rfl, hs2⟩⟩
  · refine s_has0 hN w7 (by omega) ⟨fun _ => ⟨_, rfl, ?_⟩, fun q => absurd rfl q⟩
    refine m_T_un 60 k_qm ?_
    exact s_one0 (N := N) w6 w7 (by omega) ⟨fun _ => ⟨rfl, hs2⟩, fun q => absurd rfl q⟩
