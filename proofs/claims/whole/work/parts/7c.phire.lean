/-! pair hire -/
def q_hl (ppl : Int32) (V : Nat → Option Int32) : Nat → Nat → Int32 → Int32
  | 0, _, f => f
  | k + 1, t, f => if ppl >>> (nI t &&& 31) &&& Int32.ofInt 1 = Int32.ofInt 1 then (match V t with
      | none => q_hl ppl V k (t + 1) f
      | some v => if v = -1000000 then -1000000 else q_hl ppl V k (t + 1) (if f < v then v else f)) else q_hl ppl V k (t + 1) f
def q_Vs (m w a n S : Nat) (L K R : Nat → Nat) (V : Nat → Option Int32) : Prop := ∀ p, (∃ i, i < m ∧ L i = p ∧ V p = some (q_hv (q_ah w L K R (L i) i m) a S n (q_pass w (K (L i))) (q_pasH w (K (L i))))) ∨ ((∀ i, i < m → ¬ L i = p) ∧ V p = none)
theorem q_Vx (m w a n S : Nat) (L K R : Nat → Nat) : ∃ V, q_Vs m w a n S L K R V := by
  have h : ∀ p : Nat, ∃ v : Option Int32, (∃ i, i < m ∧ L i = p ∧ v = some (q_hv (q_ah w L K R (L i) i m) a S n (q_pass w (K (L i))) (q_pasH w (K (L i))))) ∨ ((∀ i, i < m → ¬ L i = p) ∧ v = none) := fun p => by
    by_cases g : ∃ i, i < m ∧ L i = p
    · obtain ⟨i, hi, hl⟩ := g
      exact ⟨_, Or.inl ⟨i, hi, hl, rfl⟩⟩
    · exact ⟨none, Or.inr ⟨fun i hi hl => g ⟨i, hi, hl⟩, rfl⟩⟩
  exact Classical.axiomOfChoice h
section HireAll
variable {E : m_E} {r : Nat} {σ : m_M} {Q : m_F → Prop} {D N m w a d n S s : Nat} {L K R H : Nat → Nat} {V : Nat → Option Int32} {ppl lk : Int32}
theorem s_chl (hT : q_T σ D N m w a d L K R H) (hV : q_Vs m w a n S L K R V) (hn : 1 ≤ n ∧ n ≤ 20) (hS : S ≤ 400) : ∀ k t f, t + k = 24 → Q (0, [], [vI (q_hl ppl V k t f)], σ) → m_T E 65535 (r + 4) 25 (40, [some (vR 0 0), some (vI ppl), some (vR 3 s), some (vI (nI n)), some (vI (nI S)), some (vI f), some (vI (nI t)), none], [], σ) Q := by
  have hN60 := hT.1.2.2.2.2.2.2.2.1
  intro k
  induction k with
  | zero =>
    intro t f ht hq
    refine m_T_un 60 (fun y pc => (Nat.beq y 25 && Nat.beq pc 40) || Nat.beq y 77 || Nat.beq y 26) ?_
    exact ⟨fun _ => hq, fun q => absurd (nI_le (show 24 ≤ t by omega) (by omega)) q⟩
  | succ k ih =>
    intro t f ht hq
    refine m_T_un 60 (fun y pc => (Nat.beq y 25 && Nat.beq pc 40) || Nat.beq y 77 || Nat.beq y 26) ?_
    refine ⟨fun q => absurd q (nI_ge (show t < 24 by omega) (by omega)), fun _ => ⟨fun q => ?_, fun q => ?_⟩⟩
    · rw [show q_hl ppl V (k + 1) t f = q_hl ppl V k (t + 1) f from if_neg q] at hq
      have e := ih (t + 1) f (by omega) hq
      rw [nI_succ t] at e
      exact e
    · rcases hV t with ⟨i, hi, hl, hv⟩ | ⟨hno, hv⟩
      · rw [show q_hl ppl V (k + 1) t f = (if q_hv (q_ah w L K R (L i) i m) a S n (q_pass w (K (L i))) (q_pasH w (K (L i))) = -1000000 then -1000000 else q_hl ppl V k (t + 1) (if f < q_hv (q_ah w L K R (L i) i m) a S n (q_pass w (K (L i))) (q_pasH w (K (L i))) then q_hv (q_ah w L K R (L i) i m) a S n (q_pass w (K (L i))) (q_pasH w (K (L i))) else f)) from (if_pos q).trans (by rw [hv])] at hq
        refine s_isIn1x hT i hi (congrArg nI hl.symm) ⟨fun q2 => absurd q2 k_no1, fun _ => ?_⟩
        refine s_chf hT i hi (congrArg nI hl.symm) hn hS ⟨fun q2 => ?_, fun q2 => ?_⟩
        · have q2 : ¬ q_hv (q_ah w L K R (L i) i m) a S n (q_pass w (K (L i))) (q_pasH w (K (L i))) = -1000000 := q2
          rw [if_neg q2] at hq
          have e := ih (t + 1) _ (by omega) hq
          rw [nI_succ t] at e
          refine m_T_mask [true, true, true, true, true, true, true, false] ?_
          exact e
        · have q2 : q_hv (q_ah w L K R (L i) i m) a S n (q_pass w (K (L i))) (q_pasH w (K (L i))) = -1000000 := q2
          rw [if_pos q2] at hq
          exact hq
      · rw [show q_hl ppl V (k + 1) t f = q_hl ppl V k (t + 1) f from (if_pos q).trans (by rw [hv])] at hq
        have e := ih (t + 1) f (by omega) hq
        rw [nI_succ t] at e
        refine s_isIn0 hT (fun i hi q2 => hno i hi ((nI_eq (by have := (hT.1.2.2.2.2.2.2.2.2.2.2.1 i hi).2; omega) (by omega)).mp q2)) ⟨fun _ => e, fun q2 => absurd rfl q2⟩
theorem s_mhl {x : Nat → Nat} (hT : q_T σ D N m w a d L K R H) (hV : q_Vs m w a n (q_sm x (n - 1)) L K R V) (hn : 1 ≤ n ∧ n ≤ 20) (hs : s < 8) (hx : ∀ t, t < n → σ.1 13 2 (40 * s + t) = nI (x t) ∧ x t ≤ 20) : ∀ k t f, t + k = 24 → Q (0, [], [vI (q_hl ppl V k t f)], σ) → m_T E 65535 (r + 4) 137 (84, [some (vR 6 0), some (vI ppl), some (vI (nI s)), some (vI (nI n)), some (vI lk), some (vI f), some (vI (nI t)), none], [], σ) Q := by
  have hN60 := hT.1.2.2.2.2.2.2.2.1
  have e40 : (Int8.ofInt 40).toInt32 * nI s = nI (40 * s) := by rw [show (Int8.ofInt 40).toInt32 = nI 40 from rfl, pk_mul]
  intro k
  induction k with
  | zero =>
    intro t f ht hq
    refine m_T_un 60 (fun y pc => (Nat.beq y 137 && Nat.beq pc 84) || Nat.beq y 124 || Nat.beq y 138) ?_
    exact ⟨fun _ => hq, fun q => absurd (nI_le (show 24 ≤ t by omega) (by omega)) q⟩
  | succ k ih =>
    intro t f ht hq
    refine m_T_un 60 (fun y pc => (Nat.beq y 137 && Nat.beq pc 84) || Nat.beq y 124 || Nat.beq y 138) ?_
    refine ⟨fun q => absurd q (nI_ge (show t < 24 by omega) (by omega)), fun _ => ⟨fun q => ?_, fun q => ?_⟩⟩
    · rw [show q_hl ppl V (k + 1) t f = q_hl ppl V k (t + 1) f from if_neg q] at hq
      have e := ih (t + 1) f (by omega) hq
      rw [nI_succ t] at e
      exact e
    · rcases hV t with ⟨i, hi, hl, hv⟩ | ⟨hno, hv⟩
      · rw [show q_hl ppl V (k + 1) t f = (if q_hv (q_ah w L K R (L i) i m) a (q_sm x (n - 1)) n (q_pass w (K (L i))) (q_pasH w (K (L i))) = -1000000 then -1000000 else q_hl ppl V k (t + 1) (if f < q_hv (q_ah w L K R (L i) i m) a (q_sm x (n - 1)) n (q_pass w (K (L i))) (q_pasH w (K (L i))) then q_hv (q_ah w L K R (L i) i m) a (q_sm x (n - 1)) n (q_pass w (K (L i))) (q_pasH w (K (L i))) else f)) from (if_pos q).trans (by rw [hv])] at hq
        refine s_isH1x hT i hi (congrArg nI hl.symm) ⟨fun q2 => absurd q2 k_no1, fun _ => ?_⟩
        refine s_mhf (x := x) (s := s) hT i hi hs hn hx (congrArg nI hl.symm) e40 ⟨fun q2 => ?_, fun q2 => ?_⟩
        · have q2 : ¬ q_hv (q_ah w L K R (L i) i m) a (q_sm x (n - 1)) n (q_pass w (K (L i))) (q_pasH w (K (L i))) = -1000000 := q2
          rw [if_neg q2] at hq
          have e := ih (t + 1) _ (by omega) hq
          rw [nI_succ t] at e
          refine ⟨fun q3 => ?_, fun q3 => ?_⟩
          · rw [if_neg (Int32.not_lt.mpr q3)] at e
            refine m_T_mask [true, true, true, true, true, true, true, false] ?_
            exact e
          · rw [if_pos (Int32.not_le.mp q3)] at e
            refine m_T_mask [true, true, true, true, true, true, true, false] ?_
            exact e
        · have q2 : q_hv (q_ah w L K R (L i) i m) a (q_sm x (n - 1)) n (q_pass w (K (L i))) (q_pasH w (K (L i))) = -1000000 := q2
          rw [if_pos q2] at hq
          exact hq
      · rw [show q_hl ppl V (k + 1) t f = q_hl ppl V k (t + 1) f from (if_pos q).trans (by rw [hv])] at hq
        have e := ih (t + 1) f (by omega) hq
        rw [nI_succ t] at e
        refine s_isH0 hT (fun i hi q2 => hno i hi ((nI_eq (by have := (hT.1.2.2.2.2.2.2.2.2.2.2.1 i hi).2; omega) (by omega)).mp q2)) ⟨fun _ => e, fun q2 => absurd rfl q2⟩
theorem s_cfw {x : Nat → Nat} (hT : q_T σ D N m w a d L K R H) (hV : q_Vs m w a n (q_sm x (n - 1)) L K R V) (hn : 1 ≤ n ∧ n ≤ 20) (hs : s < 8) (hx : ∀ t, t < n → σ.1 12 (20 + s) t = nI (x t) ∧ x t ≤ 20) (hq : Q (0, [], [vI (q_hl ppl V 24 0 (Int32.ofInt 0))], σ)) : m_T E 65535 (r + 4) 25 (0, [some (vR 0 0), some (vI ppl), some (vR 3 s), some (vI (nI n)), none, none, none, none], [], σ) Q := by
  have hsm := q_sm_le (x := x) (n := n) (fun t ht => (hx t ht).2)
  have en : nI n - Int32.ofInt 1 = nI (n - 1) := by rw [show Int32.ofInt 1 = nI 1 from rfl, pk_sub (by omega)]
  have h1 := hsm (n - 1) (by omega)
  have fin := s_chl (E := E) (r := r) (Q := Q) (s := s) (ppl := ppl) hT hV hn (by omega) 24 0 (Int32.ofInt 0) (by omega) hq
  have key : ∀ k t, t + k = n - 1 → m_T E 65535 (r + 4) 25 (6, [some (vR 0 0), some (vI ppl), some (vR 3 s), some (vI (nI n)), some (vI (nI (q_sm x t))), some (vI (nI t)), none, none], [], σ) Q := by
    intro k
    induction k with
    | zero =>
      intro t ht
      refine m_T_un 60 (fun y pc => (Nat.beq y 25 && (Nat.beq pc 6 || Nat.beq pc 40)) || Nat.beq y 50) ?_
      refine ⟨fun _ => ?_, fun q => ?_⟩
      · rw [show n - 1 = t by omega] at fin
        exact fin
      · have q : ¬ nI n - Int32.ofInt 1 ≤ nI t := q
        rw [en] at q
        exact absurd (nI_le (by omega) (by omega)) q
    | succ k ih =>
      intro t ht
      refine m_T_un 60 (fun y pc => (Nat.beq y 25 && (Nat.beq pc 6 || Nat.beq pc 40)) || Nat.beq y 50) ?_
      refine ⟨fun q => ?_, fun _ => ?_⟩
      · have q : nI n - Int32.ofInt 1 ≤ nI t := q
        rw [en] at q
        exact absurd q (nI_ge (by omega) (by omega))
      · refine s_at t rfl (by rw [m_lenR hs]; omega) ?_
        have e := ih (t + 1) (by omega)
        rw [nI_succ t, show q_sm x (t + 1) = q_sm x t + x t from rfl, ← nI_add, ← (hx t (by omega)).1] at e
        exact e
  refine m_T_un 40 (fun y pc => (Nat.beq y 25 && Nat.beq pc 6)) ?_
  exact key (n - 1) 0 (by omega)
end HireAll
def k_hc : Nat → Nat → Bool := fun y _ => Nat.beq y 1 || Nat.beq y 2 || Nat.beq y 54 || Nat.beq y 55 || Nat.beq y 25 || Nat.beq y 167
def k_hm : Nat → Nat → Bool := fun y pc => Nat.beq y 86 || Nat.beq y 87 || Nat.beq y 128 || Nat.beq y 129 || (Nat.beq y 137 && Nat.beq pc 84)
theorem p_hire {E : m_E} {D : Nat} {σ : m_M} (hD : D < 512) (hs : q_sim D σ) (a : Int32) (b : Int32) (c : Int32) : q_pair E D 24 137 [vI a, vI b, vI c] σ := by
  have hs1 : q_sim (D + 1) σ := q_sim_more (Nat.le_succ D) hs
  have hs2 : q_sim (D + 1) (m_up σ 6 0 0 (Int32.ofInt 0)) := z_thr hs1
  obtain ⟨N, m, w, c', d', L, K, R, H, hw, hc⟩ := q_town0 hs.2.2.2.2.2.1
  have hT : q_T σ D N m w c' d' L K R H := ⟨hw, hc⟩
  have st := hs1.2.2.2.2.1
  refine m_T_un 60 k_hc ?_
  refine ⟨fun g => ?_, fun g => ⟨_, rfl, ?_⟩⟩
  · have g : ¬ σ.1 5 0 0 = 0 := g
    have g' : ¬ σ.1 6 0 7 = 0 := by rw [← st.1]; exact g
    by_cases ha : a < 0
    · have mo : m_T E 65535 19 137 (0, m_entry 137 [vR 6 0, vI a, vI b, vI c], [], σ) (fun g => g.2.2.1 = [vI (m_nth m_kI 1 0)] ∧ q_sim (D + 1) g.2.2.2) := by
        refine m_T_un 60 k_hm ?_
        exact ⟨fun _ => ⟨fun _ => ⟨rfl, hs2⟩, fun q => absurd ha q⟩, fun q => absurd q g'⟩
      exact s_ra (fun s => ⟨fun _ => ⟨_, rfl, mo⟩, fun q => absurd ha q⟩) ⟨fun _ => ⟨_, rfl, mo⟩, fun q => absurd ha q⟩
    by_cases hr : 0 ≤ b.toInt ∧ b.toInt < (8 : Nat)
    · obtain ⟨s, hs8, rfl⟩ := k_of hr.1 hr.2
      refine s_rowAt1 s hs8 rfl ⟨fun q => absurd q ha, fun _ => ?_⟩
      by_cases hn : 1 ≤ c.toInt ∧ c.toInt ≤ 20
      · obtain ⟨n, hn21, rfl⟩ := k_of (x := c) (n := 21) (by omega) (by omega)
        have n1 : 1 ≤ n := by have := hn.1; rw [k_nI (by omega)] at this; omega
        refine s_outA0 1 20 k_1 k_20b hn.1 hn.2 ⟨fun _ => ?_, fun q => absurd rfl q⟩
        have mo : ∀ (τ : m_M) (Q : m_F → Prop), ¬ τ.1 6 0 7 = 0 → m_T E 65535 19 137 (41, [some (vR 6 0), some (vI a), some (vI (nI s)), some (vI (nI n)), none, none, none, none], [], m_up τ 6 0 0 (Int32.ofInt 0)) Q → m_T E 65535 19 137 (0, m_entry 137 [vR 6 0, vI a, vI (nI s), vI (nI n)], [], τ) Q := fun τ Q h hh => by
          refine m_T_un 60 (fun y pc => k_hm y pc || (Nat.beq y 137 && Nat.beq pc 41)) ?_
          refine ⟨fun _ => ⟨fun q => absurd q ha, fun _ => ?_⟩, fun q => absurd q h⟩
          refine s_isRow1 hr.1 (by omega) ⟨fun q => absurd q k_no1, fun _ => ?_⟩
          exact s_inA1 1 20 k_L1 k_l20 hn.1 hn.2 ⟨fun _ => hh, fun q => absurd q k_no1⟩
        by_cases hl : q_lack σ s (nI n) = 0
        · by_cases hb : q_btw σ s n 20
          · refine s_rf1 (hi := 20) hs8 (by omega) (by decide) rfl hl hb ⟨fun _ => ?_, fun q => absurd rfl q⟩
            obtain ⟨V, hV⟩ := q_Vx m w c' n (q_sm (k_xs σ s) (n - 1)) L K R
            refine s_cfw (x := k_xs σ s) hT hV ⟨n1, by omega⟩ hs8 (fun t ht => k_xsb hb t ht) ?_
            refine ⟨_, rfl, mo _ _ g' (m_T_un 60 k_hm ?_)⟩
            refine s_mlk hs8 (hs1.1 s hs8) ⟨fun _ => ?_, fun q => absurd (q_lk_0 hl) q⟩
            refine s_cmg hs8 (by omega) (hs1.1 s hs8) (fun z hz => ?_)
            have hz : z = true ↔ q_btw σ s n 20 := hz
            rw [hz.mpr hb]
            refine ⟨fun _ => ?_, fun q => absurd q (by decide)⟩
            refine s_mhl (r := 15) (x := k_xs σ s) (D := D) (N := N) (m := m) (w := w) (a := c') (d := d') (L := L) (K := K) (R := R) (H := H) ?_ hV ⟨n1, by omega⟩ hs8 ?_ 24 0 (Int32.ofInt 0) (by omega) ?_
            · exact ⟨hw, hc⟩
            · obtain ⟨_, -, -, -, -, f⟩ := hs1.1 s hs8
              intro t ht
              show σ.1 13 2 (40 * s + t) = nI (k_xs σ s t) ∧ k_xs σ s t ≤ 20
              rw [← f t (by omega)]
              exact k_xsb hb t ht
            · exact ⟨rfl, z_nof hs1⟩
          · refine s_rf0 (hi := 20) hs8 (by omega) (by decide) rfl hl hb ⟨fun q => absurd q k_noB, fun _ => ?_⟩
            refine ⟨_, rfl, mo _ _ g' (m_T_un 60 k_hm ?_)⟩
            refine s_mlk hs8 (hs1.1 s hs8) ⟨fun _ => ?_, fun q => absurd (q_lk_0 hl) q⟩
            refine s_cmg hs8 (by omega) (hs1.1 s hs8) (fun z hz => ?_)
            have hz : z = true ↔ q_btw σ s n 20 := hz
            cases z with
            | true => exact absurd (hz.mp rfl) hb
            | false => exact ⟨fun q => absurd rfl q, fun _ => ⟨rfl, hs2⟩⟩
        · refine s_rfl hl ⟨fun q => absurd q (k_fnd hl), fun _ => ⟨_, rfl, mo _ _ g' (m_T_un 60 k_hm ?_)⟩⟩
          exact s_mlk hs8 (hs1.1 s hs8) ⟨fun q => absurd q (q_lk_le hl), fun _ => ⟨rfl, z_nof hs1⟩⟩
      · refine s_outA1 1 20 k_1 k_20b (by omega) ⟨fun q => absurd q k_no1, fun _ => ⟨_, rfl, ?_⟩⟩
        refine m_T_un 60 k_hm ?_
        refine ⟨fun _ => ⟨fun q => absurd q ha, fun _ => ?_⟩, fun q => absurd q g'⟩
        refine s_isRow1 hr.1 (by omega) ⟨fun q => absurd q k_no1, fun _ => ?_⟩
        exact s_inA0 1 20 k_L1 k_l20 (by omega) ⟨fun q => absurd rfl q, fun _ => ⟨rfl, hs2⟩⟩
    · refine s_rowAt0 (k_not hr) ⟨fun q => absurd q ha, fun _ => ⟨_, rfl, ?_⟩⟩
      refine m_T_un 60 k_hm ?_
      refine ⟨fun _ => ⟨fun q => absurd q ha, fun _ => ?_⟩, fun q => absurd q g'⟩
      exact s_isRow0 (k_not hr) ⟨fun _ => ⟨rfl, hs2⟩, fun q => absurd rfl q⟩
  · have g : σ.1 5 0 0 = 0 := g
    refine m_T_un 60 k_hm ?_
    exact ⟨fun q => absurd (st.1.symm.trans g) q, fun _ => ⟨rfl, hs2⟩⟩
