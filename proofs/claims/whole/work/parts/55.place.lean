/-! who stands, and where; the turns -/
def q_T (σ : m_M) (D N m w a d : Nat) (L K R H : Nat → Nat) : Prop := q_wf (σ.1 13 3) D N m w a d L K R H ∧ q_ct σ 0 (σ.1 13 3) N m
theorem k_ne0 {i : Nat} (h : i < 2 ^ 31) : ¬ nI i = -1000000 := fun q => by
  have e := congrArg Int32.toInt q
  rw [k_nI h, show (-1000000 : Int32).toInt = -1000000 by decide] at e
  omega
section Place
variable {E : m_E} {r : Nat} {σ : m_M} {Q : m_F → Prop} {D N m w a d : Nat} {L K R H : Nat → Nat}
theorem s_p1 (hT : q_T σ D N m w a d L K R H) (i : Nat) (hi : i < m) (hq : Q (0, [], [vI (nI i)], σ)) : m_T E 65535 (r + 1) 78 (0, [some (vR 5 0), some (vI (nI (L i))), none], [], σ) Q := by
  obtain ⟨⟨w0, w1, w2, w3, w4, w5, w6, w7, w8, w9, wa, wb, wc⟩, c1, c2, c3⟩ := hT
  refine s_plc1 (v := 0) i ((c1 8 (by omega)).trans w8) (show m ≤ 60 by omega) hi ((c2 i hi).trans (wa i hi).1) (fun t ht q => ?_) hq
  have e : nI (L t) = nI (L i) := ((c2 t (by omega)).trans (wa t (by omega)).1).symm.trans q
  have h1 := (wa t (by omega)).2
  have h2 := (wa i hi).2
  have := wb t i (by omega) hi ((nI_eq (by omega) (by omega)).mp e)
  omega
theorem s_p0 (hT : q_T σ D N m w a d L K R H) {x : Int32} (hx : ∀ i, i < m → ¬ nI (L i) = x) (hq : Q (0, [], [vI (-1000000)], σ)) : m_T E 65535 (r + 1) 78 (0, [some (vR 5 0), some (vI x), none], [], σ) Q := by
  obtain ⟨⟨w0, w1, w2, w3, w4, w5, w6, w7, w8, w9, wa, wb, wc⟩, c1, c2, c3⟩ := hT
  exact s_plc0 (v := 0) ((c1 8 (by omega)).trans w8) (show m ≤ 60 by omega) (fun t ht q => hx t ht (((c2 t ht).trans (wa t ht).1).symm.trans q)) hq
theorem s_mp1 (hT : q_T σ D N m w a d L K R H) (i : Nat) (hi : i < m) (hq : Q (0, [], [vI (nI i)], σ)) : m_T E 65535 r 114 (0, [some (vR 6 0), some (vI (nI (L i))), none], [], σ) Q := by
  obtain ⟨⟨w0, w1, w2, w3, w4, w5, w6, w7, w8, w9, wa, wb, wc⟩, c1, c2, c3⟩ := hT
  refine s_mpl1 i w8 (show m ≤ 60 by omega) hi (wa i hi).1 (fun t ht q => ?_) hq
  have e : nI (L t) = nI (L i) := (wa t (by omega)).1.symm.trans q
  have h1 := (wa t (by omega)).2
  have h2 := (wa i hi).2
  have := wb t i (by omega) hi ((nI_eq (by omega) (by omega)).mp e)
  omega
theorem s_mp0 (hT : q_T σ D N m w a d L K R H) {x : Int32} (hx : ∀ i, i < m → ¬ nI (L i) = x) (hq : Q (0, [], [vI (-1000000)], σ)) : m_T E 65535 r 114 (0, [some (vR 6 0), some (vI x), none], [], σ) Q := by
  obtain ⟨⟨w0, w1, w2, w3, w4, w5, w6, w7, w8, w9, wa, wb, wc⟩, c1, c2, c3⟩ := hT
  exact s_mpl0 w8 (show m ≤ 60 by omega) (fun t ht q => hx t ht ((wa t ht).1.symm.trans q)) hq
theorem s_isIn1 (hT : q_T σ D N m w a d L K R H) (i : Nat) (hi : i < m) (hq : Q (0, [], [vI (Int32.ofInt 1)], σ)) : m_T E 65535 (r + 2) 77 (0, [some (vR 5 0), some (vI (nI (L i)))], [], σ) Q := by
  refine m_T_un 20 (fun y _ => Nat.beq y 78) ?_
  have h60 : m ≤ 60 := Nat.le_trans hT.1.2.2.2.2.2.2.2.2.2.1 hT.1.2.2.2.2.2.2.2.1
  exact s_p1 hT i hi ⟨fun q => absurd q (k_ne0 (by omega)), fun _ => ⟨Or.inr rfl, hq⟩⟩
theorem s_isIn0 (hT : q_T σ D N m w a d L K R H) {x : Int32} (hx : ∀ i, i < m → ¬ nI (L i) = x) (hq : Q (0, [], [vI (Int32.ofInt 0)], σ)) : m_T E 65535 (r + 2) 77 (0, [some (vR 5 0), some (vI x)], [], σ) Q := by
  refine m_T_un 20 (fun y _ => Nat.beq y 78) ?_
  exact s_p0 hT hx ⟨fun _ => ⟨Or.inl rfl, hq⟩, fun q => absurd rfl q⟩
theorem s_isH1 (hT : q_T σ D N m w a d L K R H) (i : Nat) (hi : i < m) (hq : Q (0, [], [vI (Int32.ofInt 1)], σ)) : m_T E 65535 (r + 2) 124 (0, [some (vR 6 0), some (vI (nI (L i)))], [], σ) Q := by
  refine m_T_un 20 (fun y _ => Nat.beq y 114 || Nat.beq y 123) ?_
  have h60 : m ≤ 60 := Nat.le_trans hT.1.2.2.2.2.2.2.2.2.2.1 hT.1.2.2.2.2.2.2.2.1
  have hN60 := hT.1.2.2.2.2.2.2.2.1
  have hLi := (hT.1.2.2.2.2.2.2.2.2.2.2.1 i hi).2
  refine s_one1 (N := N) hT.1.2.2.2.2.2.2.1 hN60 (by rw [k_nI (by omega)]; omega) (by rw [k_nI (by omega)]; omega) ⟨fun q => absurd q k_no1, fun _ => ?_⟩
  exact s_mp1 hT i hi ⟨fun q => absurd q (k_ne0 (by omega)), fun _ => ⟨Or.inr rfl, hq⟩⟩
theorem s_isH0 (hT : q_T σ D N m w a d L K R H) {x : Int32} (hx : ∀ i, i < m → ¬ nI (L i) = x) (hq : Q (0, [], [vI (Int32.ofInt 0)], σ)) : m_T E 65535 (r + 2) 124 (0, [some (vR 6 0), some (vI x)], [], σ) Q := by
  refine m_T_un 20 (fun y _ => Nat.beq y 114 || Nat.beq y 123) ?_
  have hN60 := hT.1.2.2.2.2.2.2.2.1
  by_cases h : 0 ≤ x.toInt ∧ x.toInt < N
  · refine s_one1 (N := N) hT.1.2.2.2.2.2.2.1 hN60 h.1 h.2 ⟨fun q => absurd q k_no1, fun _ => ?_⟩
    exact s_mp0 hT hx ⟨fun _ => ⟨Or.inl rfl, hq⟩, fun q => absurd rfl q⟩
  · exact s_one0 (N := N) hT.1.2.2.2.2.2.2.1 hN60 (by omega) ⟨fun _ => ⟨Or.inl rfl, hq⟩, fun q => absurd rfl q⟩
/-- the order of kinds, of ranks -/
def q_ord (K : Nat) : Nat := cond (Nat.beq K 3) 0 (cond (Nat.beq K 1) 1 (cond (Nat.beq K 2) 2 (cond (Nat.beq K 5) 3 4)))
def q_tn (w K R : Nat) : Nat := cond (Nat.beq w 0) 0 (cond (Nat.beq w 1) (9 - R) (q_ord K))
def q_tc (w K R : Nat) : Int32 := cond (Nat.beq w 2) (nI (q_ord K)) (cond (Nat.beq w 1) (-(nI R)) (Int32.ofInt 0))
end Place
