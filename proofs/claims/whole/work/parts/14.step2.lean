/-! arrays, statics, calls -/
theorem m_lenc (E : m_E) : m_len E 16 = (fun _ => 6) ∧ m_len E 18 = (fun _ => E.1) ∧ m_len E 19 = (fun v => m_nth m_sl v 0) ∧ m_len E 14 = (fun _ => 161) ∧ m_len E 15 = (fun _ => 2) ∧ m_len E 10 = (fun _ => 8) ∧ m_len E 11 = (fun _ => 2) := ⟨rfl, rfl, rfl, rfl, rfl, rfl, rfl⟩
theorem m_in_lt {i : Int32} {n : Nat} (h : vp_in i n) : i.toNatClampNeg < n := Nat.not_le.mp fun q => h (Or.inr q)
section Step2
variable {p : Program} {l : Launch} {e : Env} {R : Room} {s : State} {m : MethodId} {args : Array Value} {below : List Frame} {meth : Method} {c : Code} {cells slots : Nat} {QF : State → Prop} {G : m_G} {E : m_E} {A : Nat → Prop} {y r : Nat} {K : m_F → Prop} {Q : m_F → Prop} {Cl : Nat → List m_V → (List m_V → m_M → m_F) → Prop}
variable {pc len n a b : Nat} {ls : m_L} {st : List m_V} {σ : m_M} {H : Heap} {locs : List Loc} {la : Array Slot}
theorem m_s_alen (hz : m_hz G) (hC : m_Cx G E A y r p R s m args c cells slots) (go : m_Go l G E A y p e R s m args below meth c cells slots QF K) (hL : m_okL ls) (hT : m_okS st) (hP : va_P G.1 m_cl (m_ws G E σ) H) (hS : va_S A s.heap H locs) (hl : lv_has la (m_max y) (m_lvp G 0 ls))
    (hd : decode (m_bytes y) pc = .ok (.arraylength, 1))
    (h : m_r1 (fun c v st => cond (Nat.ble 10 c && Nat.blt c 20 && !Nat.beq c 17) (K (pc + 1, ls, vI (Int32.ofNat (m_len E c v)) :: st, σ)) False) st) : W p l e R s m args below meth c H locs cells slots QF (F0 m pc la (st.map (m_cv G))) := by
  obtain ⟨hx, hb, hml, hown, hts, hK, hRO, -⟩ := hC
  obtain ⟨c', v, t, rfl, hh⟩ := m_r1_el h; clear h; have h := hh
  cases hca : (Nat.ble 10 c' && Nat.blt c' 20 && !Nat.beq c' 17) with
  | false => rw [hca] at h; exact h.elim
  | true =>
    rw [hca] at h
    simp only [Bool.and_eq_true, Bool.not_eq_true'] at hca
    obtain ⟨⟨a1, a2⟩, a3⟩ := hca
    have a1 := Nat.le_of_ble_eq_true a1
    have a2 := m_c_lt a2
    have a3 : ¬ c' = 17 := m_beqf a3
    have hv : m_vr c' v = true := m_okS_h hT
    have hT2 := m_okS_t hT
    rw [List.map_cons, m_cv_r (by omega)]
    by_cases h16 : c' < 16
    · obtain ⟨k, hk⟩ := m_pos hv h16
      obtain ⟨t0, ht0⟩ := m_tpos (G := G) hv h16 a1
      have hat := m_at (G := G) (E := E) (σ := σ) hk
      rw [m_ent_a (by omega)] at hat
      exact va_alen hx hb hK hP k t0 hat ht0 rfl hd (go h hL (m_okS_c rfl hT2) hP hS hl)
    · rcases (show c' = 16 ∨ c' = 18 ∨ c' = 19 by omega) with rfl | rfl | rfl
      · exact va_tlen hx hb (hRO.1 v (m_c_lt hv)) hS rfl hd (go h hL (m_okS_c rfl hT2) hP hS hl)
      · have hv0 : v = 0 := by have := m_c_lt hv; exact Nat.lt_one_iff.mp this
        subst hv0
        exact va_tlen hx hb hRO.2.1 hS rfl hd (go h hL (m_okS_c rfl hT2) hP hS hl)
      · have h10 : v < 10 := m_c_lt hv
        exact va_tlen hx hb (hRO.2.2.2.2.2.1.1 v h10).2.2.2 hS (by rw [m_getD]; rfl) hd (go h hL (m_okS_c rfl hT2) hP hS hl)
theorem m_s_iald (hz : m_hz G) (hC : m_Cx G E A y r p R s m args c cells slots) (go : m_Go l G E A y p e R s m args below meth c cells slots QF K) (hL : m_okL ls) (hT : m_okS st) (hP : va_P G.1 m_cl (m_ws G E σ) H) (hS : va_S A s.heap H locs) (hl : lv_has la (m_max y) (m_lvp G 0 ls))
    (hd : decode (m_bytes y) pc = .ok (.iaload, 1))
    (h : m_ri (fun c v i st => vp_in i (m_len E c v) ∧ (match m_ia E σ c v i.toNatClampNeg with | some x => K (pc + 1, ls, vI x :: st, σ) | none => False)) st) : W p l e R s m args below meth c H locs cells slots QF (F0 m pc la (st.map (m_cv G))) := by
  obtain ⟨hx, hb, hml, hown, hts, hK, hRO, -⟩ := hC
  obtain ⟨c', v, i, t, rfl, hin, hh⟩ := m_ri_el h; clear h; have h := hh
  have hv : m_vr c' v = true := m_okS_h (m_okS_t hT)
  have hT2 := m_okS_t (m_okS_t hT)
  unfold m_ia at h
  cases h1 : (Nat.beq c' 12 || Nat.beq c' 13) with
  | true =>
    rw [h1] at h
    have hc : c' = 12 ∨ c' = 13 := by
      rw [Bool.or_eq_true] at h1
      exact h1.imp m_beq m_beq
    obtain ⟨k, hk⟩ := m_pos hv (by omega)
    obtain ⟨t0, ht0⟩ := m_tpos (G := G) hv (by omega) (by omega)
    have hat := m_at (G := G) (E := E) (σ := σ) hk
    rw [m_ent_a (by omega), m_con_i (by omega)] at hat
    rw [show m_aty c' = .int from by rcases hc with rfl | rfl <;> rfl] at ht0
    rw [List.map_cons, List.map_cons, m_cv_r (by omega)]
    exact va_iald hx hb hK hP k t0 hat ht0 hin hd (go h hL (m_okS_c rfl hT2) hP hS hl)
  | false =>
    rw [h1] at h
    cases h2 : Nat.beq c' 16 with
    | true =>
      rw [h2] at h
      cases m_beq h2
      rw [List.map_cons, List.map_cons, m_cv_r (by omega)]
      exact va_ti hx hb (hRO.1 v (m_c_lt hv)) hS hin rfl hd (go h hL (m_okS_c rfl hT2) hP hS hl)
    | false =>
      rw [h2] at h
      cases h3 : Nat.beq c' 18 with
      | true =>
        rw [h3] at h
        cases m_beq h3
        have hv0 : v = 0 := by have := m_c_lt hv; exact Nat.lt_one_iff.mp this
        subst hv0
        rw [List.map_cons, List.map_cons, m_cv_r (by omega)]
        exact va_ti hx hb hRO.2.1 hS hin rfl hd (go h hL (m_okS_c rfl hT2) hP hS hl)
      | false => rw [h3] at h; exact h.elim
theorem m_s_bald (hz : m_hz G) (hC : m_Cx G E A y r p R s m args c cells slots) (go : m_Go l G E A y p e R s m args below meth c cells slots QF K) (hL : m_okL ls) (hT : m_okS st) (hP : va_P G.1 m_cl (m_ws G E σ) H) (hS : va_S A s.heap H locs) (hl : lv_has la (m_max y) (m_lvp G 0 ls))
    (hd : decode (m_bytes y) pc = .ok (.baload, 1))
    (h : m_ri (fun c v i st => vp_in i (m_len E c v) ∧ (match m_ba σ c v i.toNatClampNeg with | some x => K (pc + 1, ls, vI x :: st, σ) | none => False)) st) : W p l e R s m args below meth c H locs cells slots QF (F0 m pc la (st.map (m_cv G))) := by
  obtain ⟨hx, hb, hml, hown, hts, hK, hRO, -⟩ := hC
  obtain ⟨c', v, i, t, rfl, hin, hh⟩ := m_ri_el h; clear h; have h := hh
  have hv : m_vr c' v = true := m_okS_h (m_okS_t hT)
  have hT2 := m_okS_t (m_okS_t hT)
  unfold m_ba at h
  cases h1 : Nat.beq c' 15 with
  | true =>
    rw [h1] at h
    cases m_beq h1
    obtain ⟨k, hk⟩ := m_pos hv (by omega)
    obtain ⟨t0, ht0⟩ := m_tpos (G := G) hv (by omega) (by omega)
    have hat := m_at (G := G) (E := E) (σ := σ) hk
    rw [m_ent_a (by omega), m_con_i (by omega)] at hat
    rw [List.map_cons, List.map_cons, m_cv_r (by omega)]
    exact va_zald hx hb hK hP k t0 hat ht0 hin hd (go h hL (m_okS_c rfl hT2) hP hS hl)
  | false =>
    rw [h1] at h
    cases h2 : Nat.beq c' 19 with
    | true =>
      rw [h2] at h
      cases m_beq h2
      have h10 : v < 10 := m_c_lt hv
      rw [List.map_cons, List.map_cons, m_cv_r (by omega)]
      exact va_tb hx hb (hRO.2.2.2.2.2.1.1 v h10).2.2.2 hS (by rw [m_getD]; exact hin) (by rw [m_getD, m_getD]; rfl) hd (go h hL (m_okS_c rfl hT2) hP hS hl)
    | false => rw [h2] at h; exact h.elim
theorem m_s_lald (hz : m_hz G) (hC : m_Cx G E A y r p R s m args c cells slots) (go : m_Go l G E A y p e R s m args below meth c cells slots QF K) (hL : m_okL ls) (hT : m_okS st) (hP : va_P G.1 m_cl (m_ws G E σ) H) (hS : va_S A s.heap H locs) (hl : lv_has la (m_max y) (m_lvp G 0 ls))
    (hd : decode (m_bytes y) pc = .ok (.laload, 1))
    (h : m_ri (fun c v i st => vp_in i 161 ∧ cond (Nat.beq c 14) (K (pc + 1, ls, vL (σ.2 i.toNatClampNeg) :: st, σ)) False) st) : W p l e R s m args below meth c H locs cells slots QF (F0 m pc la (st.map (m_cv G))) := by
  obtain ⟨hx, hb, hml, hown, hts, hK, hRO, -⟩ := hC
  obtain ⟨c', v, i, t, rfl, hin, hh⟩ := m_ri_el h; clear h; have h := hh
  have hv : m_vr c' v = true := m_okS_h (m_okS_t hT)
  have hT2 := m_okS_t (m_okS_t hT)
  cases h1 : Nat.beq c' 14 with
  | true =>
    rw [h1] at h
    cases m_beq h1
    obtain ⟨k, hk⟩ := m_pos hv (by omega)
    obtain ⟨t0, ht0⟩ := m_tpos (G := G) hv (by omega) (by omega)
    have hat := m_at (G := G) (E := E) (σ := σ) hk
    rw [m_ent_a (by omega)] at hat
    rw [List.map_cons, List.map_cons, m_cv_r (by omega)]
    exact va_lald hx hb hK hP k t0 hat ht0 hin hd (go h hL (m_okS_c rfl hT2) hP hS hl)
  | false => rw [h1] at h; exact h.elim
theorem m_s_aald (hz : m_hz G) (hC : m_Cx G E A y r p R s m args c cells slots) (go : m_Go l G E A y p e R s m args below meth c cells slots QF K) (hL : m_okL ls) (hT : m_okS st) (hP : va_P G.1 m_cl (m_ws G E σ) H) (hS : va_S A s.heap H locs) (hl : lv_has la (m_max y) (m_lvp G 0 ls))
    (hd : decode (m_bytes y) pc = .ok (.aaload, 1))
    (h : m_ri (fun c v i st => vp_in i (m_len E c v) ∧ cond (Nat.beq c 10) (K (pc + 1, ls, vR 3 i.toNatClampNeg :: st, σ)) (cond (Nat.beq c 11) (K (pc + 1, ls, vR 5 (2 + i.toNatClampNeg) :: st, σ)) False)) st) : W p l e R s m args below meth c H locs cells slots QF (F0 m pc la (st.map (m_cv G))) := by
  obtain ⟨hx, hb, hml, hown, hts, hK, hRO, -⟩ := hC
  obtain ⟨c', v, i, t, rfl, hin, hh⟩ := m_ri_el h; clear h; have h := hh
  have hv : m_vr c' v = true := m_okS_h (m_okS_t hT)
  have hT2 := m_okS_t (m_okS_t hT)
  cases h1 : Nat.beq c' 10 with
  | true =>
    rw [h1] at h
    cases m_beq h1
    obtain ⟨k, hk⟩ := m_pos hv (by omega)
    obtain ⟨t0, ht0⟩ := m_tpos (G := G) hv (by omega) (by omega)
    have hat := m_at (G := G) (E := E) (σ := σ) hk
    rw [m_ent_a (by omega)] at hat
    have hi : i.toNatClampNeg < 8 := m_in_lt hin
    rw [List.map_cons, List.map_cons, m_cv_r (by omega)]
    exact va_aldq (C := "AsManyAsCame$Row") hx hb hK hP k t0 hat ht0 hin hd (go h hL (m_okS_c (Nat.ble_eq_true_of_le hi) hT2) hP hS hl)
  | false =>
    rw [h1] at h
    cases h2 : Nat.beq c' 11 with
    | true =>
      rw [h2] at h
      cases m_beq h2
      obtain ⟨k, hk⟩ := m_pos hv (by omega)
      obtain ⟨t0, ht0⟩ := m_tpos (G := G) hv (by omega) (by omega)
      have hat := m_at (G := G) (E := E) (σ := σ) hk
      rw [m_ent_a (by omega)] at hat
      have hi : i.toNatClampNeg < 2 := m_in_lt hin
      rw [List.map_cons, List.map_cons, m_cv_r (by omega)]
      exact va_aldq (C := "AsManyAsCame$Town") hx hb hK hP k t0 hat ht0 hin hd (go h hL (m_okS_c (Nat.ble_eq_true_of_le (show 2 + i.toNatClampNeg < 4 by omega)) hT2) hP hS hl)
    | false => rw [h2] at h; exact h.elim
theorem m_s_iast (hz : m_hz G) (hD : ∀ σ, va_D A (m_ws G E σ)) (hC : m_Cx G E A y r p R s m args c cells slots) (go : m_Go l G E A y p e R s m args below meth c cells slots QF K) (hL : m_okL ls) (hT : m_okS st) (hP : va_P G.1 m_cl (m_ws G E σ) H) (hS : va_S A s.heap H locs) (hl : lv_has la (m_max y) (m_lvp G 0 ls))
    (hd : decode (m_bytes y) pc = .ok (.iastore, 1))
    (h : m_rii (fun c v i x st => vp_in i (m_len E c v) ∧ cond (Nat.beq c 12 || Nat.beq c 13) (K (pc + 1, ls, st, m_up σ c v i.toNatClampNeg x)) False) st) : W p l e R s m args below meth c H locs cells slots QF (F0 m pc la (st.map (m_cv G))) := by
  obtain ⟨hx, hb, hml, hown, hts, hK, hRO, -⟩ := hC
  obtain ⟨c', v, i, x, t, rfl, hin, hh⟩ := m_rii_el h; clear h; have h := hh
  have hv : m_vr c' v = true := m_okS_h (m_okS_t (m_okS_t hT))
  have hT2 := m_okS_t (m_okS_t (m_okS_t hT))
  cases h1 : (Nat.beq c' 12 || Nat.beq c' 13) with
  | true =>
    rw [h1] at h
    have hc : c' = 12 ∨ c' = 13 := by
      rw [Bool.or_eq_true] at h1
      exact h1.imp m_beq m_beq
    obtain ⟨k, hk⟩ := m_pos hv (by omega)
    obtain ⟨t0, ht0⟩ := m_tpos (G := G) hv (by omega) (by omega)
    have hat := m_at (G := G) (E := E) (σ := σ) hk
    rw [m_ent_a (by omega), m_con_i (by omega)] at hat
    rw [show m_aty c' = .int from by rcases hc with rfl | rfl <;> rfl] at ht0
    rw [List.map_cons, List.map_cons, List.map_cons, m_cv_r (by omega)]
    refine va_iast hx hb hK hP (hD σ) hS k t0 hat ht0 hin hd (fun H1 locs1 hP1 _ hS1 => ?_)
    have e : m_ent G E (m_up σ c' v i.toNatClampNeg x) c' v = .inl (G.2.2.1 c' v, m_len E c' v, .inl (upd (σ.1 c' v) i.toNatClampNeg x)) := by
      rw [m_ent_a (by omega), m_con_i (by omega), m_upd_fun]
    rw [← e, m_ws_up hk] at hP1
    exact go h hL hT2 hP1 hS1 hl
  | false => rw [h1] at h; exact h.elim
theorem m_s_bast (hz : m_hz G) (hD : ∀ σ, va_D A (m_ws G E σ)) (hC : m_Cx G E A y r p R s m args c cells slots) (go : m_Go l G E A y p e R s m args below meth c cells slots QF K) (hL : m_okL ls) (hT : m_okS st) (hP : va_P G.1 m_cl (m_ws G E σ) H) (hS : va_S A s.heap H locs) (hl : lv_has la (m_max y) (m_lvp G 0 ls))
    (hd : decode (m_bytes y) pc = .ok (.bastore, 1))
    (h : m_rii (fun c v i x st => vp_in i 2 ∧ (x = 0 ∨ x = 1) ∧ cond (Nat.beq c 15) (K (pc + 1, ls, st, m_up σ c v i.toNatClampNeg x)) False) st) : W p l e R s m args below meth c H locs cells slots QF (F0 m pc la (st.map (m_cv G))) := by
  obtain ⟨hx, hb, hml, hown, hts, hK, hRO, -⟩ := hC
  obtain ⟨c', v, i, x, t, rfl, hin, h01, hh⟩ := m_rii_el h; clear h; have h := hh
  have hv : m_vr c' v = true := m_okS_h (m_okS_t (m_okS_t hT))
  have hT2 := m_okS_t (m_okS_t (m_okS_t hT))
  cases h1 : Nat.beq c' 15 with
  | true =>
    rw [h1] at h
    cases m_beq h1
    obtain ⟨k, hk⟩ := m_pos hv (by omega)
    obtain ⟨t0, ht0⟩ := m_tpos (G := G) hv (by omega) (by omega)
    have hat := m_at (G := G) (E := E) (σ := σ) hk
    rw [m_ent_a (by omega), m_con_i (by omega)] at hat
    rw [List.map_cons, List.map_cons, List.map_cons, m_cv_r (by omega)]
    refine va_zast hx hb hK hP (hD σ) hS k t0 hat ht0 hin hd (fun H1 locs1 hP1 _ hS1 => ?_)
    have e0 : vp_nar .boolean x = x := by rcases h01 with q | q <;> rw [q] <;> rfl
    have e : m_ent G E (m_up σ 15 v i.toNatClampNeg x) 15 v = .inl (G.2.2.1 15 v, m_len E 15 v, .inl (upd (σ.1 15 v) i.toNatClampNeg x)) := by
      rw [m_ent_a (by omega), m_con_i (by omega), m_upd_fun]
    rw [e0, ← e, m_ws_up hk] at hP1
    exact go h hL hT2 hP1 hS1 hl
  | false => rw [h1] at h; exact h.elim
theorem m_s_last (hz : m_hz G) (hD : ∀ σ, va_D A (m_ws G E σ)) (hC : m_Cx G E A y r p R s m args c cells slots) (go : m_Go l G E A y p e R s m args below meth c cells slots QF K) (hL : m_okL ls) (hT : m_okS st) (hP : va_P G.1 m_cl (m_ws G E σ) H) (hS : va_S A s.heap H locs) (hl : lv_has la (m_max y) (m_lvp G 0 ls))
    (hd : decode (m_bytes y) pc = .ok (.lastore, 1))
    (h : m_ril (fun c v i x st => vp_in i 161 ∧ cond (Nat.beq c 14) (K (pc + 1, ls, st, m_upL σ i.toNatClampNeg x)) False) st) : W p l e R s m args below meth c H locs cells slots QF (F0 m pc la (st.map (m_cv G))) := by
  obtain ⟨hx, hb, hml, hown, hts, hK, hRO, -⟩ := hC
  obtain ⟨c', v, i, x, t, rfl, hin, hh⟩ := m_ril_el h; clear h; have h := hh
  have hv : m_vr c' v = true := m_okS_h (m_okS_t (m_okS_t hT))
  have hT2 := m_okS_t (m_okS_t (m_okS_t hT))
  cases h1 : Nat.beq c' 14 with
  | true =>
    rw [h1] at h
    cases m_beq h1
    have hv0 : v = 0 := by have := m_c_lt hv; exact Nat.lt_one_iff.mp this
    obtain ⟨k, hk⟩ := m_pos hv (by omega)
    obtain ⟨t0, ht0⟩ := m_tpos (G := G) hv (by omega) (by omega)
    have hat := m_at (G := G) (E := E) (σ := σ) hk
    rw [m_ent_a (by omega)] at hat
    rw [List.map_cons, List.map_cons, List.map_cons, m_cv_r (by omega)]
    refine va_last hx hb hK hP (hD σ) hS k t0 hat ht0 hin hd (fun H1 locs1 hP1 _ hS1 => ?_)
    have e : m_ent G E (m_upL σ i.toNatClampNeg x) 14 v = .inl (G.2.2.1 14 v, m_len E 14 v, .inr (.inl (vp_updL σ.2 i.toNatClampNeg x))) := by
      rw [m_ent_a (by omega)]
      rfl
    rw [← e, m_ws_upL hk hv0] at hP1
    exact go h hL hT2 hP1 hS1 hl
  | false => rw [h1] at h; exact h.elim
theorem m_s_getstatic {idx : Nat} (hz : m_hz G) (hC : m_Cx G E A y r p R s m args c cells slots) (go : m_Go l G E A y p e R s m args below meth c cells slots QF K) (hL : m_okL ls) (hT : m_okS st) (hP : va_P G.1 m_cl (m_ws G E σ) H) (hS : va_S A s.heap H locs) (hl : lv_has la (m_max y) (m_lvp G 0 ls))
    (hd : decode (m_bytes y) pc = .ok (.getstatic idx, 3)) (hc2 : m_has5 m_cpg (m_oc y) idx a b = true)
    (h : cond (Nat.beq a 0) (K (pc + 3, ls, vI (Int32.ofNat b) :: st, σ)) (K (pc + 3, ls, vR a b :: st, σ))) : W p l e R s m args below meth c H locs cells slots QF (F0 m pc la (st.map (m_cv G))) := by
  obtain ⟨hx, hb, hml, hown, hts, hK, hRO, -⟩ := hC
  obtain ⟨h1, h2, h3, h4, h5, h6, h7, h8, h9, ha, -⟩ := hRO
  obtain ⟨pl, hm⟩ := m_has5_of hc2
  generalize m_oc y = oc at hm hown
  simp only [m_cpg, List.mem_cons, List.not_mem_nil, or_false, Prod.mk.injEq] at hm
  rcases hm with ⟨rfl, rfl, rfl, rfl, -⟩ | ⟨rfl, rfl, rfl, rfl, -⟩ | ⟨rfl, rfl, rfl, rfl, -⟩ | ⟨rfl, rfl, rfl, rfl, -⟩ | ⟨rfl, rfl, rfl, rfl, -⟩ | ⟨rfl, rfl, rfl, rfl, -⟩ | ⟨rfl, rfl, rfl, rfl, -⟩
  · exact va_gets hx hb (h3 0 (by decide)) hS hown (hts (.fieldLink "AsManyAsCame" 260 "AsManyAsCame" "ABOVE" "[I") (m_in_of (p := 606) (by decide +kernel))) (fun _ q => q) hd (go h hL (m_okS_c rfl hT) hP hS hl)
  · exact va_gets hx hb (h3 2 (by decide)) hS hown (hts (.fieldLink "AsManyAsCame$Asked" 22 "AsManyAsCame$Asked" "SIZES" "[I") (m_in_of (p := 616) (by decide +kernel))) (fun _ q => q) hd (go h hL (m_okS_c rfl hT) hP hS hl)
  · exact va_gets hx hb (h3 3 (by decide)) hS hown (hts (.fieldLink "AsManyAsCame$Asked" 43 "AsManyAsCame$Asked" "MARKS" "[I") (m_in_of (p := 632) (by decide +kernel))) (fun _ q => q) hd (go h hL (m_okS_c rfl hT) hP hS hl)
  · exact va_getsN hx hb (h3 0 (by decide)) hS hown (va_Nw.use rfl ha) (fun _ q => q) hd (go h hL (m_okS_c rfl hT) hP hS hl)
  · exact va_getsN hx hb (h3 1 (by decide)) hS hown (va_Nw.use rfl h9) (fun _ q => q) hd (go h hL (m_okS_c rfl hT) hP hS hl)
  · exact va_gets hx hb h4 hS hown (hts (.fieldLink "java/lang/String" 38 "java/lang/String" "COMPACT_STRINGS" "Z") (m_in_of (p := 322) (by decide +kernel))) (fun _ q => q) hd (go h hL (m_okS_c rfl hT) hP hS hl)
  · exact va_gets hx hb h5 hS hown (hts (.fieldLink "java/lang/String" 1053 "jdk/internal/util/Preconditions" "SIOOBE_FORMATTER" "Ljava/util/function/BiFunction;") (m_in_of (p := 338) (by decide +kernel))) (fun _ q => q) hd (go h hL (m_okS_c rfl hT) hP hS hl)
end Step2
