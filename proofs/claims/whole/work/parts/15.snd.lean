/-! calls -/
/-- calls across the nest: the caller's class, the place in its pool, the method -/
def m_nst : List (Nat × Nat × Nat) := [(3, 42, 2), (0, 219, 43), (0, 223, 46)]
theorem m_cpm_q : (m_cpm.all fun e => Nat.blt e.2.2.1 168 && (!e.2.2.2.2.2.2.1 || m_nst.any fun n => Nat.beq e.1 n.1 && Nat.beq e.2.1 n.2.1 && Nat.beq e.2.2.1 n.2.2)) = true := by decide +kernel
theorem m_wmat2 {oc k y : Nat} (h : m_hasM oc k y = true) : ∃ pl pk ps nest pi, m_mw (oc, k, y, pl, pk, ps, nest, pi) = true ∧ y < 168 ∧ (nest = true → (oc, k, y) ∈ m_nst) := by
  unfold m_hasM at h
  obtain ⟨⟨x1, x2, x3, x4, x5, x6, x7, x8⟩, hm, h⟩ := List.any_eq_true.mp h
  simp only [Bool.and_eq_true] at h
  obtain ⟨⟨e1, e2⟩, e3⟩ := h
  cases m_beq e1; cases m_beq e2; cases m_beq e3
  have h1 := List.all_eq_true.mp m_cpm_q _ hm
  simp only [Bool.and_eq_true, Bool.or_eq_true, Bool.not_eq_true'] at h1
  refine ⟨x4, x5, x6, x7, x8, List.all_eq_true.mp m_wm _ hm, m_c_lt h1.1, fun q => ?_⟩
  rcases h1.2 with z | z
  · rw [q] at z; cases z
  · obtain ⟨⟨n1, n2, n3⟩, hn, z⟩ := List.any_eq_true.mp z
    simp only [Bool.and_eq_true] at z
    obtain ⟨⟨z1, z2⟩, z3⟩ := z
    cases m_beq z1; cases m_beq z2; cases m_beq z3
    exact hn
theorem m_nst_lt {oc k y : Nat} (h : (oc, k, y) ∈ m_nst) : y < 160 := by
  have h1 : (m_nst.all fun n => Nat.blt n.2.2 160) = true := rfl
  exact m_c_lt (List.all_eq_true.mp h1 _ h)
theorem m_nst_nw {G : m_G} {E : m_E} {A : Nat → Prop} {U : State} {H : Heap} {oc k y : Nat} (h : (oc, k, y) ∈ m_nst) (hRO : m_RO G E A U H) : va_Nw (.methodLinkNest (m_on oc) k (m_name y) "AsManyAsCame") U := by
  obtain ⟨-, -, -, -, -, -, -, h8, -, -, hb, hc⟩ := hRO
  simp only [m_nst, List.mem_cons, List.not_mem_nil, or_false, Prod.mk.injEq] at h
  rcases h with ⟨rfl, rfl, rfl⟩ | ⟨rfl, rfl, rfl⟩ | ⟨rfl, rfl, rfl⟩
  · exact h8
  · exact hb
  · exact hc
theorem m_code160 : Cond.code (m_name 160) (m_bytes 160) (m_max 160) (m_rt 160) = Cond.code Lib.Math.max.name Lib.Math.max.code 2 (some .int) := by decide +kernel
theorem m_code161 : Cond.code (m_name 161) (m_bytes 161) (m_max 161) (m_rt 161) = Cond.code Lib.Math.min.name Lib.Math.min.code 2 (some .int) := by decide +kernel
theorem m_name160 : m_name 160 = Lib.Math.max.name := by decide +kernel
theorem m_name161 : m_name 161 = Lib.Math.min.name := by decide +kernel
theorem m_c2v {oc mx pc idx a b : Nat} {n : Nat} (h : m_c2 oc mx pc (.invokevirtual idx, n, a, b) = true) : m_hasM oc idx a = true ∧ b = m_par a ∧ m_sta a = false ∧ a < m_num := by
  have h : (m_hasM oc idx a && Nat.beq b (m_par a) && !m_sta a && Nat.blt a m_num) = true := h
  simp only [Bool.and_eq_true, Bool.not_eq_true'] at h
  exact ⟨h.1.1.1, m_beq h.1.1.2, h.1.2, m_c_lt h.2⟩
section Step3
variable {p : Program} {l : Launch} {e : Env} {R : Room} {s : State} {m : MethodId} {args : Array Value} {below : List Frame} {meth : Method} {c : Code} {cells slots : Nat} {QF : State → Prop} {G : m_G} {E : m_E} {A : Nat → Prop} {y r : Nat} {K : m_F → Prop} {Q : m_F → Prop}
variable {stop pc len n a b : Nat} {ls : m_L} {st : List m_V} {σ : m_M} {H : Heap} {locs : List Loc} {la : Array Slot}
/-- what a call of method y' gives -/
def m_cl_ok (l : Launch) (G : m_G) (E : m_E) (A : Nat → Prop) (stop r y : Nat) (σ : m_M) (Q : m_F → Prop) (y' : Nat) (as : List m_V) (k : List m_V → m_M → m_F) : Prop := match r with
  | 0 => False
  | r' + 1 => m_Snd l G E A 65535 r' y' (0, m_entry y' as, [], σ) (fun f => match f with | (_, _, rs, τ) => m_Snd l G E A stop (r' + 1) y (k rs τ) Q)
theorem m_s_call {idx : Nat} {virt : Bool} (hz : m_hz G) (hC : m_Cx G E A y r p R s m args c cells slots)
    (hr : m_Kr G E A y p l e R s m args below meth c cells slots QF Q) (hs : m_Ks G E A stop y p l e R s m args below meth c cells slots QF Q)
    (hL : m_okL ls) (hS : va_S A s.heap H locs) (hP : va_P G.1 m_cl (m_ws G E σ) H) (hl : lv_has la (m_max y) (m_lvp G 0 ls)) {as st' : List m_V} (hst : st = as.reverse ++ st') (hT : m_okS st)
    (hd : decode (m_bytes y) pc = .ok (cond virt (.invokevirtual idx) (.invokestatic idx), 3)) (hM : m_hasM (m_oc y) idx a = true) (ha : a < m_num - 1) (hne : ¬ a = 160 ∧ ¬ a = 161) (hn : as.length = cond virt (m_par a + 1) (m_par a)) (hsta : m_sta a = !virt)
    (hv : virt = true → ∃ c v as', as = vR c v :: as' ∧ c = m_oc a) (hw8 : m_catS st' ≤ 8) (hfit : m_catS as ≤ m_max a)
    (h : m_cl_ok l G E A stop r y σ Q a as fun rs τ => (pc + 3, ls, rs ++ st', τ)) : W p l e R s m args below meth c H locs cells slots QF (F0 m pc la (st.map (m_cv G))) := by
  obtain ⟨hx, hb, hml, hown, hts, hK, hRO, hfr, hlo, hcc, hss⟩ := id hC
  obtain ⟨pl, pk, ps, nest, pi, hm, -, hnest⟩ := m_wmat2 hM
  unfold m_mw at hm
  simp only [Bool.and_eq_true, Bool.or_eq_true, decide_eq_true_eq] at hm
  obtain ⟨⟨⟨⟨⟨⟨w1, w2⟩, w3⟩, w4⟩, w5⟩, w6⟩, w7⟩ := hm
  have hpl : plainName (m_name a).cls = true := by
    rcases w4 with (q | q) | q
    · exact absurd (m_beq q) hne.1
    · exact absurd (m_beq q) hne.2
    · exact q
  have hyw := m_wy (y := a) ha
  unfold m_yw at hyw
  have hcode := m_in_of hyw
  match r, h, hfr, hlo, hC with
  | 0, h, _, _, _ => exact h.elim
  | r' + 1, h, hfr, hlo, hC =>
    have hokA : m_okS as := fun v hv => hT v (by rw [hst]; exact List.mem_append_left _ (List.mem_reverse.mpr hv))
    have hokT : m_okS st' := fun v hv => hT v (by rw [hst]; exact List.mem_append_right _ hv)
    have hmet := m_met hz hpl hfit hokA h
    have hgood : GoodIn m_wall (m_ww a) := fun w hw => by
      rcases List.mem_cons.mp hw with rfl | hw
      · exact ⟨hcode, Or.inl rfl⟩
      · exact m_wall_good w hw
    have hini := hts _ (m_in_of w1)
    have hmap : st.map (m_cv G) = (as.map (m_cv G)).reverse ++ st'.map (m_cv G) := by rw [hst, List.map_append, List.map_reverse]
    have hW8 : ∀ (pc : Nat) (z : List Value), 2 * (F0 m pc la z).monitorRoom + ((st'.map (m_cv G)).map fun v => v.category).sum ≤ 8 := fun pc z => lv_room (by rw [m_catS_sum hz]; exact hw8)
    have hmax := (m_oky a).1
    have hroom : (m_room r').frames + 1 ≤ R.frames ∧ 8 + (m_max a + 11) + (m_room r').locals ≤ R.locals := by
      refine ⟨hfr, ?_⟩
      show 8 + (m_max a + 11) + 40 * (r' + 1) ≤ R.locals
      omega
    have hpre : ∀ U : State, U.heap = H → s.WarmedH U.vm → m_Pc G E A σ as (as.map (m_cv G)).toArray U := fun U hU hW => ⟨rfl, by rw [hU]; exact hP, va_K.moved hW.alike hK, by rw [hU]; exact m_RO_to hRO hW hS.2.1⟩
    have hcc0 : cells + 0 ≤ R.cells ∧ slots + 0 ≤ R.slots := ⟨hcc, hss⟩
    have fin : ∀ (rs : List m_V) (τ : m_M) (H1 : Heap) (locs1 : List Loc), m_okS rs → m_Snd l G E A stop (r' + 1) y (pc + 3, ls, rs ++ st', τ) Q → va_P G.1 m_cl (m_ws G E τ) H1 → va_S A s.heap H1 locs1 → W p l e R s m args below meth c H1 locs1 cells slots QF (F0 m (pc + 3) la (rs.map (m_cv G) ++ st'.map (m_cv G))) := by
      intro rs τ H1 locs1 hok hsnd hP1 hS1
      rw [← List.map_append]
      exact hsnd p e R s m args below meth c cells slots QF hC hr hs H1 locs1 la hP1 hS1 hl hL (fun v hv => by
        rcases List.mem_append.mp hv with q | q
        · exact hok v q
        · exact hokT v q)
    rw [hmap]
    cases virt with
    | false =>
      have hsta' : m_sta a = true := hsta
      rw [hsta'] at w3
      have hstat := hts _ (m_in_of w3)
      rcases w2 with w2 | w2
      · -- across a nest
        have hl8 := m_nst_nw (hnest w2) hRO
        refine m_call (va_runSN (As := as.map (m_cv G)) (rest := st'.map (m_cv G)) (g := F0 m pc la ((as.map (m_cv G)).reverse ++ st'.map (m_cv G))) (S := ⟨hx, hb, hml, hown, hts⟩) hmet ⟨va_cnB (m_par a) hts hgood rfl rfl rfl hl8 hini ⟨w5, w6, w7⟩ hroom, hstat, trivial⟩ ⟨m_blind, hpre⟩ rfl (by rw [List.length_map]; exact hn) hl.1 rfl (hW8 _ _) hd hcc0) hS (fun rs τ H1 locs1 a1 a2 a3 a4 => fin rs τ H1 locs1 a1 a2 a3 a4)
      · refine m_call (va_runS (As := as.map (m_cv G)) (rest := st'.map (m_cv G)) (g := F0 m pc la ((as.map (m_cv G)).reverse ++ st'.map (m_cv G))) (S := ⟨hx, hb, hml, hown, hts⟩) hmet ⟨callB_of (m_par a) hts hgood rfl rfl rfl hini (hts _ (m_in_of w2)) ⟨w5, w6, w7⟩ hroom, hstat⟩ ⟨m_blind, hpre⟩ rfl (by rw [List.length_map]; exact hn) hl.1 rfl (hW8 _ _) hd hcc0) hS (fun rs τ H1 locs1 a1 a2 a3 a4 => fin rs τ H1 locs1 a1 a2 a3 a4)
    | true =>
      have hsta' : m_sta a = false := hsta
      rw [hsta'] at w3
      have w3 : (m_in pk (.instanceMethod (m_name a)) && m_ins ps (.selects (m_name a).cls (m_name a) (m_name a)) && (Nat.blt (m_oc a) 7 || Nat.beq (m_oc a) 17)) = true := w3
      simp only [Bool.and_eq_true, Bool.or_eq_true] at w3
      obtain ⟨⟨v1, v2⟩, v4⟩ := w3
      obtain ⟨c', v, as', rfl, hc'⟩ := hv rfl
      have hv' : m_vr c' v = true := m_okS_h hokA
      have hrecv : ∃ cellB : Cell, H[G.2.1 c' v]? = some cellB ∧ cellB.vm.isStatics = false ∧ s.vm.findClass (m_name a).cls = some cellB.cls := by
        rw [← (m_oky a).2, ← hc']
        rw [← hc'] at v4
        rcases v4 with q | q
        · have h7 := m_c_lt q
          obtain ⟨k, hk⟩ := m_pos hv' (by omega)
          have hat := m_at (G := G) (E := E) (σ := σ) hk
          rw [m_ent_o h7] at hat
          exact va_recv hK hP (m_cl_at h7) hat
        · cases m_beq q
          have h10 : v < 10 := m_c_lt hv'
          exact vk_recv (i := v) hRO.2.2.2.2.2.1 h10 hS
      have h20 : ¬ c' = 20 := by
        rw [← hc'] at v4
        intro q
        subst q
        rcases v4 with q | q <;> cases q
      have hcv : m_cv G (vR c' v) = .ref (G.2.1 c' v) := m_cv_r h20
      have hpv : PreV s H (m_name a).cls (G.2.1 c' v) (m_Pc G E A σ (vR c' v :: as')) (as'.map (m_cv G)) := ⟨m_blind, hrecv, fun U hU hW => by
        rw [show m_Pc G E A σ (vR c' v :: as') = va_Pc ((vR c' v :: as').map (m_cv G)) _ from rfl, List.map_cons, hcv]
        exact ⟨rfl, (hpre U hU hW).2⟩⟩
      have hlen : (as'.map (m_cv G)).length = m_par a := by
        rw [List.length_map]
        have : as'.length + 1 = m_par a + 1 := hn
        omega
      have hstk : (F0 m pc la (((vR c' v :: as').map (m_cv G)).reverse ++ st'.map (m_cv G))).stack = (as'.map (m_cv G)).reverse ++ .ref (G.2.1 c' v) :: st'.map (m_cv G) := by
        show ((vR c' v :: as').map (m_cv G)).reverse ++ _ = _
        rw [List.map_cons, hcv, List.reverse_cons, List.append_assoc]
        rfl
      rcases w2 with w2 | w2
      · -- across a nest
        have hl8 := m_nst_nw (hnest w2) hRO
        exact m_call (va_runVN (C := (m_name a).cls) (b := G.2.1 c' v) (As := as'.map (m_cv G)) (rest := st'.map (m_cv G)) (g := F0 m pc la (((vR c' v :: as').map (m_cv G)).reverse ++ st'.map (m_cv G))) (S := ⟨hx, hb, hml, hown, hts⟩) hmet ⟨va_cnB (m_par a) hts hgood rfl rfl rfl hl8 hini ⟨w5, w6, w7⟩ hroom, hts _ (m_in_of v1), hts _ (m_ins_of v2)⟩ hpv rfl hlen hl.1 hstk (hW8 _ _) hd hcc0) hS (fun rs τ H1 locs1 a1 a2 a3 a4 => fin rs τ H1 locs1 a1 a2 a3 a4)
      · exact m_call (va_runV (C := (m_name a).cls) (b := G.2.1 c' v) (As := as'.map (m_cv G)) (rest := st'.map (m_cv G)) (g := F0 m pc la (((vR c' v :: as').map (m_cv G)).reverse ++ st'.map (m_cv G))) (S := ⟨hx, hb, hml, hown, hts⟩) hmet ⟨callB_of (m_par a) hts hgood rfl rfl rfl hini (hts _ (m_in_of w2)) ⟨w5, w6, w7⟩ hroom, hts _ (m_in_of v1), hts _ (m_ins_of v2)⟩ hpv rfl hlen hl.1 hstk (hW8 _ _) hd hcc0) hS (fun rs τ H1 locs1 a1 a2 a3 a4 => fin rs τ H1 locs1 a1 a2 a3 a4)
theorem m_s_max {idx : Nat} {x x2 : Int32} (hz : m_hz G) (hC : m_Cx G E A y r p R s m args c cells slots) (hl : lv_has la (m_max y) (m_lvp G 0 ls)) (hd : decode (m_bytes y) pc = .ok (.invokestatic idx, 3)) (hM : m_hasM (m_oc y) idx 160 = true) (h8 : m_catS st ≤ 8)
    (k : W p l e R s m args below meth c H locs cells slots QF (F0 m (pc + 3) la ((vI (if x < x2 then x2 else x) :: st).map (m_cv G)))) : W p l e R s m args below meth c H locs cells slots QF (F0 m pc la ((vI x2 :: vI x :: st).map (m_cv G))) := by
  obtain ⟨hx, hb, hml, hown, hts, hK, hRO, hfr, hlo, hcc, hss⟩ := id hC
  obtain ⟨pl, pk, ps, nest, pi, hm, -, hnest⟩ := m_wmat2 hM
  unfold m_mw at hm
  simp only [Bool.and_eq_true, Bool.or_eq_true, decide_eq_true_eq] at hm
  obtain ⟨⟨⟨⟨⟨⟨w1, w2⟩, w3⟩, w4⟩, w5⟩, w6⟩, w7⟩ := hm
  have w2 := w2.resolve_left (fun q => by have := m_nst_lt (hnest q); omega)
  have w3 : m_in pk (.static (m_name 160)) = true := w3
  have hcode := hts _ (m_in_of (m_wy (y := 160) (by decide)))
  rw [m_code160] at hcode
  have a1 := hts _ (m_in_of w2)
  have a2 := hts _ (m_in_of w3)
  rw [m_name160] at a1 a2
  exact va_mmax hx hb (hml.trans hl.1.symm) hown a1 a2 (hts _ (m_in_of w1)) hcode (by omega) (by rw [m_catS_sum hz]; omega) hcc hss hd k
theorem m_s_min {idx : Nat} {x x2 : Int32} (hz : m_hz G) (hC : m_Cx G E A y r p R s m args c cells slots) (hl : lv_has la (m_max y) (m_lvp G 0 ls)) (hd : decode (m_bytes y) pc = .ok (.invokestatic idx, 3)) (hM : m_hasM (m_oc y) idx 161 = true) (h8 : m_catS st ≤ 8)
    (k : W p l e R s m args below meth c H locs cells slots QF (F0 m (pc + 3) la ((vI (if x2 < x then x2 else x) :: st).map (m_cv G)))) : W p l e R s m args below meth c H locs cells slots QF (F0 m pc la ((vI x2 :: vI x :: st).map (m_cv G))) := by
  obtain ⟨hx, hb, hml, hown, hts, hK, hRO, hfr, hlo, hcc, hss⟩ := id hC
  obtain ⟨pl, pk, ps, nest, pi, hm, -, hnest⟩ := m_wmat2 hM
  unfold m_mw at hm
  simp only [Bool.and_eq_true, Bool.or_eq_true, decide_eq_true_eq] at hm
  obtain ⟨⟨⟨⟨⟨⟨w1, w2⟩, w3⟩, w4⟩, w5⟩, w6⟩, w7⟩ := hm
  have w2 := w2.resolve_left (fun q => by have := m_nst_lt (hnest q); omega)
  have w3 : m_in pk (.static (m_name 161)) = true := w3
  have hcode := hts _ (m_in_of (m_wy (y := 161) (by decide)))
  rw [m_code161] at hcode
  have a1 := hts _ (m_in_of w2)
  have a2 := hts _ (m_in_of w3)
  rw [m_name161] at a1 a2
  exact va_mmin hx hb (hml.trans hl.1.symm) hown a1 a2 (hts _ (m_in_of w1)) hcode (by omega) (by rw [m_catS_sum hz]; omega) hcc hss hd k
end Step3
