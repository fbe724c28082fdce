/-! the constructors' walks -/
def b_E2 (n : Nat) (q : Nat → Nat) (cA : Nat → ClassId) : va_E := .inr (2, [.ref (q 0)])
def b_W2 (n : Nat) (q : Nat → Nat) (cA : Nat → ClassId) : va_W := [((q 0), .inl ((cA 0), n, .inl fun _ => 0))]
def b_L2 (cA : Nat → ClassId) : b_T := [((cA 0), .int)]
set_option maxHeartbeats 8000000 in
set_option maxRecDepth 100000 in
theorem b_c2 (l : Launch) (D : va_G) (h0 sz : Nat) (n : Nat) (hn : n < 1000) : Met l b_y2 (b_ww b_y2 prog_3_method_1_code 2) { frames := 1, cells := 1, slots := n, locals := 40 } (va_Pc [.ref h0, .int (nI n)] (b_pre D h0 2 [.null] sz (fun _ => True))) (b_post D h0 2 [.null] sz (fun e1 wn t => ∃ (q : Nat → Nat) (cA : Nat → ClassId), e1 = b_E2 n q cA ∧ wn = b_W2 n q cA ∧ t = b_L2 cA)) 1 n (b_A h0 2 [.null] sz) := by
  refine Met.ofW (cc := prog_3_method_1_code) (maxL := 2) (ret := none) (by decide) rfl ?_
  intro p e s m args below meth c s₁ B hml hv
  obtain ⟨rfl, hsz, hP, hK, hB⟩ := hv
  have hx := B.exec
  have hb := B.bytes
  have hr := B.returns
  have hts : ∀ w ∈ m_wall, w.before _ s = true := fun w hw => atoms_spec (ws := b_ww b_y2 prog_3_method_1_code 2) B.pre w (List.mem_cons_of_mem _ hw)
  have hown : s.vm.findClass "AsManyAsCame$Numbers" = some m.cls := findClass_of_methodNamed B.named
  have hlocks := B.notSynchronized
  have hin : meth.name = "<init>" := (name_of_methodNamed B.named B.method).1
  subst hsz
  have hD : va_D (b_A h0 2 [.null] s.heap.size) [(h0, .inr (2, [.null]))] := b_self
  have hA : ∀ q : Nat, s.heap.size ≤ q → b_A h0 2 [.null] s.heap.size q := fun q h => Or.inr h
  have hS : va_S (b_A h0 2 [.null] s.heap.size) s.heap s.heap [] := va_S.rf
  have hl := lv_entry ([.ref h0, .int (nI n)]) (n := 2) (Nat.le_of_ble_eq_true rfl)
  rw [lg_entry_eq]
  generalize (lg_sl ([.ref h0, .int (nI n)]) ++ List.replicate (2 - (lg_sl ([.ref h0, .int (nI n)])).length) Slot.unset).toArray = ls at hl ⊢
  have hl : lv_has ls 2 [(0, .ref h0), (1, .int (nI n))] := hl
  refine lv_aload_n hx hb b_d2_0 rfl (lv_at hl 0 rfl) ?_
  refine W.objInit hx hb hown (hts _ b_w34) (hts _ b_w19) (hts _ b_w20) rfl (by rw [hml]; exact hl.1) rfl b_d2_1 (Nat.le_of_ble_eq_true rfl) (Nat.le_of_ble_eq_true rfl) ?_
  refine W.eq (g2 := F0 m 4 ls []) rfl ?_
  refine lv_aload_n hx hb b_d2_4 rfl (lv_at hl 0 rfl) ?_
  refine lv_iload_n hx hb b_d2_5 rfl (lv_at hl 1 rfl) ?_
  refine lv_iconst (v := 0) hx hb b_d2_6 (by decide) ?_
  refine va_mmax hx hb (hml.trans hl.1.symm) hown (hts _ b_w35) (hts _ b_w36) (hts _ b_w4) (hts _ b_w37) (Nat.le_of_ble_eq_true rfl) (Nat.le_of_ble_eq_true rfl) (Nat.zero_le _) (Nat.zero_le _) b_d2_7 ?_
  rw [if_neg (nI_pos (by omega))]
  refine va_newa (atype := .int) (ty := .int) (a0 := (n, .inl fun _ => 0)) hx hb (hts _ b_w42) rfl hK hP hD hS hA (fun cA => b_zI cA) (nI_pos (by omega)) (nI_clamp (by omega)) (by show n * 4 ≤ 536870912; omega) (Nat.le_of_ble_eq_true rfl) (Nat.le_of_eq (Nat.zero_add n)) b_d2_10 (fun a1 k2 H hK hP hD hS => ?_)
  have hP : va_P D m_cl ((h0, .inr (2, [.null])) :: (a1, .inl (k2, n, .inl fun _ => 0)) :: [] : va_W) H := hP
  have hD : va_D (b_A h0 2 [.null] s.heap.size) ((h0, .inr (2, [.null])) :: (a1, .inl (k2, n, .inl fun _ => 0)) :: [] : va_W) := hD
  have hK : va_K D m_cl ((k2, .int) :: [] : b_T) s := hK
  refine W.widen (k := 1) (n := n) (Nat.le_of_ble_eq_true rfl) (Nat.le_of_eq (Nat.zero_add n)) ?_
  refine va_putF (T := m_Tc 2) hx hb hts (m_uin (by decide)) (m_ty 2) (b_ty (by decide)) (b_nm (by decide)) hown hK hP hD hS 0 rfl (m_cl_at (by decide)) 0 (by decide) (hts _ b_w38) (fun _ z => z) rfl hin rfl b_d1 rfl rfl (Nat.le_of_ble_eq_true rfl) b_d2_12 (fun H locs hP hD hS => ?_)
  have hP : va_P D m_cl ((h0, .inr (2, [.ref a1])) :: (a1, .inl (k2, n, .inl fun _ => 0)) :: [] : va_W) H := hP
  have hD : va_D (b_A h0 2 [.null] s.heap.size) ((h0, .inr (2, [.ref a1])) :: (a1, .inl (k2, n, .inl fun _ => 0)) :: [] : va_W) := hD
  exact W.vret hx hb hr (fun t ht hW => ⟨⟨(_, _, _), rfl, ⟨fun i => m_nth [a1] i 0, fun i => m_nth [k2] i k2, rfl, rfl, rfl⟩, by rw [ht]; exact hP, va_K.moved hW.alike hK, hD⟩, hS.F ht⟩) hS.2.2 b_d2_15
def b_E3 (q : Nat → Nat) (cA : Nat → ClassId) : va_E := .inr (3, [.ref (q 0), .int 0, .int 0, .int 0])
def b_W3 (q : Nat → Nat) (cA : Nat → ClassId) : va_W := [((q 0), .inr (2, [.ref (q 1)])), ((q 1), .inl ((cA 0), 40, .inl fun _ => 0))]
def b_L3 (cA : Nat → ClassId) : b_T := [((cA 0), .int)]
set_option maxHeartbeats 8000000 in
set_option maxRecDepth 100000 in
theorem b_c3 (l : Launch) (D : va_G) (h0 sz : Nat) : Met l b_y3 (b_ww b_y3 prog_4_method_1_code 1) { frames := 2, cells := 2, slots := 41, locals := 80 } (va_Pc [.ref h0] (b_pre D h0 3 [.null, .int 0, .int 0, .int 0] sz (fun _ => True))) (b_post D h0 3 [.null, .int 0, .int 0, .int 0] sz (fun e1 wn t => ∃ (q : Nat → Nat) (cA : Nat → ClassId), e1 = b_E3 q cA ∧ wn = b_W3 q cA ∧ t = b_L3 cA)) 2 41 (b_A h0 3 [.null, .int 0, .int 0, .int 0] sz) := by
  refine Met.ofW (cc := prog_4_method_1_code) (maxL := 1) (ret := none) (by decide) rfl ?_
  intro p e s m args below meth c s₁ B hml hv
  obtain ⟨rfl, hsz, hP, hK, hB⟩ := hv
  have hx := B.exec
  have hb := B.bytes
  have hr := B.returns
  have hts : ∀ w ∈ m_wall, w.before _ s = true := fun w hw => atoms_spec (ws := b_ww b_y3 prog_4_method_1_code 1) B.pre w (List.mem_cons_of_mem _ hw)
  have hown : s.vm.findClass "AsManyAsCame$Row" = some m.cls := findClass_of_methodNamed B.named
  have hlocks := B.notSynchronized
  have hin : meth.name = "<init>" := (name_of_methodNamed B.named B.method).1
  subst hsz
  have hD : va_D (b_A h0 3 [.null, .int 0, .int 0, .int 0] s.heap.size) [(h0, .inr (3, [.null, .int 0, .int 0, .int 0]))] := b_self
  have hA : ∀ q : Nat, s.heap.size ≤ q → b_A h0 3 [.null, .int 0, .int 0, .int 0] s.heap.size q := fun q h => Or.inr h
  have hS : va_S (b_A h0 3 [.null, .int 0, .int 0, .int 0] s.heap.size) s.heap s.heap [] := va_S.rf
  have hl := lv_entry ([.ref h0]) (n := 1) (Nat.le_of_ble_eq_true rfl)
  rw [lg_entry_eq]
  generalize (lg_sl ([.ref h0]) ++ List.replicate (1 - (lg_sl ([.ref h0])).length) Slot.unset).toArray = ls at hl ⊢
  have hl : lv_has ls 1 [(0, .ref h0)] := hl
  refine lv_aload_n hx hb b_d3_0 rfl (lv_at hl 0 rfl) ?_
  refine W.objInit hx hb hown (hts _ b_w164) (hts _ b_w19) (hts _ b_w20) rfl (by rw [hml]; exact hl.1) rfl b_d3_1 (Nat.le_of_ble_eq_true rfl) (Nat.le_of_ble_eq_true rfl) ?_
  refine W.eq (g2 := F0 m 4 ls []) rfl ?_
  refine lv_aload_n hx hb b_d3_4 rfl (lv_at hl 0 rfl) ?_
  refine va_new (ci := 2) (fs := [.null]) (C := m_on 2) (T := m_Tc 2) (N := m_nf 2) hx hb hts (m_uin (by decide)) (m_ty 2) (b_ty (by decide)) hown (hts _ b_w165) (hts _ b_w30) (hts _ b_w3) hK hP hD hS hA (m_cl_at (by decide)) b_f2 (Nat.le_of_ble_eq_true rfl) (Nat.le_of_ble_eq_true rfl) b_d3_5 (fun a1 H hP hD hS => ?_)
  have hP : va_P D m_cl ((h0, .inr (3, [.null, .int 0, .int 0, .int 0])) :: (a1, .inr (2, [.null])) :: [] : va_W) H := hP
  have hD : va_D (b_A h0 3 [.null, .int 0, .int 0, .int 0] s.heap.size) ((h0, .inr (3, [.null, .int 0, .int 0, .int 0])) :: (a1, .inr (2, [.null])) :: [] : va_W) := hD
  refine W.widen (k := 1) (n := 1) (Nat.le_of_ble_eq_true rfl) (Nat.le_of_ble_eq_true rfl) ?_
  refine lv_dup hx hb b_d3_8 rfl ?_
  refine lv_bipush (v := nI 40) hx hb b_d3_9 (by decide) ?_
  refine b_after (k := 1) (va_runI (As := [.int (nI 40)]) (rest := [.ref a1, .ref h0]) ⟨hx, hb, hml, hown, hts⟩ (b_c2 l D a1 H.size 40 (by decide)) (cwI 1 hts (b_good b_w33) rfl rfl rfl (hts _ b_w3) (hts _ b_w166) (hts _ b_w32) rfl (by decide +kernel) ⟨(Nat.le_of_ble_eq_true rfl), (Nat.le_of_ble_eq_true rfl)⟩) (b_pres (k := 1) (fun _ _ _ _ z => z) (fun _ _ => trivial) hK hP rfl) rfl rfl hl.1 rfl (lv_room (Nat.le_of_ble_eq_true rfl)) b_d3_11 ⟨(Nat.le_of_ble_eq_true rfl), (Nat.le_of_ble_eq_true rfl)⟩) hK hP hD hS hA rfl (fun e1 wn t H locs hw hK hP hD hS => ?_)
  obtain ⟨f2, g3, rfl, rfl, rfl⟩ := hw
  have hP : va_P D m_cl ((h0, .inr (3, [.null, .int 0, .int 0, .int 0])) :: (a1, b_E2 40 f2 g3) :: b_W2 40 f2 g3 ++ ([]) : va_W) H := hP
  have hD : va_D (b_A h0 3 [.null, .int 0, .int 0, .int 0] s.heap.size) ((h0, .inr (3, [.null, .int 0, .int 0, .int 0])) :: (a1, b_E2 40 f2 g3) :: b_W2 40 f2 g3 ++ ([]) : va_W) := hD
  have hK : va_K D m_cl (b_L2 g3 ++ ([]) : b_T) s := hK
  refine W.widen (k := 2) (n := 41) (Nat.le_of_ble_eq_true rfl) (Nat.le_of_ble_eq_true rfl) ?_
  refine va_putF (T := m_Tc 3) hx hb hts (m_uin (by decide)) (m_ty 3) (b_ty (by decide)) (b_nm (by decide)) hown hK hP hD hS 0 rfl (m_cl_at (by decide)) 0 (by decide) (hts _ b_w167) (fun _ z => z) rfl hin rfl b_d6 rfl rfl (Nat.le_of_ble_eq_true rfl) b_d3_14 (fun H locs hP hD hS => ?_)
  have hP : va_P D m_cl ((h0, .inr (3, [.ref a1, .int 0, .int 0, .int 0])) :: (a1, b_E2 40 f2 g3) :: b_W2 40 f2 g3 ++ ([]) : va_W) H := hP
  have hD : va_D (b_A h0 3 [.null, .int 0, .int 0, .int 0] s.heap.size) ((h0, .inr (3, [.ref a1, .int 0, .int 0, .int 0])) :: (a1, b_E2 40 f2 g3) :: b_W2 40 f2 g3 ++ ([]) : va_W) := hD
  refine lv_aload_n hx hb b_d3_17 rfl (lv_at hl 0 rfl) ?_
  refine lv_iconst (v := 0) hx hb b_d3_18 (by decide) ?_
  refine va_put (T := m_Tc 3) hx hb hts (m_uin (by decide)) (m_ty 3) (b_ty (by decide)) (b_nm (by decide)) hown hK hP hD hS 0 rfl (m_cl_at (by decide)) 1 (by decide) (hts _ b_w170) (fun _ z => z) rfl b_d3 rfl rfl (Nat.le_of_ble_eq_true rfl) b_d3_19 (fun H locs hP hD hS => ?_)
  have hP : va_P D m_cl ((h0, .inr (3, [.ref a1, .int 0, .int 0, .int 0])) :: (a1, b_E2 40 f2 g3) :: b_W2 40 f2 g3 ++ ([]) : va_W) H := hP
  have hD : va_D (b_A h0 3 [.null, .int 0, .int 0, .int 0] s.heap.size) ((h0, .inr (3, [.ref a1, .int 0, .int 0, .int 0])) :: (a1, b_E2 40 f2 g3) :: b_W2 40 f2 g3 ++ ([]) : va_W) := hD
  refine lv_aload_n hx hb b_d3_22 rfl (lv_at hl 0 rfl) ?_
  refine lv_iconst (v := 0) hx hb b_d3_23 (by decide) ?_
  refine va_put (T := m_Tc 3) hx hb hts (m_uin (by decide)) (m_ty 3) (b_ty (by decide)) (b_nm (by decide)) hown hK hP hD hS 0 rfl (m_cl_at (by decide)) 2 (by decide) (hts _ b_w172) (fun _ z => z) rfl b_d2 rfl rfl (Nat.le_of_ble_eq_true rfl) b_d3_24 (fun H locs hP hD hS => ?_)
  have hP : va_P D m_cl ((h0, .inr (3, [.ref a1, .int 0, .int 0, .int 0])) :: (a1, b_E2 40 f2 g3) :: b_W2 40 f2 g3 ++ ([]) : va_W) H := hP
  have hD : va_D (b_A h0 3 [.null, .int 0, .int 0, .int 0] s.heap.size) ((h0, .inr (3, [.ref a1, .int 0, .int 0, .int 0])) :: (a1, b_E2 40 f2 g3) :: b_W2 40 f2 g3 ++ ([]) : va_W) := hD
  refine lv_aload_n hx hb b_d3_27 rfl (lv_at hl 0 rfl) ?_
  refine lv_iconst (v := 0) hx hb b_d3_28 (by decide) ?_
  refine va_put (T := m_Tc 3) hx hb hts (m_uin (by decide)) (m_ty 3) (b_ty (by decide)) (b_nm (by decide)) hown hK hP hD hS 0 rfl (m_cl_at (by decide)) 3 (by decide) (hts _ b_w174) (fun _ z => z) rfl b_d2 rfl rfl (Nat.le_of_ble_eq_true rfl) b_d3_29 (fun H locs hP hD hS => ?_)
  have hP : va_P D m_cl ((h0, .inr (3, [.ref a1, .int 0, .int 0, .int 0])) :: (a1, b_E2 40 f2 g3) :: b_W2 40 f2 g3 ++ ([]) : va_W) H := hP
  have hD : va_D (b_A h0 3 [.null, .int 0, .int 0, .int 0] s.heap.size) ((h0, .inr (3, [.ref a1, .int 0, .int 0, .int 0])) :: (a1, b_E2 40 f2 g3) :: b_W2 40 f2 g3 ++ ([]) : va_W) := hD
  exact W.vret hx hb hr (fun t ht hW => ⟨⟨(_, _, _), rfl, ⟨fun i => m_nth [a1, (f2 0)] i 0, fun i => m_nth [(g3 0)] i (g3 0), rfl, rfl, rfl⟩, by rw [ht]; exact hP, va_K.moved hW.alike hK, hD⟩, hS.F ht⟩) hS.2.2 b_d3_32
def b_E4 (q : Nat → Nat) (cA : Nat → ClassId) : va_E := .inr (4, [.ref (q 0), .int 0, .int 0, .int 0, .int 0, .int 0])
def b_W4 (q : Nat → Nat) (cA : Nat → ClassId) : va_W := [((q 0), .inr (2, [.ref (q 1)])), ((q 1), .inl ((cA 0), 500, .inl fun _ => 0))]
def b_L4 (cA : Nat → ClassId) : b_T := [((cA 0), .int)]
set_option maxHeartbeats 8000000 in
set_option maxRecDepth 100000 in
theorem b_c4 (l : Launch) (D : va_G) (h0 sz : Nat) : Met l b_y4 (b_ww b_y4 prog_5_method_1_code 1) { frames := 2, cells := 2, slots := 501, locals := 80 } (va_Pc [.ref h0] (b_pre D h0 4 [.null, .int 0, .int 0, .int 0, .int 0, .int 0] sz (fun _ => True))) (b_post D h0 4 [.null, .int 0, .int 0, .int 0, .int 0, .int 0] sz (fun e1 wn t => ∃ (q : Nat → Nat) (cA : Nat → ClassId), e1 = b_E4 q cA ∧ wn = b_W4 q cA ∧ t = b_L4 cA)) 2 501 (b_A h0 4 [.null, .int 0, .int 0, .int 0, .int 0, .int 0] sz) := by
  refine Met.ofW (cc := prog_5_method_1_code) (maxL := 1) (ret := none) (by decide) rfl ?_
  intro p e s m args below meth c s₁ B hml hv
  obtain ⟨rfl, hsz, hP, hK, hB⟩ := hv
  have hx := B.exec
  have hb := B.bytes
  have hr := B.returns
  have hts : ∀ w ∈ m_wall, w.before _ s = true := fun w hw => atoms_spec (ws := b_ww b_y4 prog_5_method_1_code 1) B.pre w (List.mem_cons_of_mem _ hw)
  have hown : s.vm.findClass "AsManyAsCame$Tape" = some m.cls := findClass_of_methodNamed B.named
  have hlocks := B.notSynchronized
  have hin : meth.name = "<init>" := (name_of_methodNamed B.named B.method).1
  subst hsz
  have hD : va_D (b_A h0 4 [.null, .int 0, .int 0, .int 0, .int 0, .int 0] s.heap.size) [(h0, .inr (4, [.null, .int 0, .int 0, .int 0, .int 0, .int 0]))] := b_self
  have hA : ∀ q : Nat, s.heap.size ≤ q → b_A h0 4 [.null, .int 0, .int 0, .int 0, .int 0, .int 0] s.heap.size q := fun q h => Or.inr h
  have hS : va_S (b_A h0 4 [.null, .int 0, .int 0, .int 0, .int 0, .int 0] s.heap.size) s.heap s.heap [] := va_S.rf
  have hl := lv_entry ([.ref h0]) (n := 1) (Nat.le_of_ble_eq_true rfl)
  rw [lg_entry_eq]
  generalize (lg_sl ([.ref h0]) ++ List.replicate (1 - (lg_sl ([.ref h0])).length) Slot.unset).toArray = ls at hl ⊢
  have hl : lv_has ls 1 [(0, .ref h0)] := hl
  refine lv_aload_n hx hb b_d4_0 rfl (lv_at hl 0 rfl) ?_
  refine W.objInit hx hb hown (hts _ b_w28) (hts _ b_w19) (hts _ b_w20) rfl (by rw [hml]; exact hl.1) rfl b_d4_1 (Nat.le_of_ble_eq_true rfl) (Nat.le_of_ble_eq_true rfl) ?_
  refine W.eq (g2 := F0 m 4 ls []) rfl ?_
  refine lv_aload_n hx hb b_d4_4 rfl (lv_at hl 0 rfl) ?_
  refine va_new (ci := 2) (fs := [.null]) (C := m_on 2) (T := m_Tc 2) (N := m_nf 2) hx hb hts (m_uin (by decide)) (m_ty 2) (b_ty (by decide)) hown (hts _ b_w29) (hts _ b_w30) (hts _ b_w3) hK hP hD hS hA (m_cl_at (by decide)) b_f2 (Nat.le_of_ble_eq_true rfl) (Nat.le_of_ble_eq_true rfl) b_d4_5 (fun a1 H hP hD hS => ?_)
  have hP : va_P D m_cl ((h0, .inr (4, [.null, .int 0, .int 0, .int 0, .int 0, .int 0])) :: (a1, .inr (2, [.null])) :: [] : va_W) H := hP
  have hD : va_D (b_A h0 4 [.null, .int 0, .int 0, .int 0, .int 0, .int 0] s.heap.size) ((h0, .inr (4, [.null, .int 0, .int 0, .int 0, .int 0, .int 0])) :: (a1, .inr (2, [.null])) :: [] : va_W) := hD
  refine W.widen (k := 1) (n := 1) (Nat.le_of_ble_eq_true rfl) (Nat.le_of_ble_eq_true rfl) ?_
  refine lv_dup hx hb b_d4_8 rfl ?_
  refine lv_sipush (v := nI 500) hx hb b_d4_9 (by decide) ?_
  refine b_after (k := 1) (va_runI (As := [.int (nI 500)]) (rest := [.ref a1, .ref h0]) ⟨hx, hb, hml, hown, hts⟩ (b_c2 l D a1 H.size 500 (by decide)) (cwI 1 hts (b_good b_w33) rfl rfl rfl (hts _ b_w3) (hts _ b_w31) (hts _ b_w32) rfl (by decide +kernel) ⟨(Nat.le_of_ble_eq_true rfl), (Nat.le_of_ble_eq_true rfl)⟩) (b_pres (k := 1) (fun _ _ _ _ z => z) (fun _ _ => trivial) hK hP rfl) rfl rfl hl.1 rfl (lv_room (Nat.le_of_ble_eq_true rfl)) b_d4_12 ⟨(Nat.le_of_ble_eq_true rfl), (Nat.le_of_ble_eq_true rfl)⟩) hK hP hD hS hA rfl (fun e1 wn t H locs hw hK hP hD hS => ?_)
  obtain ⟨f2, g3, rfl, rfl, rfl⟩ := hw
  have hP : va_P D m_cl ((h0, .inr (4, [.null, .int 0, .int 0, .int 0, .int 0, .int 0])) :: (a1, b_E2 500 f2 g3) :: b_W2 500 f2 g3 ++ ([]) : va_W) H := hP
  have hD : va_D (b_A h0 4 [.null, .int 0, .int 0, .int 0, .int 0, .int 0] s.heap.size) ((h0, .inr (4, [.null, .int 0, .int 0, .int 0, .int 0, .int 0])) :: (a1, b_E2 500 f2 g3) :: b_W2 500 f2 g3 ++ ([]) : va_W) := hD
  have hK : va_K D m_cl (b_L2 g3 ++ ([]) : b_T) s := hK
  refine W.widen (k := 2) (n := 501) (Nat.le_of_ble_eq_true rfl) (Nat.le_of_ble_eq_true rfl) ?_
  refine va_putF (T := m_Tc 4) hx hb hts (m_uin (by decide)) (m_ty 4) (b_ty (by decide)) (b_nm (by decide)) hown hK hP hD hS 0 rfl (m_cl_at (by decide)) 0 (by decide) (hts _ b_w43) (fun _ z => z) rfl hin rfl b_d6 rfl rfl (Nat.le_of_ble_eq_true rfl) b_d4_15 (fun H locs hP hD hS => ?_)
  have hP : va_P D m_cl ((h0, .inr (4, [.ref a1, .int 0, .int 0, .int 0, .int 0, .int 0])) :: (a1, b_E2 500 f2 g3) :: b_W2 500 f2 g3 ++ ([]) : va_W) H := hP
  have hD : va_D (b_A h0 4 [.null, .int 0, .int 0, .int 0, .int 0, .int 0] s.heap.size) ((h0, .inr (4, [.ref a1, .int 0, .int 0, .int 0, .int 0, .int 0])) :: (a1, b_E2 500 f2 g3) :: b_W2 500 f2 g3 ++ ([]) : va_W) := hD
  refine lv_aload_n hx hb b_d4_18 rfl (lv_at hl 0 rfl) ?_
  refine lv_iconst (v := 0) hx hb b_d4_19 (by decide) ?_
  refine va_put (T := m_Tc 4) hx hb hts (m_uin (by decide)) (m_ty 4) (b_ty (by decide)) (b_nm (by decide)) hown hK hP hD hS 0 rfl (m_cl_at (by decide)) 1 (by decide) (hts _ b_w44) (fun _ z => z) rfl b_d2 rfl rfl (Nat.le_of_ble_eq_true rfl) b_d4_20 (fun H locs hP hD hS => ?_)
  have hP : va_P D m_cl ((h0, .inr (4, [.ref a1, .int 0, .int 0, .int 0, .int 0, .int 0])) :: (a1, b_E2 500 f2 g3) :: b_W2 500 f2 g3 ++ ([]) : va_W) H := hP
  have hD : va_D (b_A h0 4 [.null, .int 0, .int 0, .int 0, .int 0, .int 0] s.heap.size) ((h0, .inr (4, [.ref a1, .int 0, .int 0, .int 0, .int 0, .int 0])) :: (a1, b_E2 500 f2 g3) :: b_W2 500 f2 g3 ++ ([]) : va_W) := hD
  refine lv_aload_n hx hb b_d4_23 rfl (lv_at hl 0 rfl) ?_
  refine lv_iconst (v := 0) hx hb b_d4_24 (by decide) ?_
  refine va_put (T := m_Tc 4) hx hb hts (m_uin (by decide)) (m_ty 4) (b_ty (by decide)) (b_nm (by decide)) hown hK hP hD hS 0 rfl (m_cl_at (by decide)) 2 (by decide) (hts _ b_w46) (fun _ z => z) rfl b_d2 rfl rfl (Nat.le_of_ble_eq_true rfl) b_d4_25 (fun H locs hP hD hS => ?_)
  have hP : va_P D m_cl ((h0, .inr (4, [.ref a1, .int 0, .int 0, .int 0, .int 0, .int 0])) :: (a1, b_E2 500 f2 g3) :: b_W2 500 f2 g3 ++ ([]) : va_W) H := hP
  have hD : va_D (b_A h0 4 [.null, .int 0, .int 0, .int 0, .int 0, .int 0] s.heap.size) ((h0, .inr (4, [.ref a1, .int 0, .int 0, .int 0, .int 0, .int 0])) :: (a1, b_E2 500 f2 g3) :: b_W2 500 f2 g3 ++ ([]) : va_W) := hD
  refine lv_aload_n hx hb b_d4_28 rfl (lv_at hl 0 rfl) ?_
  refine lv_iconst (v := 0) hx hb b_d4_29 (by decide) ?_
  refine va_put (T := m_Tc 4) hx hb hts (m_uin (by decide)) (m_ty 4) (b_ty (by decide)) (b_nm (by decide)) hown hK hP hD hS 0 rfl (m_cl_at (by decide)) 3 (by decide) (hts _ b_w48) (fun _ z => z) rfl b_d2 rfl rfl (Nat.le_of_ble_eq_true rfl) b_d4_30 (fun H locs hP hD hS => ?_)
  have hP : va_P D m_cl ((h0, .inr (4, [.ref a1, .int 0, .int 0, .int 0, .int 0, .int 0])) :: (a1, b_E2 500 f2 g3) :: b_W2 500 f2 g3 ++ ([]) : va_W) H := hP
  have hD : va_D (b_A h0 4 [.null, .int 0, .int 0, .int 0, .int 0, .int 0] s.heap.size) ((h0, .inr (4, [.ref a1, .int 0, .int 0, .int 0, .int 0, .int 0])) :: (a1, b_E2 500 f2 g3) :: b_W2 500 f2 g3 ++ ([]) : va_W) := hD
  refine lv_aload_n hx hb b_d4_33 rfl (lv_at hl 0 rfl) ?_
  refine lv_iconst (v := 0) hx hb b_d4_34 (by decide) ?_
  refine va_put (T := m_Tc 4) hx hb hts (m_uin (by decide)) (m_ty 4) (b_ty (by decide)) (b_nm (by decide)) hown hK hP hD hS 0 rfl (m_cl_at (by decide)) 4 (by decide) (hts _ b_w49) (fun _ z => z) rfl b_d2 rfl rfl (Nat.le_of_ble_eq_true rfl) b_d4_35 (fun H locs hP hD hS => ?_)
  have hP : va_P D m_cl ((h0, .inr (4, [.ref a1, .int 0, .int 0, .int 0, .int 0, .int 0])) :: (a1, b_E2 500 f2 g3) :: b_W2 500 f2 g3 ++ ([]) : va_W) H := hP
  have hD : va_D (b_A h0 4 [.null, .int 0, .int 0, .int 0, .int 0, .int 0] s.heap.size) ((h0, .inr (4, [.ref a1, .int 0, .int 0, .int 0, .int 0, .int 0])) :: (a1, b_E2 500 f2 g3) :: b_W2 500 f2 g3 ++ ([]) : va_W) := hD
  refine lv_aload_n hx hb b_d4_38 rfl (lv_at hl 0 rfl) ?_
  refine lv_iconst (v := 0) hx hb b_d4_39 (by decide) ?_
  refine va_put (T := m_Tc 4) hx hb hts (m_uin (by decide)) (m_ty 4) (b_ty (by decide)) (b_nm (by decide)) hown hK hP hD hS 0 rfl (m_cl_at (by decide)) 5 (by decide) (hts _ b_w50) (fun _ z => z) rfl b_d2 rfl rfl (Nat.le_of_ble_eq_true rfl) b_d4_40 (fun H locs hP hD hS => ?_)
  have hP : va_P D m_cl ((h0, .inr (4, [.ref a1, .int 0, .int 0, .int 0, .int 0, .int 0])) :: (a1, b_E2 500 f2 g3) :: b_W2 500 f2 g3 ++ ([]) : va_W) H := hP
  have hD : va_D (b_A h0 4 [.null, .int 0, .int 0, .int 0, .int 0, .int 0] s.heap.size) ((h0, .inr (4, [.ref a1, .int 0, .int 0, .int 0, .int 0, .int 0])) :: (a1, b_E2 500 f2 g3) :: b_W2 500 f2 g3 ++ ([]) : va_W) := hD
  exact W.vret hx hb hr (fun t ht hW => ⟨⟨(_, _, _), rfl, ⟨fun i => m_nth [a1, (f2 0)] i 0, fun i => m_nth [(g3 0)] i (g3 0), rfl, rfl, rfl⟩, by rw [ht]; exact hP, va_K.moved hW.alike hK, hD⟩, hS.F ht⟩) hS.2.2 b_d4_43
def b_E5 (q : Nat → Nat) (cA : Nat → ClassId) : va_E := .inr (5, [.int 0, .int 0, .int 0, .int 0, .int 0, .int 0, .int 0, .int 0, .int 0, .int 0, .ref (q 0), .ref (q 2), .ref (q 4), .ref (q 6), .ref (q 8)])
def b_W5 (q : Nat → Nat) (cA : Nat → ClassId) : va_W := [((q 0), .inr (2, [.ref (q 1)])), ((q 1), .inl ((cA 0), 60, .inl fun _ => 0)), ((q 2), .inr (2, [.ref (q 3)])), ((q 3), .inl ((cA 1), 60, .inl fun _ => 0)), ((q 4), .inr (2, [.ref (q 5)])), ((q 5), .inl ((cA 2), 60, .inl fun _ => 0)), ((q 6), .inr (2, [.ref (q 7)])), ((q 7), .inl ((cA 3), 60, .inl fun _ => 0)), ((q 8), .inr (2, [.ref (q 9)])), ((q 9), .inl ((cA 4), 60, .inl fun _ => 0))]
def b_L5 (cA : Nat → ClassId) : b_T := [((cA 0), .int), ((cA 1), .int), ((cA 2), .int), ((cA 3), .int), ((cA 4), .int)]
set_option maxHeartbeats 8000000 in
set_option maxRecDepth 100000 in
theorem b_c5 (l : Launch) (D : va_G) (h0 sz : Nat) : Met l b_y5 (b_ww b_y5 prog_6_method_1_code 1) { frames := 2, cells := 10, slots := 305, locals := 80 } (va_Pc [.ref h0] (b_pre D h0 5 [.int 0, .int 0, .int 0, .int 0, .int 0, .int 0, .int 0, .int 0, .int 0, .int 0, .null, .null, .null, .null, .null] sz (fun _ => True))) (b_post D h0 5 [.int 0, .int 0, .int 0, .int 0, .int 0, .int 0, .int 0, .int 0, .int 0, .int 0, .null, .null, .null, .null, .null] sz (fun e1 wn t => ∃ (q : Nat → Nat) (cA : Nat → ClassId), e1 = b_E5 q cA ∧ wn = b_W5 q cA ∧ t = b_L5 cA)) 10 305 (b_A h0 5 [.int 0, .int 0, .int 0, .int 0, .int 0, .int 0, .int 0, .int 0, .int 0, .int 0, .null, .null, .null, .null, .null] sz) := by
  refine Met.ofW (cc := prog_6_method_1_code) (maxL := 1) (ret := none) (by decide) rfl ?_
  intro p e s m args below meth c s₁ B hml hv
  obtain ⟨rfl, hsz, hP, hK, hB⟩ := hv
  have hx := B.exec
  have hb := B.bytes
  have hr := B.returns
  have hts : ∀ w ∈ m_wall, w.before _ s = true := fun w hw => atoms_spec (ws := b_ww b_y5 prog_6_method_1_code 1) B.pre w (List.mem_cons_of_mem _ hw)
  have hown : s.vm.findClass "AsManyAsCame$Town" = some m.cls := findClass_of_methodNamed B.named
  have hlocks := B.notSynchronized
  have hin : meth.name = "<init>" := (name_of_methodNamed B.named B.method).1
  subst hsz
  have hD : va_D (b_A h0 5 [.int 0, .int 0, .int 0, .int 0, .int 0, .int 0, .int 0, .int 0, .int 0, .int 0, .null, .null, .null, .null, .null] s.heap.size) [(h0, .inr (5, [.int 0, .int 0, .int 0, .int 0, .int 0, .int 0, .int 0, .int 0, .int 0, .int 0, .null, .null, .null, .null, .null]))] := b_self
  have hA : ∀ q : Nat, s.heap.size ≤ q → b_A h0 5 [.int 0, .int 0, .int 0, .int 0, .int 0, .int 0, .int 0, .int 0, .int 0, .int 0, .null, .null, .null, .null, .null] s.heap.size q := fun q h => Or.inr h
  have hS : va_S (b_A h0 5 [.int 0, .int 0, .int 0, .int 0, .int 0, .int 0, .int 0, .int 0, .int 0, .int 0, .null, .null, .null, .null, .null] s.heap.size) s.heap s.heap [] := va_S.rf
  have hl := lv_entry ([.ref h0]) (n := 1) (Nat.le_of_ble_eq_true rfl)
  rw [lg_entry_eq]
  generalize (lg_sl ([.ref h0]) ++ List.replicate (1 - (lg_sl ([.ref h0])).length) Slot.unset).toArray = ls at hl ⊢
  have hl : lv_has ls 1 [(0, .ref h0)] := hl
  refine lv_aload_n hx hb b_d5_0 rfl (lv_at hl 0 rfl) ?_
  refine W.objInit hx hb hown (hts _ b_w70) (hts _ b_w19) (hts _ b_w20) rfl (by rw [hml]; exact hl.1) rfl b_d5_1 (Nat.le_of_ble_eq_true rfl) (Nat.le_of_ble_eq_true rfl) ?_
  refine W.eq (g2 := F0 m 4 ls []) rfl ?_
  refine lv_aload_n hx hb b_d5_4 rfl (lv_at hl 0 rfl) ?_
  refine lv_iconst (v := 0) hx hb b_d5_5 (by decide) ?_
  refine va_put (T := m_Tc 5) hx hb hts (m_uin (by decide)) (m_ty 5) (b_ty (by decide)) (b_nm (by decide)) hown hK hP hD hS 0 rfl (m_cl_at (by decide)) 0 (by decide) (hts _ b_w73) (fun _ z => z) rfl b_d3 rfl rfl (Nat.le_of_ble_eq_true rfl) b_d5_6 (fun H locs hP hD hS => ?_)
  have hP : va_P D m_cl ((h0, .inr (5, [.int 0, .int 0, .int 0, .int 0, .int 0, .int 0, .int 0, .int 0, .int 0, .int 0, .null, .null, .null, .null, .null])) :: [] : va_W) H := hP
  have hD : va_D (b_A h0 5 [.int 0, .int 0, .int 0, .int 0, .int 0, .int 0, .int 0, .int 0, .int 0, .int 0, .null, .null, .null, .null, .null] s.heap.size) ((h0, .inr (5, [.int 0, .int 0, .int 0, .int 0, .int 0, .int 0, .int 0, .int 0, .int 0, .int 0, .null, .null, .null, .null, .null])) :: [] : va_W) := hD
  refine lv_aload_n hx hb b_d5_9 rfl (lv_at hl 0 rfl) ?_
  refine lv_iconst (v := 0) hx hb b_d5_10 (by decide) ?_
  refine va_put (T := m_Tc 5) hx hb hts (m_uin (by decide)) (m_ty 5) (b_ty (by decide)) (b_nm (by decide)) hown hK hP hD hS 0 rfl (m_cl_at (by decide)) 1 (by decide) (hts _ b_w76) (fun _ z => z) rfl b_d2 rfl rfl (Nat.le_of_ble_eq_true rfl) b_d5_11 (fun H locs hP hD hS => ?_)
  have hP : va_P D m_cl ((h0, .inr (5, [.int 0, .int 0, .int 0, .int 0, .int 0, .int 0, .int 0, .int 0, .int 0, .int 0, .null, .null, .null, .null, .null])) :: [] : va_W) H := hP
  have hD : va_D (b_A h0 5 [.int 0, .int 0, .int 0, .int 0, .int 0, .int 0, .int 0, .int 0, .int 0, .int 0, .null, .null, .null, .null, .null] s.heap.size) ((h0, .inr (5, [.int 0, .int 0, .int 0, .int 0, .int 0, .int 0, .int 0, .int 0, .int 0, .int 0, .null, .null, .null, .null, .null])) :: [] : va_W) := hD
  refine lv_aload_n hx hb b_d5_14 rfl (lv_at hl 0 rfl) ?_
  refine lv_iconst (v := 0) hx hb b_d5_15 (by decide) ?_
  refine va_put (T := m_Tc 5) hx hb hts (m_uin (by decide)) (m_ty 5) (b_ty (by decide)) (b_nm (by decide)) hown hK hP hD hS 0 rfl (m_cl_at (by decide)) 2 (by decide) (hts _ b_w78) (fun _ z => z) rfl b_d2 rfl rfl (Nat.le_of_ble_eq_true rfl) b_d5_16 (fun H locs hP hD hS => ?_)
  have hP : va_P D m_cl ((h0, .inr (5, [.int 0, .int 0, .int 0, .int 0, .int 0, .int 0, .int 0, .int 0, .int 0, .int 0, .null, .null, .null, .null, .null])) :: [] : va_W) H := hP
  have hD : va_D (b_A h0 5 [.int 0, .int 0, .int 0, .int 0, .int 0, .int 0, .int 0, .int 0, .int 0, .int 0, .null, .null, .null, .null, .null] s.heap.size) ((h0, .inr (5, [.int 0, .int 0, .int 0, .int 0, .int 0, .int 0, .int 0, .int 0, .int 0, .int 0, .null, .null, .null, .null, .null])) :: [] : va_W) := hD
  refine lv_aload_n hx hb b_d5_19 rfl (lv_at hl 0 rfl) ?_
  refine lv_iconst (v := 0) hx hb b_d5_20 (by decide) ?_
  refine va_put (T := m_Tc 5) hx hb hts (m_uin (by decide)) (m_ty 5) (b_ty (by decide)) (b_nm (by decide)) hown hK hP hD hS 0 rfl (m_cl_at (by decide)) 3 (by decide) (hts _ b_w81) (fun _ z => z) rfl b_d2 rfl rfl (Nat.le_of_ble_eq_true rfl) b_d5_21 (fun H locs hP hD hS => ?_)
  have hP : va_P D m_cl ((h0, .inr (5, [.int 0, .int 0, .int 0, .int 0, .int 0, .int 0, .int 0, .int 0, .int 0, .int 0, .null, .null, .null, .null, .null])) :: [] : va_W) H := hP
  have hD : va_D (b_A h0 5 [.int 0, .int 0, .int 0, .int 0, .int 0, .int 0, .int 0, .int 0, .int 0, .int 0, .null, .null, .null, .null, .null] s.heap.size) ((h0, .inr (5, [.int 0, .int 0, .int 0, .int 0, .int 0, .int 0, .int 0, .int 0, .int 0, .int 0, .null, .null, .null, .null, .null])) :: [] : va_W) := hD
  refine lv_aload_n hx hb b_d5_24 rfl (lv_at hl 0 rfl) ?_
  refine lv_iconst (v := 0) hx hb b_d5_25 (by decide) ?_
  refine va_put (T := m_Tc 5) hx hb hts (m_uin (by decide)) (m_ty 5) (b_ty (by decide)) (b_nm (by decide)) hown hK hP hD hS 0 rfl (m_cl_at (by decide)) 4 (by decide) (hts _ b_w83) (fun _ z => z) rfl b_d2 rfl rfl (Nat.le_of_ble_eq_true rfl) b_d5_26 (fun H locs hP hD hS => ?_)
  have hP : va_P D m_cl ((h0, .inr (5, [.int 0, .int 0, .int 0, .int 0, .int 0, .int 0, .int 0, .int 0, .int 0, .int 0, .null, .null, .null, .null, .null])) :: [] : va_W) H := hP
  have hD : va_D (b_A h0 5 [.int 0, .int 0, .int 0, .int 0, .int 0, .int 0, .int 0, .int 0, .int 0, .int 0, .null, .null, .null, .null, .null] s.heap.size) ((h0, .inr (5, [.int 0, .int 0, .int 0, .int 0, .int 0, .int 0, .int 0, .int 0, .int 0, .int 0, .null, .null, .null, .null, .null])) :: [] : va_W) := hD
  refine lv_aload_n hx hb b_d5_29 rfl (lv_at hl 0 rfl) ?_
  refine lv_iconst (v := 0) hx hb b_d5_30 (by decide) ?_
  refine va_put (T := m_Tc 5) hx hb hts (m_uin (by decide)) (m_ty 5) (b_ty (by decide)) (b_nm (by decide)) hown hK hP hD hS 0 rfl (m_cl_at (by decide)) 5 (by decide) (hts _ b_w86) (fun _ z => z) rfl b_d2 rfl rfl (Nat.le_of_ble_eq_true rfl) b_d5_31 (fun H locs hP hD hS => ?_)
  have hP : va_P D m_cl ((h0, .inr (5, [.int 0, .int 0, .int 0, .int 0, .int 0, .int 0, .int 0, .int 0, .int 0, .int 0, .null, .null, .null, .null, .null])) :: [] : va_W) H := hP
  have hD : va_D (b_A h0 5 [.int 0, .int 0, .int 0, .int 0, .int 0, .int 0, .int 0, .int 0, .int 0, .int 0, .null, .null, .null, .null, .null] s.heap.size) ((h0, .inr (5, [.int 0, .int 0, .int 0, .int 0, .int 0, .int 0, .int 0, .int 0, .int 0, .int 0, .null, .null, .null, .null, .null])) :: [] : va_W) := hD
  refine lv_aload_n hx hb b_d5_34 rfl (lv_at hl 0 rfl) ?_
  refine lv_iconst (v := 0) hx hb b_d5_35 (by decide) ?_
  refine va_put (T := m_Tc 5) hx hb hts (m_uin (by decide)) (m_ty 5) (b_ty (by decide)) (b_nm (by decide)) hown hK hP hD hS 0 rfl (m_cl_at (by decide)) 6 (by decide) (hts _ b_w88) (fun _ z => z) rfl b_d2 rfl rfl (Nat.le_of_ble_eq_true rfl) b_d5_36 (fun H locs hP hD hS => ?_)
  have hP : va_P D m_cl ((h0, .inr (5, [.int 0, .int 0, .int 0, .int 0, .int 0, .int 0, .int 0, .int 0, .int 0, .int 0, .null, .null, .null, .null, .null])) :: [] : va_W) H := hP
  have hD : va_D (b_A h0 5 [.int 0, .int 0, .int 0, .int 0, .int 0, .int 0, .int 0, .int 0, .int 0, .int 0, .null, .null, .null, .null, .null] s.heap.size) ((h0, .inr (5, [.int 0, .int 0, .int 0, .int 0, .int 0, .int 0, .int 0, .int 0, .int 0, .int 0, .null, .null, .null, .null, .null])) :: [] : va_W) := hD
  refine lv_aload_n hx hb b_d5_39 rfl (lv_at hl 0 rfl) ?_
  refine lv_iconst (v := 0) hx hb b_d5_40 (by decide) ?_
  refine va_put (T := m_Tc 5) hx hb hts (m_uin (by decide)) (m_ty 5) (b_ty (by decide)) (b_nm (by decide)) hown hK hP hD hS 0 rfl (m_cl_at (by decide)) 7 (by decide) (hts _ b_w90) (fun _ z => z) rfl b_d2 rfl rfl (Nat.le_of_ble_eq_true rfl) b_d5_41 (fun H locs hP hD hS => ?_)
  have hP : va_P D m_cl ((h0, .inr (5, [.int 0, .int 0, .int 0, .int 0, .int 0, .int 0, .int 0, .int 0, .int 0, .int 0, .null, .null, .null, .null, .null])) :: [] : va_W) H := hP
  have hD : va_D (b_A h0 5 [.int 0, .int 0, .int 0, .int 0, .int 0, .int 0, .int 0, .int 0, .int 0, .int 0, .null, .null, .null, .null, .null] s.heap.size) ((h0, .inr (5, [.int 0, .int 0, .int 0, .int 0, .int 0, .int 0, .int 0, .int 0, .int 0, .int 0, .null, .null, .null, .null, .null])) :: [] : va_W) := hD
  refine lv_aload_n hx hb b_d5_44 rfl (lv_at hl 0 rfl) ?_
  refine lv_iconst (v := 0) hx hb b_d5_45 (by decide) ?_
  refine va_put (T := m_Tc 5) hx hb hts (m_uin (by decide)) (m_ty 5) (b_ty (by decide)) (b_nm (by decide)) hown hK hP hD hS 0 rfl (m_cl_at (by decide)) 8 (by decide) (hts _ b_w92) (fun _ z => z) rfl b_d2 rfl rfl (Nat.le_of_ble_eq_true rfl) b_d5_46 (fun H locs hP hD hS => ?_)
  have hP : va_P D m_cl ((h0, .inr (5, [.int 0, .int 0, .int 0, .int 0, .int 0, .int 0, .int 0, .int 0, .int 0, .int 0, .null, .null, .null, .null, .null])) :: [] : va_W) H := hP
  have hD : va_D (b_A h0 5 [.int 0, .int 0, .int 0, .int 0, .int 0, .int 0, .int 0, .int 0, .int 0, .int 0, .null, .null, .null, .null, .null] s.heap.size) ((h0, .inr (5, [.int 0, .int 0, .int 0, .int 0, .int 0, .int 0, .int 0, .int 0, .int 0, .int 0, .null, .null, .null, .null, .null])) :: [] : va_W) := hD
  refine lv_aload_n hx hb b_d5_49 rfl (lv_at hl 0 rfl) ?_
  refine lv_iconst (v := 0) hx hb b_d5_50 (by decide) ?_
  refine va_put (T := m_Tc 5) hx hb hts (m_uin (by decide)) (m_ty 5) (b_ty (by decide)) (b_nm (by decide)) hown hK hP hD hS 0 rfl (m_cl_at (by decide)) 9 (by decide) (hts _ b_w95) (fun _ z => z) rfl b_d2 rfl rfl (Nat.le_of_ble_eq_true rfl) b_d5_51 (fun H locs hP hD hS => ?_)
  have hP : va_P D m_cl ((h0, .inr (5, [.int 0, .int 0, .int 0, .int 0, .int 0, .int 0, .int 0, .int 0, .int 0, .int 0, .null, .null, .null, .null, .null])) :: [] : va_W) H := hP
  have hD : va_D (b_A h0 5 [.int 0, .int 0, .int 0, .int 0, .int 0, .int 0, .int 0, .int 0, .int 0, .int 0, .null, .null, .null, .null, .null] s.heap.size) ((h0, .inr (5, [.int 0, .int 0, .int 0, .int 0, .int 0, .int 0, .int 0, .int 0, .int 0, .int 0, .null, .null, .null, .null, .null])) :: [] : va_W) := hD
  refine lv_aload_n hx hb b_d5_54 rfl (lv_at hl 0 rfl) ?_
  refine va_new (ci := 2) (fs := [.null]) (C := m_on 2) (T := m_Tc 2) (N := m_nf 2) hx hb hts (m_uin (by decide)) (m_ty 2) (b_ty (by decide)) hown (hts _ b_w71) (hts _ b_w30) (hts _ b_w3) hK hP hD hS hA (m_cl_at (by decide)) b_f2 (Nat.le_of_ble_eq_true rfl) (Nat.le_of_ble_eq_true rfl) b_d5_55 (fun a1 H hP hD hS => ?_)
  have hP : va_P D m_cl ((h0, .inr (5, [.int 0, .int 0, .int 0, .int 0, .int 0, .int 0, .int 0, .int 0, .int 0, .int 0, .null, .null, .null, .null, .null])) :: (a1, .inr (2, [.null])) :: [] : va_W) H := hP
  have hD : va_D (b_A h0 5 [.int 0, .int 0, .int 0, .int 0, .int 0, .int 0, .int 0, .int 0, .int 0, .int 0, .null, .null, .null, .null, .null] s.heap.size) ((h0, .inr (5, [.int 0, .int 0, .int 0, .int 0, .int 0, .int 0, .int 0, .int 0, .int 0, .int 0, .null, .null, .null, .null, .null])) :: (a1, .inr (2, [.null])) :: [] : va_W) := hD
  refine W.widen (k := 1) (n := 1) (Nat.le_of_ble_eq_true rfl) (Nat.le_of_ble_eq_true rfl) ?_
  refine lv_dup hx hb b_d5_58 rfl ?_
  refine lv_bipush (v := nI 60) hx hb b_d5_59 (by decide) ?_
  refine b_after (k := 1) (va_runI (As := [.int (nI 60)]) (rest := [.ref a1, .ref h0]) ⟨hx, hb, hml, hown, hts⟩ (b_c2 l D a1 H.size 60 (by decide)) (cwI 1 hts (b_good b_w33) rfl rfl rfl (hts _ b_w3) (hts _ b_w72) (hts _ b_w32) rfl (by decide +kernel) ⟨(Nat.le_of_ble_eq_true rfl), (Nat.le_of_ble_eq_true rfl)⟩) (b_pres (k := 1) (fun _ _ _ _ z => z) (fun _ _ => trivial) hK hP rfl) rfl rfl hl.1 rfl (lv_room (Nat.le_of_ble_eq_true rfl)) b_d5_61 ⟨(Nat.le_of_ble_eq_true rfl), (Nat.le_of_ble_eq_true rfl)⟩) hK hP hD hS hA rfl (fun e1 wn t H locs hw hK hP hD hS => ?_)
  obtain ⟨f2, g3, rfl, rfl, rfl⟩ := hw
  have hP : va_P D m_cl ((h0, .inr (5, [.int 0, .int 0, .int 0, .int 0, .int 0, .int 0, .int 0, .int 0, .int 0, .int 0, .null, .null, .null, .null, .null])) :: (a1, b_E2 60 f2 g3) :: b_W2 60 f2 g3 ++ ([]) : va_W) H := hP
  have hD : va_D (b_A h0 5 [.int 0, .int 0, .int 0, .int 0, .int 0, .int 0, .int 0, .int 0, .int 0, .int 0, .null, .null, .null, .null, .null] s.heap.size) ((h0, .inr (5, [.int 0, .int 0, .int 0, .int 0, .int 0, .int 0, .int 0, .int 0, .int 0, .int 0, .null, .null, .null, .null, .null])) :: (a1, b_E2 60 f2 g3) :: b_W2 60 f2 g3 ++ ([]) : va_W) := hD
  have hK : va_K D m_cl (b_L2 g3 ++ ([]) : b_T) s := hK
  refine W.widen (k := 2) (n := 61) (Nat.le_of_ble_eq_true rfl) (Nat.le_of_ble_eq_true rfl) ?_
  refine va_putF (T := m_Tc 5) hx hb hts (m_uin (by decide)) (m_ty 5) (b_ty (by decide)) (b_nm (by decide)) hown hK hP hD hS 0 rfl (m_cl_at (by decide)) 10 (by decide) (hts _ b_w97) (fun _ z => z) rfl hin rfl b_d6 rfl rfl (Nat.le_of_ble_eq_true rfl) b_d5_64 (fun H locs hP hD hS => ?_)
  have hP : va_P D m_cl ((h0, .inr (5, [.int 0, .int 0, .int 0, .int 0, .int 0, .int 0, .int 0, .int 0, .int 0, .int 0, .ref a1, .null, .null, .null, .null])) :: (a1, b_E2 60 f2 g3) :: b_W2 60 f2 g3 ++ ([]) : va_W) H := hP
  have hD : va_D (b_A h0 5 [.int 0, .int 0, .int 0, .int 0, .int 0, .int 0, .int 0, .int 0, .int 0, .int 0, .null, .null, .null, .null, .null] s.heap.size) ((h0, .inr (5, [.int 0, .int 0, .int 0, .int 0, .int 0, .int 0, .int 0, .int 0, .int 0, .int 0, .ref a1, .null, .null, .null, .null])) :: (a1, b_E2 60 f2 g3) :: b_W2 60 f2 g3 ++ ([]) : va_W) := hD
  refine lv_aload_n hx hb b_d5_67 rfl (lv_at hl 0 rfl) ?_
  refine va_new (ci := 2) (fs := [.null]) (C := m_on 2) (T := m_Tc 2) (N := m_nf 2) hx hb hts (m_uin (by decide)) (m_ty 2) (b_ty (by decide)) hown (hts _ b_w71) (hts _ b_w30) (hts _ b_w3) hK hP hD hS hA (m_cl_at (by decide)) b_f2 (Nat.le_of_ble_eq_true rfl) (Nat.le_of_ble_eq_true rfl) b_d5_68 (fun a4 H hP hD hS => ?_)
  have hP : va_P D m_cl ((h0, .inr (5, [.int 0, .int 0, .int 0, .int 0, .int 0, .int 0, .int 0, .int 0, .int 0, .int 0, .ref a1, .null, .null, .null, .null])) :: (a1, b_E2 60 f2 g3) :: b_W2 60 f2 g3 ++ ((a4, .inr (2, [.null])) :: []) : va_W) H := hP
  have hD : va_D (b_A h0 5 [.int 0, .int 0, .int 0, .int 0, .int 0, .int 0, .int 0, .int 0, .int 0, .int 0, .null, .null, .null, .null, .null] s.heap.size) ((h0, .inr (5, [.int 0, .int 0, .int 0, .int 0, .int 0, .int 0, .int 0, .int 0, .int 0, .int 0, .ref a1, .null, .null, .null, .null])) :: (a1, b_E2 60 f2 g3) :: b_W2 60 f2 g3 ++ ((a4, .inr (2, [.null])) :: []) : va_W) := hD
  refine W.widen (k := 3) (n := 62) (Nat.le_of_ble_eq_true rfl) (Nat.le_of_ble_eq_true rfl) ?_
  refine lv_dup hx hb b_d5_71 rfl ?_
  refine lv_bipush (v := nI 60) hx hb b_d5_72 (by decide) ?_
  refine b_after (k := 3) (va_runI (As := [.int (nI 60)]) (rest := [.ref a4, .ref h0]) ⟨hx, hb, hml, hown, hts⟩ (b_c2 l D a4 H.size 60 (by decide)) (cwI 1 hts (b_good b_w33) rfl rfl rfl (hts _ b_w3) (hts _ b_w72) (hts _ b_w32) rfl (by decide +kernel) ⟨(Nat.le_of_ble_eq_true rfl), (Nat.le_of_ble_eq_true rfl)⟩) (b_pres (k := 3) (fun _ _ _ _ z => z) (fun _ _ => trivial) hK hP rfl) rfl rfl hl.1 rfl (lv_room (Nat.le_of_ble_eq_true rfl)) b_d5_74 ⟨(Nat.le_of_ble_eq_true rfl), (Nat.le_of_ble_eq_true rfl)⟩) hK hP hD hS hA rfl (fun e1 wn t H locs hw hK hP hD hS => ?_)
  obtain ⟨f5, g6, rfl, rfl, rfl⟩ := hw
  have hP : va_P D m_cl ((h0, .inr (5, [.int 0, .int 0, .int 0, .int 0, .int 0, .int 0, .int 0, .int 0, .int 0, .int 0, .ref a1, .null, .null, .null, .null])) :: (a1, b_E2 60 f2 g3) :: b_W2 60 f2 g3 ++ ((a4, b_E2 60 f5 g6) :: b_W2 60 f5 g6 ++ ([])) : va_W) H := hP
  have hD : va_D (b_A h0 5 [.int 0, .int 0, .int 0, .int 0, .int 0, .int 0, .int 0, .int 0, .int 0, .int 0, .null, .null, .null, .null, .null] s.heap.size) ((h0, .inr (5, [.int 0, .int 0, .int 0, .int 0, .int 0, .int 0, .int 0, .int 0, .int 0, .int 0, .ref a1, .null, .null, .null, .null])) :: (a1, b_E2 60 f2 g3) :: b_W2 60 f2 g3 ++ ((a4, b_E2 60 f5 g6) :: b_W2 60 f5 g6 ++ ([])) : va_W) := hD
  have hK : va_K D m_cl (b_L2 g3 ++ (b_L2 g6 ++ ([])) : b_T) s := hK
  refine W.widen (k := 4) (n := 122) (Nat.le_of_ble_eq_true rfl) (Nat.le_of_ble_eq_true rfl) ?_
  refine va_putF (T := m_Tc 5) hx hb hts (m_uin (by decide)) (m_ty 5) (b_ty (by decide)) (b_nm (by decide)) hown hK hP hD hS 0 rfl (m_cl_at (by decide)) 11 (by decide) (hts _ b_w100) (fun _ z => z) rfl hin rfl b_d6 rfl rfl (Nat.le_of_ble_eq_true rfl) b_d5_77 (fun H locs hP hD hS => ?_)
  have hP : va_P D m_cl ((h0, .inr (5, [.int 0, .int 0, .int 0, .int 0, .int 0, .int 0, .int 0, .int 0, .int 0, .int 0, .ref a1, .ref a4, .null, .null, .null])) :: (a1, b_E2 60 f2 g3) :: b_W2 60 f2 g3 ++ ((a4, b_E2 60 f5 g6) :: b_W2 60 f5 g6 ++ ([])) : va_W) H := hP
  have hD : va_D (b_A h0 5 [.int 0, .int 0, .int 0, .int 0, .int 0, .int 0, .int 0, .int 0, .int 0, .int 0, .null, .null, .null, .null, .null] s.heap.size) ((h0, .inr (5, [.int 0, .int 0, .int 0, .int 0, .int 0, .int 0, .int 0, .int 0, .int 0, .int 0, .ref a1, .ref a4, .null, .null, .null])) :: (a1, b_E2 60 f2 g3) :: b_W2 60 f2 g3 ++ ((a4, b_E2 60 f5 g6) :: b_W2 60 f5 g6 ++ ([])) : va_W) := hD
  refine lv_aload_n hx hb b_d5_80 rfl (lv_at hl 0 rfl) ?_
  refine va_new (ci := 2) (fs := [.null]) (C := m_on 2) (T := m_Tc 2) (N := m_nf 2) hx hb hts (m_uin (by decide)) (m_ty 2) (b_ty (by decide)) hown (hts _ b_w71) (hts _ b_w30) (hts _ b_w3) hK hP hD hS hA (m_cl_at (by decide)) b_f2 (Nat.le_of_ble_eq_true rfl) (Nat.le_of_ble_eq_true rfl) b_d5_81 (fun a7 H hP hD hS => ?_)
  have hP : va_P D m_cl ((h0, .inr (5, [.int 0, .int 0, .int 0, .int 0, .int 0, .int 0, .int 0, .int 0, .int 0, .int 0, .ref a1, .ref a4, .null, .null, .null])) :: (a1, b_E2 60 f2 g3) :: b_W2 60 f2 g3 ++ ((a4, b_E2 60 f5 g6) :: b_W2 60 f5 g6 ++ ((a7, .inr (2, [.null])) :: [])) : va_W) H := hP
  have hD : va_D (b_A h0 5 [.int 0, .int 0, .int 0, .int 0, .int 0, .int 0, .int 0, .int 0, .int 0, .int 0, .null, .null, .null, .null, .null] s.heap.size) ((h0, .inr (5, [.int 0, .int 0, .int 0, .int 0, .int 0, .int 0, .int 0, .int 0, .int 0, .int 0, .ref a1, .ref a4, .null, .null, .null])) :: (a1, b_E2 60 f2 g3) :: b_W2 60 f2 g3 ++ ((a4, b_E2 60 f5 g6) :: b_W2 60 f5 g6 ++ ((a7, .inr (2, [.null])) :: [])) : va_W) := hD
  refine W.widen (k := 5) (n := 123) (Nat.le_of_ble_eq_true rfl) (Nat.le_of_ble_eq_true rfl) ?_
  refine lv_dup hx hb b_d5_84 rfl ?_
  refine lv_bipush (v := nI 60) hx hb b_d5_85 (by decide) ?_
  refine b_after (k := 5) (va_runI (As := [.int (nI 60)]) (rest := [.ref a7, .ref h0]) ⟨hx, hb, hml, hown, hts⟩ (b_c2 l D a7 H.size 60 (by decide)) (cwI 1 hts (b_good b_w33) rfl rfl rfl (hts _ b_w3) (hts _ b_w72) (hts _ b_w32) rfl (by decide +kernel) ⟨(Nat.le_of_ble_eq_true rfl), (Nat.le_of_ble_eq_true rfl)⟩) (b_pres (k := 5) (fun _ _ _ _ z => z) (fun _ _ => trivial) hK hP rfl) rfl rfl hl.1 rfl (lv_room (Nat.le_of_ble_eq_true rfl)) b_d5_87 ⟨(Nat.le_of_ble_eq_true rfl), (Nat.le_of_ble_eq_true rfl)⟩) hK hP hD hS hA rfl (fun e1 wn t H locs hw hK hP hD hS => ?_)
  obtain ⟨f8, g9, rfl, rfl, rfl⟩ := hw
  have hP : va_P D m_cl ((h0, .inr (5, [.int 0, .int 0, .int 0, .int 0, .int 0, .int 0, .int 0, .int 0, .int 0, .int 0, .ref a1, .ref a4, .null, .null, .null])) :: (a1, b_E2 60 f2 g3) :: b_W2 60 f2 g3 ++ ((a4, b_E2 60 f5 g6) :: b_W2 60 f5 g6 ++ ((a7, b_E2 60 f8 g9) :: b_W2 60 f8 g9 ++ ([]))) : va_W) H := hP
  have hD : va_D (b_A h0 5 [.int 0, .int 0, .int 0, .int 0, .int 0, .int 0, .int 0, .int 0, .int 0, .int 0, .null, .null, .null, .null, .null] s.heap.size) ((h0, .inr (5, [.int 0, .int 0, .int 0, .int 0, .int 0, .int 0, .int 0, .int 0, .int 0, .int 0, .ref a1, .ref a4, .null, .null, .null])) :: (a1, b_E2 60 f2 g3) :: b_W2 60 f2 g3 ++ ((a4, b_E2 60 f5 g6) :: b_W2 60 f5 g6 ++ ((a7, b_E2 60 f8 g9) :: b_W2 60 f8 g9 ++ ([]))) : va_W) := hD
  have hK : va_K D m_cl (b_L2 g3 ++ (b_L2 g6 ++ (b_L2 g9 ++ ([]))) : b_T) s := hK
  refine W.widen (k := 6) (n := 183) (Nat.le_of_ble_eq_true rfl) (Nat.le_of_ble_eq_true rfl) ?_
  refine va_putF (T := m_Tc 5) hx hb hts (m_uin (by decide)) (m_ty 5) (b_ty (by decide)) (b_nm (by decide)) hown hK hP hD hS 0 rfl (m_cl_at (by decide)) 12 (by decide) (hts _ b_w103) (fun _ z => z) rfl hin rfl b_d6 rfl rfl (Nat.le_of_ble_eq_true rfl) b_d5_90 (fun H locs hP hD hS => ?_)
  have hP : va_P D m_cl ((h0, .inr (5, [.int 0, .int 0, .int 0, .int 0, .int 0, .int 0, .int 0, .int 0, .int 0, .int 0, .ref a1, .ref a4, .ref a7, .null, .null])) :: (a1, b_E2 60 f2 g3) :: b_W2 60 f2 g3 ++ ((a4, b_E2 60 f5 g6) :: b_W2 60 f5 g6 ++ ((a7, b_E2 60 f8 g9) :: b_W2 60 f8 g9 ++ ([]))) : va_W) H := hP
  have hD : va_D (b_A h0 5 [.int 0, .int 0, .int 0, .int 0, .int 0, .int 0, .int 0, .int 0, .int 0, .int 0, .null, .null, .null, .null, .null] s.heap.size) ((h0, .inr (5, [.int 0, .int 0, .int 0, .int 0, .int 0, .int 0, .int 0, .int 0, .int 0, .int 0, .ref a1, .ref a4, .ref a7, .null, .null])) :: (a1, b_E2 60 f2 g3) :: b_W2 60 f2 g3 ++ ((a4, b_E2 60 f5 g6) :: b_W2 60 f5 g6 ++ ((a7, b_E2 60 f8 g9) :: b_W2 60 f8 g9 ++ ([]))) : va_W) := hD
  refine lv_aload_n hx hb b_d5_93 rfl (lv_at hl 0 rfl) ?_
  refine va_new (ci := 2) (fs := [.null]) (C := m_on 2) (T := m_Tc 2) (N := m_nf 2) hx hb hts (m_uin (by decide)) (m_ty 2) (b_ty (by decide)) hown (hts _ b_w71) (hts _ b_w30) (hts _ b_w3) hK hP hD hS hA (m_cl_at (by decide)) b_f2 (Nat.le_of_ble_eq_true rfl) (Nat.le_of_ble_eq_true rfl) b_d5_94 (fun a10 H hP hD hS => ?_)
  have hP : va_P D m_cl ((h0, .inr (5, [.int 0, .int 0, .int 0, .int 0, .int 0, .int 0, .int 0, .int 0, .int 0, .int 0, .ref a1, .ref a4, .ref a7, .null, .null])) :: (a1, b_E2 60 f2 g3) :: b_W2 60 f2 g3 ++ ((a4, b_E2 60 f5 g6) :: b_W2 60 f5 g6 ++ ((a7, b_E2 60 f8 g9) :: b_W2 60 f8 g9 ++ ((a10, .inr (2, [.null])) :: []))) : va_W) H := hP
  have hD : va_D (b_A h0 5 [.int 0, .int 0, .int 0, .int 0, .int 0, .int 0, .int 0, .int 0, .int 0, .int 0, .null, .null, .null, .null, .null] s.heap.size) ((h0, .inr (5, [.int 0, .int 0, .int 0, .int 0, .int 0, .int 0, .int 0, .int 0, .int 0, .int 0, .ref a1, .ref a4, .ref a7, .null, .null])) :: (a1, b_E2 60 f2 g3) :: b_W2 60 f2 g3 ++ ((a4, b_E2 60 f5 g6) :: b_W2 60 f5 g6 ++ ((a7, b_E2 60 f8 g9) :: b_W2 60 f8 g9 ++ ((a10, .inr (2, [.null])) :: []))) : va_W) := hD
  refine W.widen (k := 7) (n := 184) (Nat.le_of_ble_eq_true rfl) (Nat.le_of_ble_eq_true rfl) ?_
  refine lv_dup hx hb b_d5_97 rfl ?_
  refine lv_bipush (v := nI 60) hx hb b_d5_98 (by decide) ?_
  refine b_after (k := 7) (va_runI (As := [.int (nI 60)]) (rest := [.ref a10, .ref h0]) ⟨hx, hb, hml, hown, hts⟩ (b_c2 l D a10 H.size 60 (by decide)) (cwI 1 hts (b_good b_w33) rfl rfl rfl (hts _ b_w3) (hts _ b_w72) (hts _ b_w32) rfl (by decide +kernel) ⟨(Nat.le_of_ble_eq_true rfl), (Nat.le_of_ble_eq_true rfl)⟩) (b_pres (k := 7) (fun _ _ _ _ z => z) (fun _ _ => trivial) hK hP rfl) rfl rfl hl.1 rfl (lv_room (Nat.le_of_ble_eq_true rfl)) b_d5_100 ⟨(Nat.le_of_ble_eq_true rfl), (Nat.le_of_ble_eq_true rfl)⟩) hK hP hD hS hA rfl (fun e1 wn t H locs hw hK hP hD hS => ?_)
  obtain ⟨f11, g12, rfl, rfl, rfl⟩ := hw
  have hP : va_P D m_cl ((h0, .inr (5, [.int 0, .int 0, .int 0, .int 0, .int 0, .int 0, .int 0, .int 0, .int 0, .int 0, .ref a1, .ref a4, .ref a7, .null, .null])) :: (a1, b_E2 60 f2 g3) :: b_W2 60 f2 g3 ++ ((a4, b_E2 60 f5 g6) :: b_W2 60 f5 g6 ++ ((a7, b_E2 60 f8 g9) :: b_W2 60 f8 g9 ++ ((a10, b_E2 60 f11 g12) :: b_W2 60 f11 g12 ++ ([])))) : va_W) H := hP
  have hD : va_D (b_A h0 5 [.int 0, .int 0, .int 0, .int 0, .int 0, .int 0, .int 0, .int 0, .int 0, .int 0, .null, .null, .null, .null, .null] s.heap.size) ((h0, .inr (5, [.int 0, .int 0, .int 0, .int 0, .int 0, .int 0, .int 0, .int 0, .int 0, .int 0, .ref a1, .ref a4, .ref a7, .null, .null])) :: (a1, b_E2 60 f2 g3) :: b_W2 60 f2 g3 ++ ((a4, b_E2 60 f5 g6) :: b_W2 60 f5 g6 ++ ((a7, b_E2 60 f8 g9) :: b_W2 60 f8 g9 ++ ((a10, b_E2 60 f11 g12) :: b_W2 60 f11 g12 ++ ([])))) : va_W) := hD
  have hK : va_K D m_cl (b_L2 g3 ++ (b_L2 g6 ++ (b_L2 g9 ++ (b_L2 g12 ++ ([])))) : b_T) s := hK
  refine W.widen (k := 8) (n := 244) (Nat.le_of_ble_eq_true rfl) (Nat.le_of_ble_eq_true rfl) ?_
  refine va_putF (T := m_Tc 5) hx hb hts (m_uin (by decide)) (m_ty 5) (b_ty (by decide)) (b_nm (by decide)) hown hK hP hD hS 0 rfl (m_cl_at (by decide)) 13 (by decide) (hts _ b_w106) (fun _ z => z) rfl hin rfl b_d6 rfl rfl (Nat.le_of_ble_eq_true rfl) b_d5_103 (fun H locs hP hD hS => ?_)
  have hP : va_P D m_cl ((h0, .inr (5, [.int 0, .int 0, .int 0, .int 0, .int 0, .int 0, .int 0, .int 0, .int 0, .int 0, .ref a1, .ref a4, .ref a7, .ref a10, .null])) :: (a1, b_E2 60 f2 g3) :: b_W2 60 f2 g3 ++ ((a4, b_E2 60 f5 g6) :: b_W2 60 f5 g6 ++ ((a7, b_E2 60 f8 g9) :: b_W2 60 f8 g9 ++ ((a10, b_E2 60 f11 g12) :: b_W2 60 f11 g12 ++ ([])))) : va_W) H := hP
  have hD : va_D (b_A h0 5 [.int 0, .int 0, .int 0, .int 0, .int 0, .int 0, .int 0, .int 0, .int 0, .int 0, .null, .null, .null, .null, .null] s.heap.size) ((h0, .inr (5, [.int 0, .int 0, .int 0, .int 0, .int 0, .int 0, .int 0, .int 0, .int 0, .int 0, .ref a1, .ref a4, .ref a7, .ref a10, .null])) :: (a1, b_E2 60 f2 g3) :: b_W2 60 f2 g3 ++ ((a4, b_E2 60 f5 g6) :: b_W2 60 f5 g6 ++ ((a7, b_E2 60 f8 g9) :: b_W2 60 f8 g9 ++ ((a10, b_E2 60 f11 g12) :: b_W2 60 f11 g12 ++ ([])))) : va_W) := hD
  refine lv_aload_n hx hb b_d5_106 rfl (lv_at hl 0 rfl) ?_
  refine va_new (ci := 2) (fs := [.null]) (C := m_on 2) (T := m_Tc 2) (N := m_nf 2) hx hb hts (m_uin (by decide)) (m_ty 2) (b_ty (by decide)) hown (hts _ b_w71) (hts _ b_w30) (hts _ b_w3) hK hP hD hS hA (m_cl_at (by decide)) b_f2 (Nat.le_of_ble_eq_true rfl) (Nat.le_of_ble_eq_true rfl) b_d5_107 (fun a13 H hP hD hS => ?_)
  have hP : va_P D m_cl ((h0, .inr (5, [.int 0, .int 0, .int 0, .int 0, .int 0, .int 0, .int 0, .int 0, .int 0, .int 0, .ref a1, .ref a4, .ref a7, .ref a10, .null])) :: (a1, b_E2 60 f2 g3) :: b_W2 60 f2 g3 ++ ((a4, b_E2 60 f5 g6) :: b_W2 60 f5 g6 ++ ((a7, b_E2 60 f8 g9) :: b_W2 60 f8 g9 ++ ((a10, b_E2 60 f11 g12) :: b_W2 60 f11 g12 ++ ((a13, .inr (2, [.null])) :: [])))) : va_W) H := hP
  have hD : va_D (b_A h0 5 [.int 0, .int 0, .int 0, .int 0, .int 0, .int 0, .int 0, .int 0, .int 0, .int 0, .null, .null, .null, .null, .null] s.heap.size) ((h0, .inr (5, [.int 0, .int 0, .int 0, .int 0, .int 0, .int 0, .int 0, .int 0, .int 0, .int 0, .ref a1, .ref a4, .ref a7, .ref a10, .null])) :: (a1, b_E2 60 f2 g3) :: b_W2 60 f2 g3 ++ ((a4, b_E2 60 f5 g6) :: b_W2 60 f5 g6 ++ ((a7, b_E2 60 f8 g9) :: b_W2 60 f8 g9 ++ ((a10, b_E2 60 f11 g12) :: b_W2 60 f11 g12 ++ ((a13, .inr (2, [.null])) :: [])))) : va_W) := hD
  refine W.widen (k := 9) (n := 245) (Nat.le_of_ble_eq_true rfl) (Nat.le_of_ble_eq_true rfl) ?_
  refine lv_dup hx hb b_d5_110 rfl ?_
  refine lv_bipush (v := nI 60) hx hb b_d5_111 (by decide) ?_
  refine b_after (k := 9) (va_runI (As := [.int (nI 60)]) (rest := [.ref a13, .ref h0]) ⟨hx, hb, hml, hown, hts⟩ (b_c2 l D a13 H.size 60 (by decide)) (cwI 1 hts (b_good b_w33) rfl rfl rfl (hts _ b_w3) (hts _ b_w72) (hts _ b_w32) rfl (by decide +kernel) ⟨(Nat.le_of_ble_eq_true rfl), (Nat.le_of_ble_eq_true rfl)⟩) (b_pres (k := 9) (fun _ _ _ _ z => z) (fun _ _ => trivial) hK hP rfl) rfl rfl hl.1 rfl (lv_room (Nat.le_of_ble_eq_true rfl)) b_d5_113 ⟨(Nat.le_of_ble_eq_true rfl), (Nat.le_of_ble_eq_true rfl)⟩) hK hP hD hS hA rfl (fun e1 wn t H locs hw hK hP hD hS => ?_)
  obtain ⟨f14, g15, rfl, rfl, rfl⟩ := hw
  have hP : va_P D m_cl ((h0, .inr (5, [.int 0, .int 0, .int 0, .int 0, .int 0, .int 0, .int 0, .int 0, .int 0, .int 0, .ref a1, .ref a4, .ref a7, .ref a10, .null])) :: (a1, b_E2 60 f2 g3) :: b_W2 60 f2 g3 ++ ((a4, b_E2 60 f5 g6) :: b_W2 60 f5 g6 ++ ((a7, b_E2 60 f8 g9) :: b_W2 60 f8 g9 ++ ((a10, b_E2 60 f11 g12) :: b_W2 60 f11 g12 ++ ((a13, b_E2 60 f14 g15) :: b_W2 60 f14 g15 ++ ([]))))) : va_W) H := hP
  have hD : va_D (b_A h0 5 [.int 0, .int 0, .int 0, .int 0, .int 0, .int 0, .int 0, .int 0, .int 0, .int 0, .null, .null, .null, .null, .null] s.heap.size) ((h0, .inr (5, [.int 0, .int 0, .int 0, .int 0, .int 0, .int 0, .int 0, .int 0, .int 0, .int 0, .ref a1, .ref a4, .ref a7, .ref a10, .null])) :: (a1, b_E2 60 f2 g3) :: b_W2 60 f2 g3 ++ ((a4, b_E2 60 f5 g6) :: b_W2 60 f5 g6 ++ ((a7, b_E2 60 f8 g9) :: b_W2 60 f8 g9 ++ ((a10, b_E2 60 f11 g12) :: b_W2 60 f11 g12 ++ ((a13, b_E2 60 f14 g15) :: b_W2 60 f14 g15 ++ ([]))))) : va_W) := hD
  have hK : va_K D m_cl (b_L2 g3 ++ (b_L2 g6 ++ (b_L2 g9 ++ (b_L2 g12 ++ (b_L2 g15 ++ ([]))))) : b_T) s := hK
  refine W.widen (k := 10) (n := 305) (Nat.le_of_ble_eq_true rfl) (Nat.le_of_ble_eq_true rfl) ?_
  refine va_putF (T := m_Tc 5) hx hb hts (m_uin (by decide)) (m_ty 5) (b_ty (by decide)) (b_nm (by decide)) hown hK hP hD hS 0 rfl (m_cl_at (by decide)) 14 (by decide) (hts _ b_w108) (fun _ z => z) rfl hin rfl b_d6 rfl rfl (Nat.le_of_ble_eq_true rfl) b_d5_116 (fun H locs hP hD hS => ?_)
  have hP : va_P D m_cl ((h0, .inr (5, [.int 0, .int 0, .int 0, .int 0, .int 0, .int 0, .int 0, .int 0, .int 0, .int 0, .ref a1, .ref a4, .ref a7, .ref a10, .ref a13])) :: (a1, b_E2 60 f2 g3) :: b_W2 60 f2 g3 ++ ((a4, b_E2 60 f5 g6) :: b_W2 60 f5 g6 ++ ((a7, b_E2 60 f8 g9) :: b_W2 60 f8 g9 ++ ((a10, b_E2 60 f11 g12) :: b_W2 60 f11 g12 ++ ((a13, b_E2 60 f14 g15) :: b_W2 60 f14 g15 ++ ([]))))) : va_W) H := hP
  have hD : va_D (b_A h0 5 [.int 0, .int 0, .int 0, .int 0, .int 0, .int 0, .int 0, .int 0, .int 0, .int 0, .null, .null, .null, .null, .null] s.heap.size) ((h0, .inr (5, [.int 0, .int 0, .int 0, .int 0, .int 0, .int 0, .int 0, .int 0, .int 0, .int 0, .ref a1, .ref a4, .ref a7, .ref a10, .ref a13])) :: (a1, b_E2 60 f2 g3) :: b_W2 60 f2 g3 ++ ((a4, b_E2 60 f5 g6) :: b_W2 60 f5 g6 ++ ((a7, b_E2 60 f8 g9) :: b_W2 60 f8 g9 ++ ((a10, b_E2 60 f11 g12) :: b_W2 60 f11 g12 ++ ((a13, b_E2 60 f14 g15) :: b_W2 60 f14 g15 ++ ([]))))) : va_W) := hD
  exact W.vret hx hb hr (fun t ht hW => ⟨⟨(_, _, _), rfl, ⟨fun i => m_nth [a1, (f2 0), a4, (f5 0), a7, (f8 0), a10, (f11 0), a13, (f14 0)] i 0, fun i => m_nth [(g3 0), (g6 0), (g9 0), (g12 0), (g15 0)] i (g3 0), rfl, rfl, rfl⟩, by rw [ht]; exact hP, va_K.moved hW.alike hK, hD⟩, hS.F ht⟩) hS.2.2 b_d5_119
def b_E1 (q : Nat → Nat) (cA : Nat → ClassId) : va_E := .inr (1, [.ref (q 0), .int 0])
def b_W1 (q : Nat → Nat) (cA : Nat → ClassId) : va_W := [((q 0), .inr (2, [.ref (q 1)])), ((q 1), .inl ((cA 0), 16, .inl fun _ => 0))]
def b_L1 (cA : Nat → ClassId) : b_T := [((cA 0), .int)]
set_option maxHeartbeats 8000000 in
set_option maxRecDepth 100000 in
theorem b_c1 (l : Launch) (D : va_G) (h0 sz : Nat) : Met l b_y1 (b_ww b_y1 prog_2_method_1_code 1) { frames := 2, cells := 2, slots := 17, locals := 80 } (va_Pc [.ref h0] (b_pre D h0 1 [.null, .int 0] sz (fun _ => True))) (b_post D h0 1 [.null, .int 0] sz (fun e1 wn t => ∃ (q : Nat → Nat) (cA : Nat → ClassId), e1 = b_E1 q cA ∧ wn = b_W1 q cA ∧ t = b_L1 cA)) 2 17 (b_A h0 1 [.null, .int 0] sz) := by
  refine Met.ofW (cc := prog_2_method_1_code) (maxL := 1) (ret := none) (by decide) rfl ?_
  intro p e s m args below meth c s₁ B hml hv
  obtain ⟨rfl, hsz, hP, hK, hB⟩ := hv
  have hx := B.exec
  have hb := B.bytes
  have hr := B.returns
  have hts : ∀ w ∈ m_wall, w.before _ s = true := fun w hw => atoms_spec (ws := b_ww b_y1 prog_2_method_1_code 1) B.pre w (List.mem_cons_of_mem _ hw)
  have hown : s.vm.findClass "AsManyAsCame$Asked" = some m.cls := findClass_of_methodNamed B.named
  have hlocks := B.notSynchronized
  have hin : meth.name = "<init>" := (name_of_methodNamed B.named B.method).1
  subst hsz
  have hD : va_D (b_A h0 1 [.null, .int 0] s.heap.size) [(h0, .inr (1, [.null, .int 0]))] := b_self
  have hA : ∀ q : Nat, s.heap.size ≤ q → b_A h0 1 [.null, .int 0] s.heap.size q := fun q h => Or.inr h
  have hS : va_S (b_A h0 1 [.null, .int 0] s.heap.size) s.heap s.heap [] := va_S.rf
  have hl := lv_entry ([.ref h0]) (n := 1) (Nat.le_of_ble_eq_true rfl)
  rw [lg_entry_eq]
  generalize (lg_sl ([.ref h0]) ++ List.replicate (1 - (lg_sl ([.ref h0])).length) Slot.unset).toArray = ls at hl ⊢
  have hl : lv_has ls 1 [(0, .ref h0)] := hl
  refine lv_aload_n hx hb b_d1_0 rfl (lv_at hl 0 rfl) ?_
  refine W.objInit hx hb hown (hts _ b_w146) (hts _ b_w19) (hts _ b_w20) rfl (by rw [hml]; exact hl.1) rfl b_d1_1 (Nat.le_of_ble_eq_true rfl) (Nat.le_of_ble_eq_true rfl) ?_
  refine W.eq (g2 := F0 m 4 ls []) rfl ?_
  refine lv_aload_n hx hb b_d1_4 rfl (lv_at hl 0 rfl) ?_
  refine va_new (ci := 2) (fs := [.null]) (C := m_on 2) (T := m_Tc 2) (N := m_nf 2) hx hb hts (m_uin (by decide)) (m_ty 2) (b_ty (by decide)) hown (hts _ b_w147) (hts _ b_w30) (hts _ b_w3) hK hP hD hS hA (m_cl_at (by decide)) b_f2 (Nat.le_of_ble_eq_true rfl) (Nat.le_of_ble_eq_true rfl) b_d1_5 (fun a1 H hP hD hS => ?_)
  have hP : va_P D m_cl ((h0, .inr (1, [.null, .int 0])) :: (a1, .inr (2, [.null])) :: [] : va_W) H := hP
  have hD : va_D (b_A h0 1 [.null, .int 0] s.heap.size) ((h0, .inr (1, [.null, .int 0])) :: (a1, .inr (2, [.null])) :: [] : va_W) := hD
  refine W.widen (k := 1) (n := 1) (Nat.le_of_ble_eq_true rfl) (Nat.le_of_ble_eq_true rfl) ?_
  refine lv_dup hx hb b_d1_8 rfl ?_
  refine lv_bipush (v := nI 16) hx hb b_d1_9 (by decide) ?_
  refine b_after (k := 1) (va_runI (As := [.int (nI 16)]) (rest := [.ref a1, .ref h0]) ⟨hx, hb, hml, hown, hts⟩ (b_c2 l D a1 H.size 16 (by decide)) (cwI 1 hts (b_good b_w33) rfl rfl rfl (hts _ b_w3) (hts _ b_w148) (hts _ b_w32) rfl (by decide +kernel) ⟨(Nat.le_of_ble_eq_true rfl), (Nat.le_of_ble_eq_true rfl)⟩) (b_pres (k := 1) (fun _ _ _ _ z => z) (fun _ _ => trivial) hK hP rfl) rfl rfl hl.1 rfl (lv_room (Nat.le_of_ble_eq_true rfl)) b_d1_11 ⟨(Nat.le_of_ble_eq_true rfl), (Nat.le_of_ble_eq_true rfl)⟩) hK hP hD hS hA rfl (fun e1 wn t H locs hw hK hP hD hS => ?_)
  obtain ⟨f2, g3, rfl, rfl, rfl⟩ := hw
  have hP : va_P D m_cl ((h0, .inr (1, [.null, .int 0])) :: (a1, b_E2 16 f2 g3) :: b_W2 16 f2 g3 ++ ([]) : va_W) H := hP
  have hD : va_D (b_A h0 1 [.null, .int 0] s.heap.size) ((h0, .inr (1, [.null, .int 0])) :: (a1, b_E2 16 f2 g3) :: b_W2 16 f2 g3 ++ ([]) : va_W) := hD
  have hK : va_K D m_cl (b_L2 g3 ++ ([]) : b_T) s := hK
  refine W.widen (k := 2) (n := 17) (Nat.le_of_ble_eq_true rfl) (Nat.le_of_ble_eq_true rfl) ?_
  refine va_putF (T := m_Tc 1) hx hb hts (m_uin (by decide)) (m_ty 1) (b_ty (by decide)) (b_nm (by decide)) hown hK hP hD hS 0 rfl (m_cl_at (by decide)) 0 (by decide) (hts _ b_w149) (fun _ z => z) rfl hin rfl b_d6 rfl rfl (Nat.le_of_ble_eq_true rfl) b_d1_14 (fun H locs hP hD hS => ?_)
  have hP : va_P D m_cl ((h0, .inr (1, [.ref a1, .int 0])) :: (a1, b_E2 16 f2 g3) :: b_W2 16 f2 g3 ++ ([]) : va_W) H := hP
  have hD : va_D (b_A h0 1 [.null, .int 0] s.heap.size) ((h0, .inr (1, [.ref a1, .int 0])) :: (a1, b_E2 16 f2 g3) :: b_W2 16 f2 g3 ++ ([]) : va_W) := hD
  refine lv_aload_n hx hb b_d1_17 rfl (lv_at hl 0 rfl) ?_
  refine lv_iconst (v := 0) hx hb b_d1_18 (by decide) ?_
  refine va_put (T := m_Tc 1) hx hb hts (m_uin (by decide)) (m_ty 1) (b_ty (by decide)) (b_nm (by decide)) hown hK hP hD hS 0 rfl (m_cl_at (by decide)) 1 (by decide) (hts _ b_w151) (fun _ z => z) rfl b_d2 rfl rfl (Nat.le_of_ble_eq_true rfl) b_d1_19 (fun H locs hP hD hS => ?_)
  have hP : va_P D m_cl ((h0, .inr (1, [.ref a1, .int 0])) :: (a1, b_E2 16 f2 g3) :: b_W2 16 f2 g3 ++ ([]) : va_W) H := hP
  have hD : va_D (b_A h0 1 [.null, .int 0] s.heap.size) ((h0, .inr (1, [.ref a1, .int 0])) :: (a1, b_E2 16 f2 g3) :: b_W2 16 f2 g3 ++ ([]) : va_W) := hD
  exact W.vret hx hb hr (fun t ht hW => ⟨⟨(_, _, _), rfl, ⟨fun i => m_nth [a1, (f2 0)] i 0, fun i => m_nth [(g3 0)] i (g3 0), rfl, rfl, rfl⟩, by rw [ht]; exact hP, va_K.moved hW.alike hK, hD⟩, hS.F ht⟩) hS.2.2 b_d1_22
