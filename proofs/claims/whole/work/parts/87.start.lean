/-! the law, from its entry -/
theorem b_dall {G : m_G} {E : m_E} {A : Nat → Prop} {σ0 : m_M} (h : va_D A (m_ws G E σ0)) : ∀ σ, va_D A (m_ws G E σ) := by
  intro σ
  have key : ∀ (i : Nat) (p : Nat × va_E), (m_ws G E σ)[i]? = some p → ∃ p0 : Nat × va_E, (m_ws G E σ0)[i]? = some p0 ∧ p0.1 = p.1 := by
    intro i p hp
    unfold m_ws at hp ⊢
    rw [List.getElem?_map] at hp ⊢
    cases hq : m_objs[i]? with
    | none => rw [hq] at hp; cases hp
    | some q =>
      rw [hq] at hp
      cases hp
      exact ⟨_, rfl, rfl⟩
  refine ⟨fun i j p q hi hj hpq => ?_, fun i p hi => ?_⟩
  · obtain ⟨p0, h1, h2⟩ := key i p hi
    obtain ⟨q0, h3, h4⟩ := key j q hj
    exact h.1 i j p0 q0 h1 h3 (by rw [h2, h4]; exact hpq)
  · obtain ⟨p0, h1, h2⟩ := key i p hi
    rw [← h2]
    exact h.2 i p0 h1
theorem b_d7_0 : decode code 0 = .ok (.new 7, 3) := by decide +kernel
theorem b_d7_3 : decode code 3 = .ok (.dup, 1) := by decide +kernel
theorem b_d7_4 : decode code 4 = .ok (.invokespecial 9, 3) := by decide +kernel
theorem b_d7_7 : decode code 7 = .ok (.astore_n 1, 1) := by decide +kernel
theorem b_d7_8 : decode code 8 = .ok (.new 10, 3) := by decide +kernel
theorem b_d7_11 : decode code 11 = .ok (.dup, 1) := by decide +kernel
theorem b_d7_12 : decode code 12 = .ok (.invokespecial 12, 3) := by decide +kernel
theorem b_d7_15 : decode code 15 = .ok (.astore_n 2, 1) := by decide +kernel
theorem b_d7_16 : decode code 16 = .ok (.iconst 0, 1) := by decide +kernel
theorem b_d7_17 : decode code 17 = .ok (.istore_n 3, 1) := by decide +kernel
theorem b_w1 : Cond.initialized "AsManyAsCame" ∈ m_wall := m_in_of (p := 1) (by decide +kernel)
theorem b_w8 : Cond.initialized "AsManyAsCameModel" ∈ m_wall := m_in_of (p := 8) (by decide +kernel)
theorem b_w13 : Cond.classLink "AsManyAsCameLaw" 7 "AsManyAsCame" ∈ m_wall := m_in_of (p := 13) (by decide +kernel)
theorem b_w14 : Cond.instantiable "AsManyAsCame" 9 ∈ m_wall := m_in_of (p := 14) (by decide +kernel)
theorem b_w15 : Cond.methodLink "AsManyAsCameLaw" 9 b_y0 ∈ m_wall := m_in_of (p := 15) (by decide +kernel)
theorem b_w16 : Cond.instanceMethod b_y0 ∈ m_wall := m_in_of (p := 16) (by decide +kernel)
theorem b_w17 : Cond.code b_y0 prog_1_method_1_code 2 none ∈ m_wall := m_in_of (p := 17) (by decide +kernel)
theorem b_w651 : Cond.classLink "AsManyAsCameLaw" 10 "AsManyAsCameModel" ∈ m_wall := m_in_of (p := 652) (by decide +kernel)
theorem b_w652 : Cond.instantiable "AsManyAsCameModel" 23 ∈ m_wall := m_in_of (p := 653) (by decide +kernel)
theorem b_w653 : Cond.methodLink "AsManyAsCameLaw" 12 b_y6 ∈ m_wall := m_in_of (p := 654) (by decide +kernel)
theorem b_w654 : Cond.instanceMethod b_y6 ∈ m_wall := m_in_of (p := 655) (by decide +kernel)
theorem b_w655 : Cond.code b_y6 prog_8_method_1_code 1 none ∈ m_wall := m_in_of (p := 656) (by decide +kernel)
theorem b_mk : ((List.range 7).all fun c => m_in (m_nth [14, 142, 30, 160, 24, 66, 653] c 0) (.instantiable (m_on c) (m_nf c))) = true := by decide +kernel
theorem b_known {s : State} {b : Nat} (hts : ∀ w ∈ m_wall, w.before #[Value.ref b] s = true) : ∃ D : va_G, va_K D m_cl [] s := by
  have h0 : ∀ c : Nat, ∃ q : ClassId × (Nat → Nat), c < 7 → u_Kn s (m_on c) (m_Tc c) (m_nf c) q.1 q.2 := by
    intro c
    by_cases hc : c < 7
    · obtain ⟨cC, iS, h⟩ := u_known (C := m_on c) (T := m_Tc c) (N := m_nf c) (n := m_nf c) hts (m_uin hc) (hts _ (m_in_of (List.all_eq_true.mp b_mk c (List.mem_range.mpr hc))))
      exact ⟨(cC, iS), fun _ => h⟩
    · exact ⟨(0, fun _ => 0), fun h => absurd h hc⟩
  obtain ⟨F, hF⟩ := Classical.axiomOfChoice h0
  refine ⟨(fun c => (F c).1, fun c => (F c).2), fun c q hq => ?_, fun k q h => by simp at h⟩
  have hc : c < 7 := (List.getElem?_eq_some_iff.mp hq).1
  rw [m_cl_at hc] at hq
  cases hq
  exact hF c hc
theorem b_calling {U : State} {g : JFrame} {mk : MethodId} {a : Array Value} (h : b_B U) : b_B (U.calling g mk a) := by
  obtain ⟨h1, h2, h3, h4, h5, h6⟩ := h
  have hv : U.vm.Alike (U.calling g mk a).vm := Vm.Alike.refl U.vm
  exact ⟨va_Nw.same rfl rfl h1, va_Nw.same rfl rfl h2, va_Nw.same rfl rfl h3, va_Nw.same rfl rfl h4, h5.moved hv, h6.moved hv⟩
set_option maxHeartbeats 8000000 in
set_option maxRecDepth 100000 in
theorem whole_start {p : Program} {e : Env} {s : State} {m : MethodId} {below : List Frame} {meth : Method} {c : Code} (l : Launch) (hflags : l.flags = flags0) {b L : Nat} {xs : Nat → Int32} (hL : L ≤ 3072) (C0 : lw_At p s m meth c b L xs) : W p l e room_1 s m #[Value.ref b] below meth c s.heap [] 0 0 (lw_Z below #[Value.ref b] s) (entryFrame m ([Value.ref b] : List Value).toArray 4) := by
  obtain ⟨hx, hb, hr, hml, hown, hts0, hX, hbl, hlocks, hgv⟩ := id C0
  have hts : ∀ w ∈ m_wall, w.before #[Value.ref b] s = true := fun w hw => hts0 w (List.mem_filter.mp hw).1
  have hA : ∀ q : Nat, s.heap.size ≤ q → (fun q : Nat => s.heap.size ≤ q) q := fun _ h => h
  obtain ⟨D, hK⟩ := b_known hts
  obtain ⟨st, adK, adV, fz, hfz, hRO⟩ := b_ro (A := fun q : Nat => s.heap.size ≤ q) (fun a ha => Nat.not_le.mpr ha) hts0 hX hgv
  have hB : b_B s := ⟨va_Nw.of rfl (hts0 _ (b_tb 25 (by decide +kernel))), va_Nw.of rfl (hts0 _ (b_tb 67 (by decide +kernel))), va_Nw.of rfl (hts0 _ (b_tb 143 (by decide +kernel))), va_Nw.of rfl (hts0 _ (b_tb 161 (by decide +kernel))), va_AO.of (hts0 _ (b_tb 22 (by decide +kernel))), va_AO.of (hts0 _ (b_tb 140 (by decide +kernel)))⟩
  have hS : va_S (fun q : Nat => s.heap.size ≤ q) s.heap s.heap [] := va_S.rf
  have hP : va_P D m_cl [] s.heap := fun k q h => by simp at h
  have hD : va_D (fun q : Nat => s.heap.size ≤ q) [] := ⟨fun i j p q h => by simp at h, fun k q h => by simp at h⟩
  have hl := lv_entry ([.ref b]) (n := 4) (Nat.le_of_ble_eq_true rfl)
  rw [lg_entry_eq]
  generalize (lg_sl ([.ref b]) ++ List.replicate (4 - (lg_sl ([.ref b])).length) Slot.unset).toArray = ls at hl ⊢
  have hl : lv_has ls 4 [(0, .ref b)] := hl
  refine va_new (ci := 0) (fs := [.null, .null, .null, .null, .null, .null, .null, .int 0, .int 0]) (C := m_on 0) (T := m_Tc 0) (N := m_nf 0) hx hb hts (m_uin (by decide)) (m_ty 0) (b_ty (by decide)) hown (hts _ b_w13) (hts _ b_w14) (hts _ b_w1) hK hP hD hS hA (m_cl_at (by decide)) b_f0 (Nat.le_of_ble_eq_true rfl) (Nat.le_of_ble_eq_true rfl) b_d7_0 (fun a0 H hP hD hS => ?_)
  have hP : va_P D m_cl [(a0, .inr (0, [.null, .null, .null, .null, .null, .null, .null, .int 0, .int 0]))] H := hP
  have hD : va_D (fun q : Nat => s.heap.size ≤ q) [(a0, .inr (0, [.null, .null, .null, .null, .null, .null, .null, .int 0, .int 0]))] := hD
  refine W.widen (k := 1) (n := 9) (Nat.le_of_ble_eq_true rfl) (Nat.le_of_ble_eq_true rfl) ?_
  refine lv_dup hx hb b_d7_3 rfl ?_
  refine b_after (k := 0) (va_runI (As := []) (rest := [.ref a0]) ⟨hx, hb, hml, hown, hts⟩ (b_c0 l D a0 H.size) (cwI 0 hts (b_good b_w17) rfl rfl rfl (hts _ b_w1) (hts _ b_w15) (hts _ b_w16) rfl (by decide +kernel) ⟨Nat.le_of_ble_eq_true rfl, Nat.le_of_ble_eq_true rfl⟩) (b_pres (k := 0) (fun _ _ _ _ z => b_calling z) (fun U hW => ⟨va_Nw.warmM hW hB.1, va_Nw.warmM hW hB.2.1, va_Nw.warmM hW hB.2.2.1, va_Nw.warmM hW hB.2.2.2.1, hB.2.2.2.2.1.moved hW.alike, hB.2.2.2.2.2.moved hW.alike⟩) hK hP rfl) rfl rfl hl.1 rfl (lv_room (Nat.le_of_ble_eq_true rfl)) b_d7_4 ⟨Nat.le_of_ble_eq_true rfl, Nat.le_of_ble_eq_true rfl⟩) hK hP hD hS hA rfl (fun e1 wn t H locs hw hK hP hD hS => ?_)
  obtain ⟨f, k, rfl, rfl, rfl⟩ := hw
  have hP : va_P D m_cl ((a0, b_E0 f k) :: b_W0 f k) H := hP
  have hD : va_D (fun q : Nat => s.heap.size ≤ q) ((a0, b_E0 f k) :: b_W0 f k) := hD
  have hK : va_K D m_cl (b_L0 k) s := hK
  refine W.widen (k := 100) (n := 3000) (Nat.le_of_ble_eq_true rfl) (Nat.le_of_ble_eq_true rfl) ?_
  refine lv_astore_n (lv' := [(1, .ref a0), (0, .ref b)]) hx hb b_d7_7 rfl hl (by decide) rfl (fun ls hl => ?_)
  refine va_new (ci := 6) (fs := [.int 0, .int 0, .null, .null, .null, .null, .null, .int 0, .null, .int 0, .int 0, .int 0, .int 0, .int 0, .int 0, .int 0, .int 0, .int 0, .null, .null, .null, .null, .int 0]) (C := m_on 6) (T := m_Tc 6) (N := m_nf 6) hx hb hts (m_uin (by decide)) (m_ty 6) (b_ty (by decide)) hown (hts _ b_w651) (hts _ b_w652) (hts _ b_w8) hK hP hD hS hA (m_cl_at (by decide)) b_f6 (Nat.le_of_ble_eq_true rfl) (Nat.le_of_ble_eq_true rfl) b_d7_8 (fun a1 H hP hD hS => ?_)
  refine W.widen (k := 200) (n := 4000) (Nat.le_of_ble_eq_true rfl) (Nat.le_of_ble_eq_true rfl) ?_
  refine lv_dup hx hb b_d7_11 rfl ?_
  refine b_after (k := 79) (va_runI (As := []) (rest := [.ref a1]) ⟨hx, hb, hml, hown, hts⟩ (b_c6 l D a1 H.size) (cwI 0 hts (b_good b_w655) rfl rfl rfl (hts _ b_w8) (hts _ b_w653) (hts _ b_w654) rfl (by decide +kernel) ⟨Nat.le_of_ble_eq_true rfl, Nat.le_of_ble_eq_true rfl⟩) (b_pres (k := 79) (fun _ _ _ _ z => z) (fun _ _ => trivial) hK hP rfl) rfl rfl hl.1 rfl (lv_room (Nat.le_of_ble_eq_true rfl)) b_d7_12 ⟨Nat.le_of_ble_eq_true rfl, Nat.le_of_ble_eq_true rfl⟩) hK hP hD hS hA rfl (fun e1 wn t H locs hw hK hP hD hS => ?_)
  obtain ⟨g, k1, rfl, rfl, rfl⟩ := hw
  have hP : va_P D m_cl (b_W a0 a1 f g k k1) H := hP
  have hD : va_D (fun q : Nat => s.heap.size ≤ q) (b_W a0 a1 f g k k1) := hD
  refine W.widen (k := 600000) (n := 7302250) (Nat.le_of_ble_eq_true rfl) (Nat.le_of_ble_eq_true rfl) ?_
  refine lv_astore_n (lv' := [(2, .ref a1), (1, .ref a0), (0, .ref b)]) hx hb b_d7_15 rfl hl (by decide) rfl (fun ls hl => ?_)
  refine lv_iconst (v := 0) hx hb b_d7_16 (by decide) ?_
  refine lv_istore_n (lv' := [(3, .int 0), (2, .ref a1), (1, .ref a0), (0, .ref b)]) hx hb b_d7_17 rfl hl (by decide) rfl (fun ls hl => ?_)
  obtain ⟨G, hG⟩ : ∃ G, G = b_G D a0 a1 b f g st adK adV k k1 fz := ⟨_, rfl⟩
  have hRO := hRO G (by rw [hG]; rfl) (by rw [hG]; rfl) (by rw [hG]; rfl) (by rw [hG]; rfl) (by rw [hG]; rfl)
  have hz : m_hz G := by rw [hG]; exact hfz
  have hK9 : va_K G.1 m_cl (m_tys G) s := by rw [hG, b_tys]; exact hK
  have e1 := b_ws (E := (L, xs)) (D := D) (a0 := a0) (a1 := a1) (b := b) (f := f) (g := g) (st := st) (adK := adK) (adV := adV) (k := k) (k1 := k1) (fz := fz)
  have hP9 : va_P G.1 m_cl (m_ws G (L, xs) b_σ) H := by
    rw [hG, e1]
    refine b_setI (b_setR (b_setR hP rfl ?_) rfl ?_) rfl ?_
    · intro j hj
      match j, hj with
      | 0, _ => rfl
      | 1, _ => rfl
      | 2, _ => rfl
      | 3, _ => rfl
      | 4, _ => rfl
      | 5, _ => rfl
      | 6, _ => rfl
      | 7, _ => rfl
      | j + 8, hj => omega
    · intro j hj
      match j, hj with
      | 0, _ => rfl
      | 1, _ => rfl
      | j + 2, hj => omega
    · intro j hj
      match j, hj with
      | 0, _ => rfl
      | 1, _ => rfl
      | 2, _ => rfl
      | 3, _ => rfl
      | 4, _ => rfl
      | 5, _ => rfl
      | 6, _ => rfl
      | 7, _ => rfl
      | j + 8, hj => omega
  have hD9 : va_D (fun q : Nat => s.heap.size ≤ q) (m_ws G (L, xs) b_σ) := by
    rw [hG, e1]
    exact ((hD.set (p := 1) rfl).set (p := 27) rfl).set (p := 80) rfl
  have hSnd := m_sound (l := l) (A := fun q : Nat => s.heap.size ≤ q) hz (b_dall hD9) (z_loop (E := (L, xs)) hL 513 0 b_σ rfl b_sim)
  refine hSnd p e room_1 s m #[Value.ref b] below meth c 600000 7302250 (lw_Z below #[Value.ref b] s) ⟨hx, hb, hml, hown, hts, hK9, hRO, Nat.le_of_ble_eq_true rfl, Nat.le_of_ble_eq_true rfl, Nat.le_refl _, Nat.le_refl _⟩ ?_ (fun z => absurd rfl z) H locs ls hP9 hS ?_ ?_ ?_
  · intro σ' H' locs' pc' ls' rs hP' hS' hok' hQ' hend
    have hrs : rs = [vI 1] := hQ'
    subst hrs
    have hd : decode code pc' = .ok (.ireturn, 1) := by
      rcases hend with ⟨x, ty, h1, h2, h3, h4⟩ | ⟨x, h1, h2, h3⟩ | ⟨x, n, h1, h2, h3⟩ | ⟨h1, h2, h3⟩
      · exact h4
      · cases h1
      · cases h1
      · cases h1
    exact va_forget hS'.2.2 (lw_ret hx hb hr hlocks hd)
  · have h9 := lv_sub hl [3, 2, 1, 0] rfl
    rw [hG]
    exact h9
  · intro i v hv
    match i, hv with
    | 0, hv => cases hv; rfl
    | 1, hv => cases hv; rfl
    | 2, hv => cases hv; rfl
    | 3, hv => cases hv; rfl
    | i + 4, hv => cases hv
  · intro v hv
    cases hv
