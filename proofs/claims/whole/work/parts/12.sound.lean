/-! soundness: what the machine does, the byte code does -/
theorem m_dec {y pc : Nat} {e : m_I} (h : m_fetch y pc = some e) : ∃ len, decode (m_bytes y) pc = .ok (e.1, len) ∧ pc + len = e.2.1 ∧ (m_il e.1 = 0 ∨ m_il e.1 = len) ∧ m_c2 (m_oc y) (m_max y) pc e = true := by
  have h1 := m_ok y
  unfold m_okr at h1
  rw [Bool.and_eq_true] at h1
  have hlt : pc < 16 * (m_rec y).1.length := by
    rcases Nat.lt_or_ge pc (16 * (m_rec y).1.length) with q | q
    · exact q
    · exfalso
      unfold m_fetch at h
      rw [m_nth_lt (m_rec y).1 (pc / 16) (by omega)] at h
      unfold m_nth at h
      cases h
  have h2 := List.all_eq_true.mp h1.2 pc (List.mem_range.mpr hlt)
  unfold m_fetch at h
  rw [h] at h2
  dsimp only at h2
  unfold m_c1 at h2
  have h3 : (match decode (m_bytes y) pc with
    | .ok (i, len) => decide (i = e.1) && Nat.beq (pc + len) e.2.1 && (Nat.beq (m_il i) 0 || Nat.beq (m_il i) len) && m_c2 (m_oc y) (m_max y) pc e
    | .error _ => false) = true := h2
  cases hd : decode (m_bytes y) pc with
  | error _ => rw [hd] at h3; cases h3
  | ok q =>
    obtain ⟨i, len⟩ := q
    rw [hd] at h3
    simp only [Bool.and_eq_true, Bool.or_eq_true, decide_eq_true_eq] at h3
    obtain ⟨⟨⟨e1, e2⟩, e3⟩, e4⟩ := h3
    subst e1
    exact ⟨len, rfl, Nat.eq_of_beq_eq_true e2, e3.imp Nat.eq_of_beq_eq_true Nat.eq_of_beq_eq_true, e4⟩
theorem m_has5_of {l : List (Nat × Nat × Nat × Nat × Nat)} {oc i a b : Nat} (h : m_has5 l oc i a b = true) : ∃ p, (oc, i, a, b, p) ∈ l := by
  unfold m_has5 at h
  obtain ⟨⟨x1, x2, x3, x4, x5⟩, hm, h⟩ := List.any_eq_true.mp h
  simp only [Bool.and_eq_true] at h
  obtain ⟨⟨⟨e1, e2⟩, e3⟩, e4⟩ := h
  cases Nat.eq_of_beq_eq_true e1; cases Nat.eq_of_beq_eq_true e2; cases Nat.eq_of_beq_eq_true e3; cases Nat.eq_of_beq_eq_true e4
  exact ⟨x5, hm⟩
theorem m_has4_of {l : List (Nat × Nat × Nat × Nat)} {oc i b : Nat} (h : m_has4 l oc i b = true) : ∃ p, (oc, i, b, p) ∈ l := by
  unfold m_has4 at h
  obtain ⟨⟨x1, x2, x3, x4⟩, hm, h⟩ := List.any_eq_true.mp h
  simp only [Bool.and_eq_true] at h
  obtain ⟨⟨e1, e2⟩, e3⟩ := h
  cases Nat.eq_of_beq_eq_true e1; cases Nat.eq_of_beq_eq_true e2; cases Nat.eq_of_beq_eq_true e3
  exact ⟨x4, hm⟩
def m_Tc (c : Nat) : u_T := m_nth [m_T0, m_T1, m_T2, m_T3, m_T4, m_T5, m_T6] c m_T0
def m_ty (c j : Nat) : FieldType := (parseFieldDescriptor (m_Tc c j).2.2.1).getD .int
theorem m_cl_at {c : Nat} (h : c < 7) : m_cl[c]? = some (m_on c, m_Tc c, m_nf c) := by
  match c, h with
  | 0, _ => rfl
  | 1, _ => rfl
  | 2, _ => rfl
  | 3, _ => rfl
  | 4, _ => rfl
  | 5, _ => rfl
  | 6, _ => rfl
theorem m_below {P : Nat → Nat → Bool} (h : ((List.range 7).all fun c => (List.range (m_nf c)).all fun j => P c j) = true) {c j : Nat} (hc : c < 7) (hj : j < m_nf c) : P c j = true :=
  List.all_eq_true.mp (List.all_eq_true.mp h c (List.mem_range.mpr hc)) j (List.mem_range.mpr hj)
theorem m_tyc : ((List.range 7).all fun c => (List.range (m_nf c)).all fun j => decide (parseFieldDescriptor (m_Tc c j).2.2.1 = some (m_ty c j)) && decide (m_fn c j = ((m_Tc c j).1, (m_Tc c j).2.1, (m_Tc c j).2.2.1))) = true := by decide +kernel
theorem m_nmc : ((List.range 7).all fun c => (List.range (m_nf c)).all fun a => (List.range (m_nf c)).all fun b => decide (a = b) || decide ((m_Tc c a).2.1 ≠ (m_Tc c b).2.1)) = true := by decide +kernel
/-- what may be stored: ints, booleans -/
theorem m_stc : ((List.range 7).all fun c => (List.range (m_nf c)).all fun j => match m_fr c j 0 with
  | some _ => true
  | none => !(m_Tc c j).2.2.2 && cond (m_fb c j) (decide (m_ty c j = .boolean)) (decide (m_ty c j = .int))) = true := by decide +kernel
theorem m_frn : ((List.range 7).all fun c => (List.range (m_nf c)).all fun j => match m_fr c j 0 with
  | some _ => true
  | none => (List.range 32).all fun v => (m_fr c j v).isNone) = true := by decide +kernel
theorem m_uws : ((List.range 7).all fun c => (u_ws (m_on c) (m_Tc c) (m_nf c)).all fun w => decide (w ∈ tables_1) && goodWord w) = true := by decide +kernel
theorem m_uin {c : Nat} (h : c < 7) : ∀ w ∈ u_ws (m_on c) (m_Tc c) (m_nf c), w ∈ m_wall := by
  intro w hw
  have h1 := List.all_eq_true.mp (List.all_eq_true.mp m_uws c (List.mem_range.mpr h)) w hw
  rw [Bool.and_eq_true, decide_eq_true_eq] at h1
  exact List.mem_filter.mpr ⟨List.mem_append_right _ h1.1, h1.2⟩
theorem m_c_lt {a b : Nat} (h : Nat.blt a b = true) : a < b := Nat.le_of_ble_eq_true h
theorem m_i1_el {f : Int32 → List m_V → Prop} {st : List m_V} (h : m_i1 f st) : ∃ x t, st = vI x :: t ∧ f x t := by
  unfold m_i1 at h; split at h
  · exact ⟨_, _, rfl, h⟩
  · exact h.elim
theorem m_i2_el {f : Int32 → Int32 → List m_V → Prop} {st : List m_V} (h : m_i2 f st) : ∃ x y t, st = vI y :: vI x :: t ∧ f x y t := by
  unfold m_i2 at h; split at h
  · exact ⟨_, _, _, rfl, h⟩
  · exact h.elim
theorem m_l1_el {f : Int64 → List m_V → Prop} {st : List m_V} (h : m_l1 f st) : ∃ x t, st = vL x :: t ∧ f x t := by
  unfold m_l1 at h; split at h
  · exact ⟨_, _, rfl, h⟩
  · exact h.elim
theorem m_l2_el {f : Int64 → Int64 → List m_V → Prop} {st : List m_V} (h : m_l2 f st) : ∃ x y t, st = vL y :: vL x :: t ∧ f x y t := by
  unfold m_l2 at h; split at h
  · exact ⟨_, _, _, rfl, h⟩
  · exact h.elim
theorem m_li_el {f : Int64 → Int32 → List m_V → Prop} {st : List m_V} (h : m_li f st) : ∃ x y t, st = vI y :: vL x :: t ∧ f x y t := by
  unfold m_li at h; split at h
  · exact ⟨_, _, _, rfl, h⟩
  · exact h.elim
theorem m_r1_el {f : Nat → Nat → List m_V → Prop} {st : List m_V} (h : m_r1 f st) : ∃ c v t, st = vR c v :: t ∧ f c v t := by
  unfold m_r1 at h; split at h
  · exact ⟨_, _, _, rfl, h⟩
  · exact h.elim
theorem m_ri_el {f : Nat → Nat → Int32 → List m_V → Prop} {st : List m_V} (h : m_ri f st) : ∃ c v i t, st = vI i :: vR c v :: t ∧ f c v i t := by
  unfold m_ri at h; split at h
  · exact ⟨_, _, _, _, rfl, h⟩
  · exact h.elim
theorem m_rii_el {f : Nat → Nat → Int32 → Int32 → List m_V → Prop} {st : List m_V} (h : m_rii f st) : ∃ c v i x t, st = vI x :: vI i :: vR c v :: t ∧ f c v i x t := by
  unfold m_rii at h; split at h
  · exact ⟨_, _, _, _, _, rfl, h⟩
  · exact h.elim
theorem m_ril_el {f : Nat → Nat → Int32 → Int64 → List m_V → Prop} {st : List m_V} (h : m_ril f st) : ∃ c v i x t, st = vL x :: vI i :: vR c v :: t ∧ f c v i x t := by
  unfold m_ril at h; split at h
  · exact ⟨_, _, _, _, _, rfl, h⟩
  · exact h.elim
theorem m_rn_el {f : Option (Nat × Nat) → List m_V → Prop} {st : List m_V} (h : m_rn f st) : ∃ r t, st = .inr (.inr r) :: t ∧ f r t := by
  unfold m_rn at h; split at h
  · exact ⟨_, _, rfl, h⟩
  · exact h.elim
theorem m_ldI_el {f : Int32 → Prop} {ls : m_L} {i : Nat} (h : m_ldI ls i f) : ∃ x, m_nth ls i none = some (vI x) ∧ f x := by
  unfold m_ldI at h; split at h
  · next x e => exact ⟨_, e, h⟩
  · exact h.elim
theorem m_ldL_el {f : Int64 → Prop} {ls : m_L} {i : Nat} (h : m_ldL ls i f) : ∃ x, m_nth ls i none = some (vL x) ∧ f x := by
  unfold m_ldL at h; split at h
  · next x e => exact ⟨_, e, h⟩
  · exact h.elim
theorem m_ldR_el {f : Option (Nat × Nat) → Prop} {ls : m_L} {i : Nat} (h : m_ldR ls i f) : ∃ r, m_nth ls i none = some (.inr (.inr r)) ∧ f r := by
  unfold m_ldR at h; split at h
  · next x e => exact ⟨_, e, h⟩
  · exact h.elim
theorem m_sw_at {pc : Nat} {x : Int} {K : Nat → Prop} : ∀ (os : List Int) (lo : Int) (k : Nat) (o : Int), m_sw pc x K lo os → os[k]? = some o → x = lo + k → K (Int.toNat ((pc : Int) + o))
  | [], _, _, _, _, h, _ => by cases h
  | o :: os, lo, 0, o', hs, h, hx => by
    cases h
    exact hs.1 (by simpa using hx)
  | o :: os, lo, k + 1, o', hs, h, hx => m_sw_at os (lo + 1) k o' hs.2 h (by rw [hx]; push_cast; omega)
theorem m_cv_r {G : m_G} {c v : Nat} (h : ¬ c = 20) : m_cv G (vR c v) = .ref (G.2.1 c v) := by
  show cond (Nat.beq c 20) _ _ = _
  rw [m_nbeq h]
  rfl
theorem m_fv_okc : ((List.range 18).all fun c => (List.range 23).all fun j => (List.range 31).all fun v => !m_vr c v || match m_fr c j v with
  | some (c', v') => m_vr c' v'
  | none => true) = true := by decide +kernel
theorem m_vr31 : ((List.range 18).all fun c => Nat.ble (m_nth [1, 1, 31, 8, 1, 4, 1, 0, 0, 0, 1, 1, 31, 8, 1, 1, 4, 10, 1, 10, 1] c 0) 31) = true := by decide +kernel
theorem m_fv_ok {σ : m_M} {c j v : Nat} (hc : c < 18) (hj : j < 23) (hv : m_vr c v = true) : m_vo (m_fv σ c j v) = true := by
  have h1 := List.all_eq_true.mp m_vr31 c (List.mem_range.mpr hc)
  have hv31 : v < 31 := Nat.lt_of_lt_of_le (Nat.le_of_ble_eq_true hv) (Nat.le_of_ble_eq_true h1)
  have h2 := List.all_eq_true.mp (List.all_eq_true.mp (List.all_eq_true.mp m_fv_okc c (List.mem_range.mpr hc)) j (List.mem_range.mpr hj)) v (List.mem_range.mpr hv31)
  rw [hv] at h2
  unfold m_fv
  cases hf : m_fr c j v with
  | none => rfl
  | some q =>
    rw [hf] at h2
    exact h2
theorem m_ent_o {G : m_G} {E : m_E} {σ : m_M} {c v : Nat} (hc : c < 7) : m_ent G E σ c v = .inr (c, (List.range (m_nf c)).map fun j => m_cv G (m_fv σ c j v)) := by
  unfold m_ent
  rw [show Nat.blt c 7 = true from Nat.ble_eq_true_of_le hc]
  rfl
theorem m_ent_a {G : m_G} {E : m_E} {σ : m_M} {c v : Nat} (hc : ¬ c < 7) : m_ent G E σ c v = .inl (G.2.2.1 c v, m_len E c v, m_con G σ c v) := by
  unfold m_ent
  cases h : Nat.blt c 7 with
  | true => exact absurd (m_c_lt h) hc
  | false => rfl
theorem m_nf23 : ((List.range 7).all fun c => Nat.ble (m_nf c) 23) = true := by decide +kernel
theorem m_nf_lt {c j : Nat} (hc : c < 7) (hj : j < m_nf c) : j < 23 := Nat.lt_of_lt_of_le hj (Nat.le_of_ble_eq_true (List.all_eq_true.mp m_nf23 c (List.mem_range.mpr hc)))
theorem m_ent_put {G : m_G} {E : m_E} {σ : m_M} {c v b : Nat} {x : Int32} (hc : c < 7) (hf : m_fr c b v = none) : m_ent G E (m_up σ c v b x) c v = .inr (c, ((List.range (m_nf c)).map fun j => m_cv G (m_fv σ c j v)).set b (.int x)) := by
  rw [m_ent_o hc]
  congr 2
  apply List.ext_getElem?
  intro i
  rw [List.getElem?_set, List.getElem?_map, List.getElem?_map]
  by_cases hi : i < m_nf c
  · rw [List.getElem?_range hi]
    by_cases hb : b = i
    · subst hb
      rw [if_pos rfl, if_pos (by simpa using hi)]
      simp only [Option.map_some]
      congr 1
      unfold m_fv
      rw [hf]
      show Value.int (cond (Nat.beq c 17) 0 (if c = c ∧ v = v ∧ b = b then x else σ.1 c v b)) = _
      rw [m_nbeq (show ¬ c = 17 by omega), if_pos ⟨rfl, rfl, rfl⟩]
      rfl
    · rw [if_neg hb]
      simp only [Option.map_some]
      congr 2
      unfold m_fv
      show (match m_fr c i v with | some r => _ | none => vI (cond (Nat.beq c 17) 0 (if c = c ∧ v = v ∧ i = b then x else σ.1 c v i))) = _
      rw [if_neg (fun q => hb q.2.2.symm)]
      all_goals (cases m_fr c i v <;> rfl)
  · have e : (List.range (m_nf c))[i]? = none := by simp; omega
    rw [e]
    by_cases hb : b = i
    · subst hb
      rw [if_pos rfl, if_neg (by simpa using hi)]
      rfl
    · rw [if_neg hb]
      rfl
theorem m_up_other {σ : m_M} {c v j c' v' : Nat} {x : Int32} (h : ¬ (c' = c ∧ v' = v)) : (m_up σ c v j x).1 c' v' = σ.1 c' v' := by
  funext j'
  show (if c' = c ∧ v' = v ∧ j' = j then x else _) = _
  rw [if_neg (fun q => h ⟨q.1, q.2.1⟩)]
theorem m_ws_up {G : m_G} {E : m_E} {σ : m_M} {k c v j : Nat} {x : Int32} (h : m_objs[k]? = some (c, v)) : (m_ws G E σ).set k (G.2.1 c v, m_ent G E (m_up σ c v j x) c v) = m_ws G E (m_up σ c v j x) := m_setw h fun _ _ _ hne => m_ent_congr (m_up_other hne) (fun _ => rfl)
theorem m_objs14 : (m_objs.all fun q => !Nat.beq q.1 14 || Nat.beq q.2 0) = true := by decide +kernel
theorem m_ws_upL {G : m_G} {E : m_E} {σ : m_M} {k v j : Nat} {x : Int64} (h : m_objs[k]? = some (14, v)) (hv : v = 0) : (m_ws G E σ).set k (G.2.1 14 v, m_ent G E (m_upL σ j x) 14 v) = m_ws G E (m_upL σ j x) := by
  refine m_setw h fun c' v' hm hne => m_ent_congr rfl fun e => ?_
  exfalso
  subst e
  have h1 := List.all_eq_true.mp m_objs14 _ hm
  exact hne ⟨rfl, (m_beq h1).trans hv.symm⟩
theorem m_getD {α : Type} {d : α} : ∀ (l : List α) (n : Nat), l.getD n d = m_nth l n d
  | [], _ => by simp [m_nth]
  | a :: l, 0 => rfl
  | a :: l, n + 1 => m_getD l n
section Rows
variable {p : Program} {l : Launch} {e : Env} {R : Room} {s : State} {m : MethodId} {args : Array Value} {below : List Frame} {meth : Method} {c : Code} {H : Heap} {locs : List Loc} {cells slots : Nat} {QF : State → Prop} {cc : ByteArray} {pc : Nat} {ls : Array Slot} {rest : List Value} {G : m_G}
theorem m_aload (hz : m_hz G) (hx : p.tables.exec = Jvm.exec) (hb : c.code = cc) {i : Nat} {r : Option (Nat × Nat)} (hd : decode cc pc = .ok (.aload i, 2)) (hl : ls[i]? = some (.val (m_cv G (.inr (.inr r)))))
    (k : W p l e R s m args below meth c H locs cells slots QF (F0 m (pc + 2) ls (m_cv G (.inr (.inr r)) :: rest))) : W p l e R s m args below meth c H locs cells slots QF (F0 m pc ls rest) := by
  rcases m_cv_ref hz r with q | ⟨t, q⟩ <;> rw [q] at hl k
  · exact lv_aloadN hx hb hd hl k
  · exact lv_aload hx hb hd hl k
theorem m_aload_n (hz : m_hz G) (hx : p.tables.exec = Jvm.exec) (hb : c.code = cc) {i : Fin 4} {r : Option (Nat × Nat)} (hd : decode cc pc = .ok (.aload_n i, 1)) (hl : ls[(i : Nat)]? = some (.val (m_cv G (.inr (.inr r)))))
    (k : W p l e R s m args below meth c H locs cells slots QF (F0 m (pc + 1) ls (m_cv G (.inr (.inr r)) :: rest))) : W p l e R s m args below meth c H locs cells slots QF (F0 m pc ls rest) := by
  rcases m_cv_ref hz r with q | ⟨t, q⟩ <;> rw [q] at hl k
  · exact lv_aload_nN hx hb hd rfl hl k
  · exact lv_aload_n hx hb hd rfl hl k
theorem m_astore (hz : m_hz G) (hx : p.tables.exec = Jvm.exec) (hb : c.code = cc) {i nL : Nat} {r : Option (Nat × Nat)} {ml : m_L} (hd : decode cc pc = .ok (.astore i, 2)) (h : lv_has ls nL (m_lvp G 0 ml)) (hn : i < nL)
    (k : ∀ la : Array Slot, lv_has la nL (m_lvp G 0 (m_st ml i (.inr (.inr r)))) → W p l e R s m args below meth c H locs cells slots QF (F0 m (pc + 2) la rest)) : W p l e R s m args below meth c H locs cells slots QF (F0 m pc ls (m_cv G (.inr (.inr r)) :: rest)) := by
  have hs := m_st_sub (G := G) hz (ls := ml) (i := i) (v := .inr (.inr r))
  rcases m_cv_ref hz r with q | ⟨t, q⟩ <;> rw [q] at hs ⊢
  · exact lv_astoreN hx hb hd h hn rfl (fun la h' => k la (m_has_sub h' hs))
  · exact lv_astore hx hb hd h hn rfl (fun la h' => k la (m_has_sub h' hs))
theorem m_astore_n (hz : m_hz G) (hx : p.tables.exec = Jvm.exec) (hb : c.code = cc) {i : Fin 4} {nL : Nat} {r : Option (Nat × Nat)} {ml : m_L} (hd : decode cc pc = .ok (.astore_n i, 1)) (h : lv_has ls nL (m_lvp G 0 ml)) (hn : (i : Nat) < nL)
    (k : ∀ la : Array Slot, lv_has la nL (m_lvp G 0 (m_st ml i (.inr (.inr r)))) → W p l e R s m args below meth c H locs cells slots QF (F0 m (pc + 1) la rest)) : W p l e R s m args below meth c H locs cells slots QF (F0 m pc ls (m_cv G (.inr (.inr r)) :: rest)) := by
  have hs := m_st_sub (G := G) hz (ls := ml) (i := i) (v := .inr (.inr r))
  rcases m_cv_ref hz r with q | ⟨t, q⟩ <;> rw [q] at hs ⊢
  · exact lv_astore_nN hx hb hd rfl h hn rfl (fun la h' => k la (m_has_sub h' hs))
  · exact lv_astore_n hx hb hd rfl h hn rfl (fun la h' => k la (m_has_sub h' hs))
end Rows
