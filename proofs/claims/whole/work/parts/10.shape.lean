/-! the machine's shape in the heap -/
theorem m_beq {a b : Nat} (h : Nat.beq a b = true) : a = b := Nat.eq_of_beq_eq_true h
theorem m_nbeq {a b : Nat} (h : ¬ a = b) : Nat.beq a b = false := by
  cases h2 : Nat.beq a b with
  | false => rfl
  | true => exact absurd (m_beq h2) h
theorem m_beqf {a b : Nat} (h : Nat.beq a b = false) : ¬ a = b := fun e => by
  subst e
  rw [Nat.beq_refl] at h
  cases h
/-- the classes' numbers and slots; addresses; the classes of arrays; what Preconditions' formatter is -/
abbrev m_G : Type := va_G × (Nat → Nat → Nat) × (Nat → Nat → ClassId) × Value
def m_vr (c v : Nat) : Bool := Nat.blt v (m_nth [1, 1, 31, 8, 1, 4, 1, 0, 0, 0, 1, 1, 31, 8, 1, 1, 4, 10, 1, 10, 1] c 0)
def m_vo : m_V → Bool
  | .inr (.inr (some (c, v))) => m_vr c v
  | _ => true
def m_cv (G : m_G) : m_V → Value
  | .inl x => .int x
  | .inr (.inl x) => .long x
  | .inr (.inr none) => .null
  | .inr (.inr (some (c, v))) => cond (Nat.beq c 20) G.2.2.2 (.ref (G.2.1 c v))
def m_lvp (G : m_G) : Nat → m_L → List (Nat × Value)
  | _, [] => []
  | i, some v :: l => (i, m_cv G v) :: m_lvp G (i + 1) l
  | i, none :: l => m_lvp G (i + 1) l
def m_con (G : m_G) (σ : m_M) (c v : Nat) : (Nat → Int32) ⊕ (Nat → Int64) ⊕ (Nat → UInt32) ⊕ (Nat → UInt64) ⊕ (Nat → Option Nat) :=
  cond (Nat.beq c 10) (.inr (.inr (.inr (.inr fun i => some (G.2.1 3 i))))) (cond (Nat.beq c 11) (.inr (.inr (.inr (.inr fun i => some (G.2.1 5 (2 + i)))))) (cond (Nat.beq c 14) (.inr (.inl σ.2)) (.inl (σ.1 c v))))
def m_ent (G : m_G) (E : m_E) (σ : m_M) (c v : Nat) : va_E := cond (Nat.blt c 7) (.inr (c, (List.range (m_nf c)).map fun j => m_cv G (m_fv σ c j v))) (.inl (G.2.2.1 c v, m_len E c v, m_con G σ c v))
def m_aty (c : Nat) : FieldType := m_nth [.object "AsManyAsCame$Row", .object "AsManyAsCame$Town", .int, .int, .long, .boolean] (c - 10) .int
def m_objT (v : Nat) : List (Nat × Nat) := [(5, v), (2, 5 * v), (12, 5 * v), (2, 5 * v + 1), (12, 5 * v + 1), (2, 5 * v + 2), (12, 5 * v + 2), (2, 5 * v + 3), (12, 5 * v + 3), (2, 5 * v + 4), (12, 5 * v + 4)]
def m_objR (v : Nat) : List (Nat × Nat) := [(3, v), (2, 20 + v), (12, 20 + v)]
def m_objs : List (Nat × Nat) := [(0, 0), (10, 0), (4, 0), (2, 28), (12, 28)] ++ m_objT 0 ++ m_objT 1 ++ [(11, 0), (1, 0), (2, 29), (12, 29), (2, 30), (12, 30)] ++ m_objR 0 ++ m_objR 1 ++ m_objR 2 ++ m_objR 3 ++ m_objR 4 ++ m_objR 5 ++ m_objR 6 ++ m_objR 7 ++ m_objT 2 ++ m_objT 3 ++ [(6, 0), (13, 0), (13, 1), (13, 2), (13, 3), (13, 4), (13, 5), (14, 0), (15, 0), (13, 6), (13, 7)]
def m_ws (G : m_G) (E : m_E) (σ : m_M) : va_W := m_objs.map fun q => (G.2.1 q.1 q.2, m_ent G E σ q.1 q.2)
def m_arrs : List (Nat × Nat) := m_objs.filter fun q => Nat.ble 10 q.1
def m_tys (G : m_G) : List (ClassId × FieldType) := m_arrs.map fun q => (G.2.2.1 q.1 q.2, m_aty q.1)
theorem m_objs_nd : m_objs.Nodup := by decide +kernel
theorem m_objs_in : ((List.range 16).all fun c => (List.range 31).all fun v => !m_vr c v || decide ((c, v) ∈ m_objs)) = true := by decide +kernel
theorem m_vr_lt : ((List.range 16).all fun c => Nat.ble (m_nth [1, 1, 31, 8, 1, 4, 1, 0, 0, 0, 1, 1, 31, 8, 1, 1, 4, 10, 1, 10, 1] c 0) 31) = true := by decide +kernel
theorem m_mem {c v : Nat} (h : m_vr c v = true) (hc : c < 16) : (c, v) ∈ m_objs := by
  have h1 := List.all_eq_true.mp m_vr_lt c (List.mem_range.mpr hc)
  have hv : v < 31 := Nat.lt_of_lt_of_le (Nat.le_of_ble_eq_true h) (Nat.le_of_ble_eq_true h1)
  have h2 := List.all_eq_true.mp (List.all_eq_true.mp m_objs_in c (List.mem_range.mpr hc)) v (List.mem_range.mpr hv)
  rw [h] at h2
  exact of_decide_eq_true h2
theorem m_pos {c v : Nat} (h : m_vr c v = true) (hc : c < 16) : ∃ k : Nat, m_objs[k]? = some (c, v) := List.getElem?_of_mem (m_mem h hc)
theorem m_tpos {G : m_G} {c v : Nat} (h : m_vr c v = true) (hc : c < 16) (h10 : 10 ≤ c) : ∃ t : Nat, (m_tys G)[t]? = some (G.2.2.1 c v, m_aty c) := by
  have h1 : (c, v) ∈ m_arrs := List.mem_filter.mpr ⟨m_mem h hc, Nat.ble_eq_true_of_le h10⟩
  obtain ⟨t, ht⟩ := List.getElem?_of_mem h1
  exact ⟨t, by unfold m_tys; rw [List.getElem?_map, ht]; rfl⟩
theorem m_at {G : m_G} {E : m_E} {σ : m_M} {k c v : Nat} (h : m_objs[k]? = some (c, v)) : (m_ws G E σ)[k]? = some (G.2.1 c v, m_ent G E σ c v) := by
  unfold m_ws; rw [List.getElem?_map, h]; rfl
theorem m_setw {G : m_G} {E : m_E} {σ σ' : m_M} {k c v : Nat} (h : m_objs[k]? = some (c, v)) (he : ∀ c' v', (c', v') ∈ m_objs → ¬ (c' = c ∧ v' = v) → m_ent G E σ' c' v' = m_ent G E σ c' v') : (m_ws G E σ).set k (G.2.1 c v, m_ent G E σ' c v) = m_ws G E σ' := by
  apply List.ext_getElem?
  intro i
  rw [List.getElem?_set]
  have hk := (List.getElem?_eq_some_iff.mp h).1
  by_cases hi : k = i
  · subst hi
    rw [if_pos rfl, if_pos (by unfold m_ws; rw [List.length_map]; exact hk), m_at h]
  · rw [if_neg hi]
    unfold m_ws
    rw [List.getElem?_map, List.getElem?_map]
    cases hq : m_objs[i]? with
    | none => rfl
    | some q =>
      obtain ⟨c', v'⟩ := q
      have hne : ¬ (c' = c ∧ v' = v) := by
        rintro ⟨rfl, rfl⟩
        exact hi ((List.getElem?_inj hk m_objs_nd).mp (h.trans hq.symm))
      simp only [Option.map_some]
      rw [he c' v' (List.mem_of_getElem? hq) hne]
theorem m_ent_congr {G : m_G} {E : m_E} {σ σ' : m_M} {c v : Nat} (h1 : σ'.1 c v = σ.1 c v) (h2 : c = 14 → σ'.2 = σ.2) : m_ent G E σ' c v = m_ent G E σ c v := by
  have e1 : ∀ j, m_fv σ' c j v = m_fv σ c j v := fun j => by unfold m_fv; rw [h1]
  have e2 : m_con G σ' c v = m_con G σ c v := by
    unfold m_con
    rw [h1]
    by_cases hc : c = 14
    · rw [h2 hc]
    · rw [m_nbeq hc]
      rfl
  unfold m_ent
  rw [e2]
  simp only [e1]
theorem m_lvp_mem {G : m_G} : ∀ (l : m_L) (i : Nat) (q : Nat × Value), q ∈ m_lvp G i l → ∃ k v, q = (i + k, m_cv G v) ∧ m_nth l k none = some v
  | [], i, q, h => by unfold m_lvp at h; cases h
  | some v :: l, i, q, h => by
    unfold m_lvp at h
    rcases List.mem_cons.mp h with rfl | h
    · exact ⟨0, v, rfl, rfl⟩
    · obtain ⟨k, w, h1, h2⟩ := m_lvp_mem l (i + 1) q h
      exact ⟨k + 1, w, by rw [h1]; congr 1; omega, h2⟩
  | none :: l, i, q, h => by
    unfold m_lvp at h
    obtain ⟨k, w, h1, h2⟩ := m_lvp_mem l (i + 1) q h
    exact ⟨k + 1, w, by rw [h1]; congr 1; omega, h2⟩
theorem m_lvp_of {G : m_G} : ∀ (l : m_L) (i k : Nat) (v : m_V), m_nth l k none = some v → (i + k, m_cv G v) ∈ m_lvp G i l
  | [], i, k, v, h => by unfold m_nth at h; cases h
  | some w :: l, i, 0, v, h => by
    have e : w = v := Option.some.inj h
    rw [e]; exact List.mem_cons_self
  | none :: l, i, 0, v, h => by cases h
  | some w :: l, i, k + 1, v, h => by
    have h1 := m_lvp_of (G := G) l (i + 1) k v h
    unfold m_lvp
    rw [show i + (k + 1) = i + 1 + k by omega]
    exact List.mem_cons_of_mem _ h1
  | none :: l, i, k + 1, v, h => by
    have h1 := m_lvp_of (G := G) l (i + 1) k v h
    unfold m_lvp
    rw [show i + (k + 1) = i + 1 + k by omega]
    exact h1
theorem m_has_sub {ls : Array Slot} {n : Nat} {L L' : List (Nat × Value)} (h : lv_has ls n L) (hs : ∀ q ∈ L', q ∈ L) : lv_has ls n L' := ⟨h.1, h.2.1, fun q hq => h.2.2 q (hs q hq)⟩
theorem m_has_at {G : m_G} {ls : Array Slot} {n k : Nat} {l : m_L} {v : m_V} (h : lv_has ls n (m_lvp G 0 l)) (hk : m_nth l k none = some v) : ls[k]? = some (.val (m_cv G v)) := by
  have h1 := h.2.2 _ (m_lvp_of (G := G) l 0 k v hk)
  rw [Nat.zero_add] at h1
  exact h1
theorem m_mask_nth : ∀ (ms : List Bool) (l : m_L) (k : Nat) (v : m_V), m_nth (m_mask ms l) k none = some v → m_nth l k none = some v
  | true :: ms, a :: l, 0, v, h => h
  | true :: ms, a :: l, k + 1, v, h => m_mask_nth ms l k v h
  | false :: ms, a :: l, 0, v, h => by cases h
  | false :: ms, a :: l, k + 1, v, h => m_mask_nth ms l k v h
  | [], [], k, v, h => h
  | [], a :: l, k, v, h => h
  | true :: ms, [], k, v, h => by unfold m_mask at h; exact h
  | false :: ms, [], k, v, h => by unfold m_mask at h; exact h
theorem m_put_nth {α : Type} {d x : α} : ∀ (l : List α) (i k : Nat), m_nth (m_put l i x) k d = if k = i ∧ i < l.length then x else m_nth l k d
  | [], i, k => by unfold m_put; simp
  | a :: l, 0, 0 => by simp [m_put, m_nth]
  | a :: l, 0, k + 1 => by simp [m_put, m_nth]
  | a :: l, i + 1, 0 => by simp [m_put, m_nth]
  | a :: l, i + 1, k + 1 => by
    show m_nth (m_put l i x) k d = _
    rw [m_put_nth l i k]
    simp [m_nth]
theorem m_clr_nth : ∀ (l : m_L) (i k : Nat) (w : m_V), m_nth (m_clr l i) k none = some w → m_nth l k none = some w ∧ ¬ (k + 1 = i ∧ m_cat w = 2)
  | [], i, k, w, h => by unfold m_clr at h; unfold m_nth at h; cases h
  | a :: l, 0, k, w, h => ⟨h, by omega⟩
  | a :: l, 1, 0, w, h => by
    have h1 : cond (m_isL a) none a = some w := h
    cases ha : m_isL a with
    | true => rw [ha] at h1; cases h1
    | false =>
      rw [ha] at h1
      refine ⟨h1, fun q => ?_⟩
      have h2 : a = some w := h1
      rw [h2] at ha
      obtain ⟨-, q⟩ := q
      rcases w with w | w | w
      · cases q
      · cases ha
      · cases q
  | a :: l, 1, k + 1, w, h => ⟨h, by omega⟩
  | a :: l, i + 2, 0, w, h => ⟨h, by omega⟩
  | a :: l, i + 2, k + 1, w, h => by
    obtain ⟨h1, h2⟩ := m_clr_nth l (i + 1) k w h
    exact ⟨h1, fun q => h2 ⟨by omega, q.2⟩⟩
theorem m_cv_cat {G : m_G} (hz : G.2.2.2 = .null ∨ ∃ t, G.2.2.2 = .ref t) (v : m_V) : (m_cv G v).category = m_cat v := by
  rcases v with x | x | r
  · rfl
  · rfl
  · cases r with
    | none => rfl
    | some q =>
      obtain ⟨c, v⟩ := q
      show (cond (Nat.beq c 20) G.2.2.2 (Value.ref (G.2.1 c v))).category = 1
      cases Nat.beq c 20
      · rfl
      · rcases hz with h | ⟨t, h⟩ <;> (show Value.category G.2.2.2 = 1) <;> rw [h] <;> rfl
theorem m_cv_ref {G : m_G} (hz : G.2.2.2 = .null ∨ ∃ t, G.2.2.2 = .ref t) (r : Option (Nat × Nat)) : m_cv G (.inr (.inr r)) = .null ∨ ∃ t, m_cv G (.inr (.inr r)) = .ref t := by
  cases r with
  | none => exact Or.inl rfl
  | some q =>
    obtain ⟨c, v⟩ := q
    show cond (Nat.beq c 20) G.2.2.2 (Value.ref (G.2.1 c v)) = _ ∨ ∃ t, cond (Nat.beq c 20) G.2.2.2 (Value.ref (G.2.1 c v)) = _
    cases Nat.beq c 20
    · exact Or.inr ⟨_, rfl⟩
    · exact hz
theorem m_st_sub {G : m_G} (hz : G.2.2.2 = .null ∨ ∃ t, G.2.2.2 = .ref t) {ls : m_L} {i : Nat} {v : m_V} : ∀ q ∈ m_lvp G 0 (m_st ls i v), q ∈ (i, m_cv G v) :: (m_lvp G 0 ls).filter (fun q => !(q.1 == i) && !(q.1 + 1 == i && q.2.category == 2)) := by
  intro q hq
  obtain ⟨k, w, rfl, h⟩ := m_lvp_mem _ _ _ hq
  rw [Nat.zero_add]
  unfold m_st at h
  rw [m_put_nth] at h
  have h0 := h
  by_cases hk : k = i ∧ i < (m_clr ls i).length
  · rw [if_pos hk] at h
    rw [hk.1, Option.some.inj h]
    exact List.mem_cons_self
  · rw [if_neg hk] at h
    obtain ⟨h1, h2⟩ := m_clr_nth _ _ _ _ h
    have hki : ¬ k = i := by
      intro e
      refine hk ⟨e, ?_⟩
      rw [← e]
      rcases Nat.lt_or_ge k (m_clr ls k).length with q | q
      · exact q
      · rw [if_neg hk, ← e, m_nth_lt _ _ q] at h0; cases h0
    refine List.mem_cons_of_mem _ (List.mem_filter.mpr ⟨?_, ?_⟩)
    · have := m_lvp_of (G := G) ls 0 k w h1
      rwa [Nat.zero_add] at this
    · rw [m_cv_cat hz]
      simp only [Bool.and_eq_true, Bool.not_eq_true', beq_eq_false_iff_ne, ne_eq, Bool.and_eq_false_iff]
      refine ⟨hki, ?_⟩
      by_cases e : k + 1 = i
      · exact Or.inr fun z => h2 ⟨e, z⟩
      · exact Or.inl e
theorem m_stL_sub {G : m_G} (hz : G.2.2.2 = .null ∨ ∃ t, G.2.2.2 = .ref t) {ls : m_L} {i : Nat} {x : Int64} : ∀ q ∈ m_lvp G 0 (m_stL ls i x), q ∈ (i, Value.long x) :: (m_lvp G 0 ls).filter (fun q => !(q.1 == i) && (!(q.1 == i + 1) && !(q.1 + 1 == i && q.2.category == 2))) := by
  intro q hq
  obtain ⟨k, w, rfl, h⟩ := m_lvp_mem _ _ _ hq
  rw [Nat.zero_add]
  unfold m_stL at h
  rw [m_put_nth] at h
  by_cases hk1 : k = i + 1 ∧ i + 1 < (m_put (m_clr ls i) i (some (vL x))).length
  · rw [if_pos hk1] at h; cases h
  · rw [if_neg hk1] at h
    have hlen : k < (m_put (m_clr ls i) i (some (vL x))).length := by
      rcases Nat.lt_or_ge k (m_put (m_clr ls i) i (some (vL x))).length with q | q
      · exact q
      · rw [m_nth_lt _ _ q] at h; cases h
    have hk1 : ¬ k = i + 1 := fun e => hk1 ⟨e, by rw [← e]; exact hlen⟩
    rw [m_put_nth] at h
    have h0 := h
    by_cases hk : k = i ∧ i < (m_clr ls i).length
    · rw [if_pos hk] at h
      rw [hk.1, ← Option.some.inj h]
      exact List.mem_cons_self
    · rw [if_neg hk] at h
      obtain ⟨h1, h2⟩ := m_clr_nth _ _ _ _ h
      have hki : ¬ k = i := by
        intro e
        refine hk ⟨e, ?_⟩
        rw [← e]
        rcases Nat.lt_or_ge k (m_clr ls k).length with q | q
        · exact q
        · rw [if_neg hk, ← e, m_nth_lt _ _ q] at h0; cases h0
      refine List.mem_cons_of_mem _ (List.mem_filter.mpr ⟨?_, ?_⟩)
      · have := m_lvp_of (G := G) ls 0 k w h1
        rwa [Nat.zero_add] at this
      · rw [m_cv_cat hz]
        simp only [Bool.and_eq_true, Bool.not_eq_true', beq_eq_false_iff_ne, ne_eq, Bool.and_eq_false_iff]
        refine ⟨hki, hk1, ?_⟩
        by_cases e : k + 1 = i
        · exact Or.inr fun z => h2 ⟨e, z⟩
        · exact Or.inl e
/-- valid references alone -/
def m_okL (ls : m_L) : Prop := ∀ (k : Nat) (v : m_V), m_nth ls k none = some v → m_vo v = true
def m_okS (st : List m_V) : Prop := ∀ v ∈ st, m_vo v = true
theorem m_okL_st {ls : m_L} {i : Nat} {v : m_V} (h : m_okL ls) (hv : m_vo v = true) : m_okL (m_st ls i v) := by
  intro k w hw
  unfold m_st at hw
  rw [m_put_nth] at hw
  split at hw
  · cases hw; exact hv
  · exact h k w (m_clr_nth _ _ _ _ hw).1
theorem m_okL_stL {ls : m_L} {i : Nat} {x : Int64} (h : m_okL ls) : m_okL (m_stL ls i x) := by
  intro k w hw
  unfold m_stL at hw
  rw [m_put_nth] at hw
  split at hw
  · cases hw
  · rw [m_put_nth] at hw
    split at hw
    · cases hw; rfl
    · exact h k w (m_clr_nth _ _ _ _ hw).1
theorem m_okS_c {v : m_V} {st : List m_V} (hv : m_vo v = true) (h : m_okS st) : m_okS (v :: st) := fun w hw => by
  rcases List.mem_cons.mp hw with rfl | hw
  · exact hv
  · exact h w hw
theorem m_okS_t {v : m_V} {st : List m_V} (h : m_okS (v :: st)) : m_okS st := fun w hw => h w (List.mem_cons_of_mem _ hw)
theorem m_okS_h {v : m_V} {st : List m_V} (h : m_okS (v :: st)) : m_vo v = true := h v List.mem_cons_self
theorem m_pop_eq : ∀ (n : Nat) (acc st as rest : List m_V), m_pop n acc st = some (as, rest) → ∃ pre : List m_V, st = pre ++ rest ∧ as = pre.reverse ++ acc ∧ pre.length = n
  | 0, acc, st, as, rest, h => by
    unfold m_pop at h
    cases h
    exact ⟨[], rfl, rfl, rfl⟩
  | n + 1, acc, v :: st, as, rest, h => by
    unfold m_pop at h
    obtain ⟨pre, h1, h2, h3⟩ := m_pop_eq n (v :: acc) st as rest h
    exact ⟨v :: pre, by rw [h1]; rfl, by rw [h2]; simp, by simp [h3]⟩
  | n + 1, acc, [], as, rest, h => by unfold m_pop at h; cases h
theorem m_catS_sum {G : m_G} (hz : G.2.2.2 = .null ∨ ∃ t, G.2.2.2 = .ref t) : ∀ st : List m_V, ((st.map (m_cv G)).map fun v => v.category).sum = m_catS st
  | [] => rfl
  | v :: st => by
    simp only [List.map_cons, List.sum_cons, m_catS]
    rw [m_catS_sum hz st, m_cv_cat hz]
theorem m_lsl {G : m_G} (hz : G.2.2.2 = .null ∨ ∃ t, G.2.2.2 = .ref t) : ∀ as : List m_V, (lg_sl (as.map (m_cv G))).length = m_catS as
  | [] => rfl
  | v :: as => by
    have h := m_lsl hz as
    unfold lg_sl at h ⊢
    rw [List.map_cons, List.flatMap_cons, List.length_append, h, m_cv_cat hz]
    show _ = m_cat v + m_catS as
    rcases v with x | x | x <;> rfl
theorem m_lvp_pad {G : m_G} : ∀ (n i : Nat) (l : m_L), m_lvp G i (m_pad n l) = m_lvp G i l
  | 0, _, _ => rfl
  | n + 1, i, [] => by
    show m_lvp G (i + 1) (m_pad n []) = []
    rw [m_lvp_pad n (i + 1) []]
    rfl
  | n + 1, i, some a :: l => by
    show (i, m_cv G a) :: m_lvp G (i + 1) (m_pad n l) = _
    rw [m_lvp_pad n (i + 1) l]
    rfl
  | n + 1, i, none :: l => by
    show m_lvp G (i + 1) (m_pad n l) = _
    rw [m_lvp_pad n (i + 1) l]
    rfl
theorem m_lvp_args {G : m_G} (hz : G.2.2.2 = .null ∨ ∃ t, G.2.2.2 = .ref t) : ∀ (as : List m_V) (i : Nat), m_lvp G i (m_args as) = lv_args i (as.map (m_cv G))
  | [], _ => rfl
  | .inl x :: as, i => by
    show (i, m_cv G (.inl x)) :: m_lvp G (i + 1) (m_args as) = (i, _) :: lv_args (if (m_cv G (.inl x)).category = 2 then i + 2 else i + 1) (as.map (m_cv G))
    rw [m_lvp_args hz as, m_cv_cat hz]
    rfl
  | .inr (.inl x) :: as, i => by
    show (i, m_cv G (.inr (.inl x))) :: m_lvp G (i + 1 + 1) (m_args as) = (i, _) :: lv_args (if (m_cv G (.inr (.inl x))).category = 2 then i + 2 else i + 1) (as.map (m_cv G))
    rw [m_lvp_args hz as, m_cv_cat hz]
    rfl
  | .inr (.inr r) :: as, i => by
    show (i, m_cv G (.inr (.inr r))) :: m_lvp G (i + 1) (m_args as) = (i, _) :: lv_args (if (m_cv G (.inr (.inr r))).category = 2 then i + 2 else i + 1) (as.map (m_cv G))
    rw [m_lvp_args hz as, m_cv_cat hz]
    rfl
theorem m_okL_args : ∀ as : List m_V, m_okS as → m_okL (m_args as)
  | [], _ => fun k v h => by cases k <;> cases h
  | .inl x :: as, ha => fun k v h => by
    cases k with
    | zero => cases h; rfl
    | succ k => exact m_okL_args as (m_okS_t ha) k v h
  | .inr (.inl x) :: as, ha => fun k v h => by
    cases k with
    | zero => cases h; rfl
    | succ k =>
      cases k with
      | zero => cases h
      | succ k => exact m_okL_args as (m_okS_t ha) k v h
  | .inr (.inr r) :: as, ha => fun k v h => by
    cases k with
    | zero => cases h; exact m_okS_h ha
    | succ k => exact m_okL_args as (m_okS_t ha) k v h
theorem m_okL_pad : ∀ (n : Nat) (l : m_L), m_okL l → m_okL (m_pad n l)
  | 0, _, h => h
  | n + 1, [], h => fun k v hk => by
    cases k with
    | zero => cases hk
    | succ k => exact m_okL_pad n [] h k v hk
  | n + 1, a :: l, h => fun k v hk => by
    cases k with
    | zero => exact h 0 v hk
    | succ k => exact m_okL_pad n l (fun k v q => h (k + 1) v q) k v hk
