/-! frames, contracts, calls -/
def m_sn (v : Nat) : String × String := m_nth [("AsManyAsCame", "ABOVE"), ("AsManyAsCame", "TURNS"), ("AsManyAsCame$Asked", "SIZES"), ("AsManyAsCame$Asked", "MARKS")] v ("", "")
def m_tx (v : Nat) : String := m_nth ["town", "list", "rank", "kind", "person", "pilgrim", "hired", "called", "born", "smuggled"] v ""
/-- what nobody writes: tables, the script, constants -/
def m_RO (G : m_G) (E : m_E) (A : Nat → Prop) (U : State) (H : Heap) : Prop :=
  (∀ v : Nat, v < 4 → va_T .int (G.2.1 16 v) 6 (fun j => .int (m_nth (m_nth m_ro v []) j 0)) A U H) ∧ va_T .int (G.2.1 18 0) E.1 (fun j => .int (E.2 j)) A U H ∧ (∀ v : Nat, v < 4 → va_Z (m_sn v).1 (m_sn v).2 "[I" (.ref (G.2.1 16 v)) A U H) ∧
  va_Z "java/lang/String" "COMPACT_STRINGS" "Z" (.int 1) A U H ∧ va_Z "jdk/internal/util/Preconditions" "SIOOBE_FORMATTER" "Ljava/util/function/BiFunction;" G.2.2.2 A U H ∧ vk_S 10 m_sl m_str (G.2.1 17) (G.2.1 19) A U H ∧ (∀ e ∈ m_cps, vk_R (m_on e.1) e.2.1 (m_tx e.2.2.1) (G.2.1 17 e.2.2.1) U) ∧
  va_Nw (.methodLinkNest "AsManyAsCame$Row" 42 (m_name 2) "AsManyAsCame") U ∧ va_Nw (.fieldLinkNest "AsManyAsCame$Town" 83 "AsManyAsCame" "TURNS" "[I" "AsManyAsCame") U ∧ va_Nw (.fieldLinkNest "AsManyAsCame$Asked" 46 "AsManyAsCame" "ABOVE" "[I" "AsManyAsCame") U ∧ va_Nw (.methodLinkNest "AsManyAsCame" 219 (m_name 43) "AsManyAsCame") U ∧ va_Nw (.methodLinkNest "AsManyAsCame" 223 (m_name 46) "AsManyAsCame") U
theorem m_RO_to {G : m_G} {E : m_E} {A : Nat → Prop} {s U : State} {H : Heap} (h : m_RO G E A s s.heap) (hW : s.WarmedH U.vm) (hq : ∀ a : Nat, a < s.heap.size → ¬ A a → H[a]? = s.heap[a]?) : m_RO G E A U H := by
  obtain ⟨h1, h2, h3, h4, h5, h6, h7, h8, h9, ha, hb, hc⟩ := h
  exact ⟨fun v hv => ((h1 v hv).kept hq).moved hW.alike, (h2.kept hq).moved hW.alike, fun v hv => ((h3 v hv).kept hq).moved hW.alike, (h4.kept hq).moved hW.alike, (h5.kept hq).moved hW.alike, (h6.kept hq).moved hW.alike, fun e he => (h7 e he).warm hW, va_Nw.warmM hW h8, va_Nw.warmF hW h9, va_Nw.warmF hW ha, va_Nw.warmM hW hb, va_Nw.warmM hW hc⟩
theorem m_RO_call {G : m_G} {E : m_E} {A : Nat → Prop} {U : State} {g : JFrame} {mk : MethodId} {a : Array Value} (h : m_RO G E A U U.heap) : m_RO G E A (U.calling g mk a) (U.calling g mk a).heap := by
  obtain ⟨h1, h2, h3, h4, h5, h6, h7, h8, h9, ha, hb, hc⟩ := h
  have hv : U.vm.Alike (U.calling g mk a).vm := Vm.Alike.refl U.vm
  exact ⟨fun v hv' => va_T.moved hv (h1 v hv'), va_T.moved hv h2, fun v hv' => va_Z.moved hv (h3 v hv'), va_Z.moved hv h4, va_Z.moved hv h5, vk_S.moved hv h6, fun e he => vk_R.same rfl (h7 e he), va_Nw.same rfl rfl h8, va_Nw.same rfl rfl h9, va_Nw.same rfl rfl ha, va_Nw.same rfl rfl hb, va_Nw.same rfl rfl hc⟩
def m_hz (G : m_G) : Prop := G.2.2.2 = .null ∨ ∃ t, G.2.2.2 = .ref t
/-- what holds in a frame of method y, with r frames of room -/
def m_Cx (G : m_G) (E : m_E) (A : Nat → Prop) (y r : Nat) (p : Program) (R : Room) (s : State) (m : MethodId) (args : Array Value) (c : Code) (cells slots : Nat) : Prop :=
  p.tables.exec = Jvm.exec ∧ c.code = m_bytes y ∧ c.maxLocals = m_max y ∧ s.vm.findClass (m_on (m_oc y)) = some m.cls ∧ (∀ w ∈ m_wall, w.before args s = true) ∧ va_K G.1 m_cl (m_tys G) s ∧ m_RO G E A s s.heap ∧ r + 1 ≤ R.frames ∧ 40 * (r + 1) ≤ R.locals ∧ cells ≤ R.cells ∧ slots ≤ R.slots
def m_end (y pc : Nat) (rs : List m_V) : Prop :=
  (∃ x ty, rs = [vI x] ∧ m_rt y = some ty ∧ narrow ty (.int x) = .int x ∧ decode (m_bytes y) pc = .ok (.ireturn, 1)) ∨ (∃ x, rs = [vL x] ∧ m_rt y = some .long ∧ decode (m_bytes y) pc = .ok (.lreturn, 1)) ∨ (∃ r n, rs = [.inr (.inr r)] ∧ m_rt y = some (.object n) ∧ decode (m_bytes y) pc = .ok (.areturn, 1)) ∨ (rs = [] ∧ m_rt y = none ∧ decode (m_bytes y) pc = .ok (.return_, 1))
/-- what a method's end gives -/
def m_Kr (G : m_G) (E : m_E) (A : Nat → Prop) (y : Nat) (p : Program) (l : Launch) (e : Env) (R : Room) (s : State) (m : MethodId) (args : Array Value) (below : List Frame) (meth : Method) (c : Code) (cells slots : Nat) (QF : State → Prop) (Q : m_F → Prop) : Prop :=
  ∀ (σ : m_M) (H : Heap) (locs : List Loc) (pc : Nat) (ls : Array Slot) (rs : List m_V), va_P G.1 m_cl (m_ws G E σ) H → va_S A s.heap H locs → m_okS rs → Q (0, [], rs, σ) → m_end y pc rs → W p l e R s m args below meth c H locs cells slots QF (F0 m pc ls (rs.map (m_cv G)))
/-- what a stop gives -/
def m_Ks (G : m_G) (E : m_E) (A : Nat → Prop) (stop y : Nat) (p : Program) (l : Launch) (e : Env) (R : Room) (s : State) (m : MethodId) (args : Array Value) (below : List Frame) (meth : Method) (c : Code) (cells slots : Nat) (QF : State → Prop) (Q : m_F → Prop) : Prop :=
  stop ≠ 65535 → ∀ (σ : m_M) (H : Heap) (locs : List Loc) (ls : Array Slot) (ml : m_L) (st : List m_V), va_P G.1 m_cl (m_ws G E σ) H → va_S A s.heap H locs → lv_has ls (m_max y) (m_lvp G 0 ml) → m_okL ml → m_okS st → Q (stop, ml, st, σ) → W p l e R s m args below meth c H locs cells slots QF (F0 m stop ls (st.map (m_cv G)))
def m_Snd (l : Launch) (G : m_G) (E : m_E) (A : Nat → Prop) : m_P := fun stop r y fr Q => ∀ (p : Program) (e : Env) (R : Room) (s : State) (m : MethodId) (args : Array Value) (below : List Frame) (meth : Method) (c : Code) (cells slots : Nat) (QF : State → Prop), m_Cx G E A y r p R s m args c cells slots →
  m_Kr G E A y p l e R s m args below meth c cells slots QF Q → m_Ks G E A stop y p l e R s m args below meth c cells slots QF Q →
  ∀ (H : Heap) (locs : List Loc) (ls : Array Slot), va_P G.1 m_cl (m_ws G E fr.2.2.2) H → va_S A s.heap H locs → lv_has ls (m_max y) (m_lvp G 0 fr.2.1) → m_okL fr.2.1 → m_okS fr.2.2.1 → W p l e R s m args below meth c H locs cells slots QF (F0 m fr.1 ls (fr.2.2.1.map (m_cv G)))
theorem m_Snd_mono (l : Launch) (G : m_G) (E : m_E) (A : Nat → Prop) : m_mono (m_Snd l G E A) := by
  intro stop r y fr Q Q' hQ h p e R s m args below meth c cells slots QF hC hr hs
  exact h p e R s m args below meth c cells slots QF hC (fun σ H locs pc ls rs a1 a2 a3 a4 a5 => hr σ H locs pc ls rs a1 a2 a3 (hQ _ a4) a5) (fun a0 σ H locs ls ml st a1 a2 a3 a4 a5 a6 => hs a0 σ H locs ls ml st a1 a2 a3 a4 a5 (hQ _ a6))
theorem m_Snd_forget (l : Launch) (G : m_G) (E : m_E) (A : Nat → Prop) : m_forget (m_Snd l G E A) := by
  intro mask stop r y pc ls st σ Q h p e R s m args below meth c cells slots QF hC hr hs H locs la hP hS hl hL hT
  refine h p e R s m args below meth c cells slots QF hC hr hs H locs la hP hS (m_has_sub hl fun q hq => ?_) (fun k v hk => hL k v (m_mask_nth _ _ _ _ hk)) hT
  obtain ⟨k, v, rfl, hk⟩ := m_lvp_mem _ _ _ hq
  exact m_lvp_of _ _ _ _ (m_mask_nth _ _ _ _ hk)
def m_rv (G : m_G) : List m_V → Option Value
  | [] => none
  | v :: _ => some (m_cv G v)
/-- a method's contract, out of the machine -/
def m_Pc (G : m_G) (E : m_E) (A : Nat → Prop) (σ : m_M) (as : List m_V) : Array Value → State → Prop := va_Pc (as.map (m_cv G)) fun U => va_P G.1 m_cl (m_ws G E σ) U.heap ∧ va_K G.1 m_cl (m_tys G) U ∧ m_RO G E A U U.heap
def m_Qc (G : m_G) (E : m_E) (A : Nat → Prop) (Q : m_F → Prop) : Array Value → State → Outcome → State → Prop := fun _ st o t => ∃ (rs : List m_V) (σ : m_M), o = .returned (m_rv G rs) ∧ rs.length ≤ 1 ∧ m_okS rs ∧ Q (0, [], rs, σ) ∧ va_P G.1 m_cl (m_ws G E σ) t.heap ∧ va_F A st t
def m_ww (y : Nat) : List Cond := Cond.code (m_name y) (m_bytes y) (m_max y) (m_rt y) :: m_wall
def m_room (r : Nat) : Room := { frames := r + 1, cells := 0, slots := 0, locals := 40 * (r + 1) }
theorem m_oky (y : Nat) : m_max y ≤ 21 ∧ m_on (m_oc y) = (m_name y).cls := by
  have h := m_ok y
  unfold m_okr at h
  rw [Bool.and_eq_true, Bool.and_eq_true] at h
  exact ⟨Nat.le_of_ble_eq_true h.1.1, of_decide_eq_true h.1.2⟩
theorem m_blind {G : m_G} {E : m_E} {A : Nat → Prop} {σ : m_M} {as : List m_V} : FrameBlind (m_Pc G E A σ as) := fun a U g mk q => by
  obtain ⟨q1, q2, q3, q4⟩ := q
  exact ⟨q1, q2, va_K.moved (u := U) (U := U.calling g mk a) (Vm.Alike.refl U.vm) q3, m_RO_call q4⟩
theorem m_met {l : Launch} {G : m_G} {E : m_E} {A : Nat → Prop} {y r : Nat} {σ : m_M} {as : List m_V} {Q : m_F → Prop} (hz : m_hz G) (hpl : plainName (m_name y).cls = true) (hfit : m_catS as ≤ m_max y) (hok : m_okS as) (h : m_Snd l G E A 65535 r y (0, m_entry y as, [], σ) Q) : Met l (m_name y) (m_ww y) (m_room r) (m_Pc G E A σ as) (m_Qc G E A Q) 0 0 A := by
  refine Met.ofW (cc := m_bytes y) (maxL := m_max y) (ret := m_rt y) hpl rfl ?_
  intro p e s m args below meth c s₁ B hml hv
  obtain ⟨rfl, hP, hK, hRO⟩ := hv
  have hx := B.exec
  have hb := B.bytes
  have hr := B.returns
  have hts := atoms_spec (ws := m_ww y) B.pre
  have hown : s.vm.findClass (m_name y).cls = some m.cls := findClass_of_methodNamed B.named
  have hlocks := B.notSynchronized
  have hl := lv_entry (as.map (m_cv G)) (n := m_max y) (by rw [m_lsl hz]; exact hfit)
  rw [lg_entry_eq]
  generalize (lg_sl (as.map (m_cv G)) ++ List.replicate (m_max y - (lg_sl (as.map (m_cv G))).length) Slot.unset).toArray = ls at hl ⊢
  refine h p e _ s m _ below meth c 0 0 (MQ below (m_Qc G E A Q) _ s 0 0 A) ⟨hx, hb, hml, by rw [(m_oky y).2]; exact hown, fun w hw => hts w (List.mem_cons_of_mem _ hw), hK, hRO, Nat.le_refl _, Nat.le_refl _, Nat.zero_le _, Nat.zero_le _⟩ ?_ ?_ s.heap [] ls hP va_S.rf ?_ ?_ ?_
  · intro σ' H' locs' pc' ls' rs hP' hS' hok' hQ' hend
    have hq : ∀ (t : State), t.heap = H' → rs.length ≤ 1 → m_Qc G E A Q (as.map (m_cv G)).toArray s (.returned (m_rv G rs)) t := fun t ht hlen => ⟨rs, σ', rfl, hlen, hok', hQ', by rw [ht]; exact hP', hS'.F ht⟩
    rcases hend with ⟨x, ty, rfl, h1, h2, h3⟩ | ⟨x, rfl, h1, h3⟩ | ⟨x, n, rfl, h1, h3⟩ | ⟨rfl, h1, h3⟩
    · exact W.zret (v := x) hx hb (hr.trans h1) h2 (fun t ht _ => hq t ht (Nat.le_refl 1)) hS'.2.2 h3 hlocks
    · exact W.lret (v := x) hx hb (hr.trans h1) (fun t ht _ => hq t ht (Nat.le_refl 1)) hS'.2.2 h3 hlocks
    · exact W.aret (v := m_cv G (.inr (.inr x))) hx hb (hr.trans h1) (Or.inl ⟨n, rfl⟩) (m_cv_ref hz x) (fun t ht _ => hq t ht (Nat.le_refl 1)) hS'.2.2 h3 hlocks
    · exact W.vret hx hb (hr.trans h1) (fun t ht _ => hq t ht (Nat.zero_le 1)) hS'.2.2 h3 hlocks
  · exact fun q => absurd rfl q
  · refine m_has_sub hl fun q hq => ?_
    unfold m_entry at hq
    rw [m_lvp_pad, m_lvp_args hz] at hq
    exact hq
  · exact m_okL_pad _ _ (m_okL_args _ hok)
  · exact fun v hv => by cases hv
section Calls
variable {p : Program} {l : Launch} {e : Env} {R : Room} {s : State} {m : MethodId} {args : Array Value} {below : List Frame} {meth : Method} {c : Code} {H : Heap} {locs : List Loc} {cells slots : Nat} {QF : State → Prop} {pc : Nat} {ls : Array Slot} {rest st0 : List Value} {a : Array Value} {G : m_G} {E : m_E} {A : Nat → Prop} {Q : m_F → Prop}
theorem m_call (hr : va_Run p l e R s m args below meth c H locs cells slots 0 0 (F0 m pc ls st0) rest (m_Qc G E A Q a) A) (hS : va_S A s.heap H locs)
    (kk : ∀ (rs : List m_V) (σ : m_M) (H1 : Heap) (locs1 : List Loc), m_okS rs → Q (0, [], rs, σ) → va_P G.1 m_cl (m_ws G E σ) H1 → va_S A s.heap H1 locs1 → W p l e R s m args below meth c H1 locs1 cells slots QF (F0 m (pc + 3) ls (rs.map (m_cv G) ++ rest))) : W p l e R s m args below meth c H locs cells slots QF (F0 m pc ls st0) := by
  intro T hT X
  obtain ⟨v, st₀, t, T', L, h0, X', hL, e1, e2, ⟨rs, σ, hv, hlen, hok, hQ, hP, hz, hk⟩, st⟩ := hr T hT X
  cases hv
  rw [h0] at hz hk
  obtain ⟨t2, a1, b1⟩ := kk rs σ T'.heap (locs ++ L) hok hQ (by rw [e1]; exact hP)
    ⟨Nat.le_trans hS.1 (by rw [e1]; exact hz), fun q h1 h2 => by rw [e1, hk q (Nat.lt_of_lt_of_le h1 hS.1) h2]; exact hS.2.1 q h1 h2, fun q hq => by
      rcases List.mem_append.mp hq with h | h
      · exact hS.2.2 q h
      · exact hL q h⟩ T' rfl X'
  refine ⟨t2, st t2 ?_, b1⟩
  have e3 : (m_rv G rs).toList = rs.map (m_cv G) := by
    match rs, hlen with
    | [], _ => rfl
    | [v], _ => rfl
    | v :: w :: rs, hlen => exact absurd hlen (by simp)
  rw [e3]
  exact a1
end Calls
