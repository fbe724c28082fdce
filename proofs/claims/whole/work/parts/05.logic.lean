/-! the machine's own logic: m_T, the least predicate that its steps are closed under -/
def m_fetch (y pc : Nat) : Option m_I := m_nth (m_nth (m_rec y).1 (pc / 16) []) (pc % 16) none
def m_bytes (y : Nat) : ByteArray := (m_rec y).2.1
def m_name (y : Nat) : MethodName := (m_rec y).2.2.1
def m_max (y : Nat) : Nat := (m_rec y).2.2.2.1
def m_rt (y : Nat) : Option FieldType := (m_rec y).2.2.2.2.1
def m_oc (y : Nat) : Nat := (m_rec y).2.2.2.2.2.1
def m_par (y : Nat) : Nat := (m_rec y).2.2.2.2.2.2.1
def m_sta (y : Nat) : Bool := (m_rec y).2.2.2.2.2.2.2.1
def m_pla (y : Nat) : Nat := (m_rec y).2.2.2.2.2.2.2.2
def m_entry (y : Nat) (as : List m_V) : m_L := m_pad (m_max y) (m_args as)
abbrev m_P : Type := Nat → Nat → Nat → m_F → (m_F → Prop) → Prop
def m_wq (E : m_E) (P : m_P) (stop r y : Nat) (fr : m_F) (Q : m_F → Prop) : Prop :=
  cond (Nat.beq fr.1 stop) (Q fr) (match m_fetch y fr.1 with
    | none => False
    | some e => m_sem m_oc E (m_rt y) (fun f => P stop r y f Q) (fun y' as k => match r with
      | 0 => False
      | r' + 1 => P 65535 r' y' (0, m_entry y' as, [], fr.2.2.2) (fun f => P stop (r' + 1) y (k f.2.2.1 f.2.2.2) Q)) Q e fr.1 fr.2.1 fr.2.2.1 fr.2.2.2)
def m_mask : List Bool → m_L → m_L
  | true :: ms, a :: l => a :: m_mask ms l
  | false :: ms, _ :: l => none :: m_mask ms l
  | [], l => l
  | _, [] => []
def m_mono (P : m_P) : Prop := ∀ (stop r y : Nat) (fr : m_F) (Q Q' : m_F → Prop), (∀ f, Q f → Q' f) → P stop r y fr Q → P stop r y fr Q'
def m_closed (E : m_E) (P : m_P) : Prop := ∀ (stop r y : Nat) (fr : m_F) (Q : m_F → Prop), m_wq E P stop r y fr Q → P stop r y fr Q
def m_forget (P : m_P) : Prop := ∀ (mask : List Bool) (stop r y pc : Nat) (ls : m_L) (st : List m_V) (σ : m_M) (Q : m_F → Prop), P stop r y (pc, m_mask mask ls, st, σ) Q → P stop r y (pc, ls, st, σ) Q
def m_T (E : m_E) : m_P := fun stop r y fr Q => ∀ P : m_P, m_mono P → m_closed E P → m_forget P → P stop r y fr Q
theorem m_i1_mono {f g : Int32 → List m_V → Prop} {st : List m_V} (h : ∀ x t, f x t → g x t) : m_i1 f st → m_i1 g st := by
  unfold m_i1; split
  · exact h _ _
  · exact id
theorem m_i2_mono {f g : Int32 → Int32 → List m_V → Prop} {st : List m_V} (h : ∀ x y t, f x y t → g x y t) : m_i2 f st → m_i2 g st := by
  unfold m_i2; split
  · exact h _ _ _
  · exact id
theorem m_l1_mono {f g : Int64 → List m_V → Prop} {st : List m_V} (h : ∀ x t, f x t → g x t) : m_l1 f st → m_l1 g st := by
  unfold m_l1; split
  · exact h _ _
  · exact id
theorem m_l2_mono {f g : Int64 → Int64 → List m_V → Prop} {st : List m_V} (h : ∀ x y t, f x y t → g x y t) : m_l2 f st → m_l2 g st := by
  unfold m_l2; split
  · exact h _ _ _
  · exact id
theorem m_li_mono {f g : Int64 → Int32 → List m_V → Prop} {st : List m_V} (h : ∀ x y t, f x y t → g x y t) : m_li f st → m_li g st := by
  unfold m_li; split
  · exact h _ _ _
  · exact id
theorem m_r1_mono {f g : Nat → Nat → List m_V → Prop} {st : List m_V} (h : ∀ x y t, f x y t → g x y t) : m_r1 f st → m_r1 g st := by
  unfold m_r1; split
  · exact h _ _ _
  · exact id
theorem m_ri_mono {f g : Nat → Nat → Int32 → List m_V → Prop} {st : List m_V} (h : ∀ x y z t, f x y z t → g x y z t) : m_ri f st → m_ri g st := by
  unfold m_ri; split
  · exact h _ _ _ _
  · exact id
theorem m_rii_mono {f g : Nat → Nat → Int32 → Int32 → List m_V → Prop} {st : List m_V} (h : ∀ x y z w t, f x y z w t → g x y z w t) : m_rii f st → m_rii g st := by
  unfold m_rii; split
  · exact h _ _ _ _ _
  · exact id
theorem m_ril_mono {f g : Nat → Nat → Int32 → Int64 → List m_V → Prop} {st : List m_V} (h : ∀ x y z w t, f x y z w t → g x y z w t) : m_ril f st → m_ril g st := by
  unfold m_ril; split
  · exact h _ _ _ _ _
  · exact id
theorem m_rn_mono {f g : Option (Nat × Nat) → List m_V → Prop} {st : List m_V} (h : ∀ x t, f x t → g x t) : m_rn f st → m_rn g st := by
  unfold m_rn; split
  · exact h _ _
  · exact id
theorem m_ldI_mono {f g : Int32 → Prop} {ls : m_L} {i : Nat} (h : ∀ x, f x → g x) : m_ldI ls i f → m_ldI ls i g := by
  unfold m_ldI; split
  · exact h _
  · exact id
theorem m_ldL_mono {f g : Int64 → Prop} {ls : m_L} {i : Nat} (h : ∀ x, f x → g x) : m_ldL ls i f → m_ldL ls i g := by
  unfold m_ldL; split
  · exact h _
  · exact id
theorem m_ldR_mono {f g : Option (Nat × Nat) → Prop} {ls : m_L} {i : Nat} (h : ∀ x, f x → g x) : m_ldR ls i f → m_ldR ls i g := by
  unfold m_ldR; split
  · exact h _
  · exact id
theorem m_br_mono {c : ClassFile.Cond} {x y : Int32} {A B A' B' : Prop} (h1 : A → A') (h2 : B → B') : m_br c x y A B → m_br c x y A' B' := by
  cases c <;> exact fun h => ⟨fun q => h1 (h.1 q), fun q => h2 (h.2 q)⟩
theorem m_sw_mono {pc : Nat} {x : Int} {K K' : Nat → Prop} (h : ∀ t, K t → K' t) : ∀ (os : List Int) (lo : Int), m_sw pc x K lo os → m_sw pc x K' lo os
  | [], _ => fun _ => trivial
  | _ :: os, lo => fun q => ⟨fun e => h _ (q.1 e), m_sw_mono h os (lo + 1) q.2⟩
theorem m_cond_mono {b : Bool} {A A' B B' : Prop} (h1 : A → A') (h2 : B → B') : cond b A B → cond b A' B' := by
  cases b
  · exact h2
  · exact h1
set_option maxHeartbeats 4000000 in
theorem m_sem_mono {oc : Nat → Nat} {E : m_E} {rt : Option FieldType} {K K' : m_F → Prop} {Cl Cl' : Nat → List m_V → (List m_V → m_M → m_F) → Prop} {Q Q' : m_F → Prop} (hK : ∀ f, K f → K' f) (hC : ∀ y as k, Cl y as k → Cl' y as k) (hQ : ∀ f, Q f → Q' f) {e : m_I} {pc : Nat} {ls : m_L} {st : List m_V} {σ : m_M} : m_sem oc E rt K Cl Q e pc ls st σ → m_sem oc E rt K' Cl' Q' e pc ls st σ := by
  obtain ⟨i, n, a, b⟩ := e
  cases i <;> simp only [m_sem] <;> first
    | exact hK _
    | exact id
    | exact m_cond_mono (hK _) (hK _)
    | exact m_ldI_mono fun _ => hK _
    | exact m_ldL_mono fun _ => hK _
    | exact m_ldR_mono fun _ => hK _
    | exact m_i1_mono fun _ _ => hK _
    | exact m_l1_mono fun _ _ => hK _
    | exact m_rn_mono fun _ _ => hK _
    | exact m_i2_mono fun _ _ _ => hK _
    | exact m_l2_mono fun _ _ _ => hK _
    | exact m_li_mono fun _ _ _ => hK _
    | exact m_i2_mono fun _ _ _ h => ⟨h.1, hK _ h.2⟩
    | exact m_l2_mono fun _ _ _ h => ⟨h.1, hK _ h.2⟩
    | exact m_i1_mono fun _ _ => m_br_mono (hK _) (hK _)
    | exact m_i2_mono fun _ _ _ => m_br_mono (hK _) (hK _)
    | exact m_i1_mono fun _ _ h => ⟨m_sw_mono (fun _ => hK _) _ _ h.1, fun q => hK _ (h.2 q)⟩
    | exact m_r1_mono fun _ _ _ => m_cond_mono (hK _) id
    | exact m_rii_mono fun _ _ _ _ _ h => ⟨h.1, m_cond_mono (hK _) id h.2⟩
    | exact m_rii_mono fun _ _ _ _ _ h => ⟨h.1, h.2.1, m_cond_mono (hK _) id h.2.2⟩
    | exact m_ril_mono fun _ _ _ _ _ h => ⟨h.1, m_cond_mono (hK _) id h.2⟩
    | exact m_ri_mono fun _ _ _ _ h => ⟨h.1, m_cond_mono (hK _) id h.2⟩
    | exact m_ri_mono fun _ _ _ _ h => ⟨h.1, m_cond_mono (hK _) (m_cond_mono (hK _) id) h.2⟩
    | (refine m_ri_mono fun _ _ _ _ h => ⟨h.1, ?_⟩; have h2 := h.2; revert h2; split <;> first | exact hK _ | exact id)
    | (refine m_rn_mono fun r _ => ?_; cases r <;> exact hK _)
    | (split <;> first | exact id | exact m_cond_mono (hK _) id | exact m_cond_mono (hC _ _ _) id | exact fun h => ⟨h.1, hQ _ h.2⟩ | exact hQ _ | (refine m_cond_mono ?_ id; split <;> first | exact id | exact m_cond_mono (fun h => ⟨h.1, hK _ h.2⟩) (hK _)))
theorem m_wq_mono {E : m_E} {P P' : m_P} (h : ∀ stop r y fr Q, P stop r y fr Q → P' stop r y fr Q) (hm : m_mono P') {stop r y : Nat} {fr : m_F} {Q : m_F → Prop} : m_wq E P stop r y fr Q → m_wq E P' stop r y fr Q := by
  unfold m_wq
  refine m_cond_mono id ?_
  split
  · exact id
  · refine m_sem_mono (fun _ => h _ _ _ _ _) (fun y' as k => ?_) (fun _ q => q)
    split
    · exact id
    · exact fun q => hm _ _ _ _ _ _ (fun f z => h _ _ _ _ _ z) (h _ _ _ _ _ q)
theorem m_T_mono (E : m_E) : m_mono (m_T E) := fun _ _ _ _ _ _ hQ h P hm hc hf => hm _ _ _ _ _ _ hQ (h P hm hc hf)
theorem m_T_go {E : m_E} {stop r y : Nat} {fr : m_F} {Q : m_F → Prop} (h : m_wq E (m_T E) stop r y fr Q) : m_T E stop r y fr Q := fun P hm hc hf =>
  hc _ _ _ _ _ (m_wq_mono (fun _ _ _ _ _ q => q P hm hc hf) hm h)
theorem m_T_mask {E : m_E} (mask : List Bool) {stop r y pc : Nat} {ls : m_L} {st : List m_V} {σ : m_M} {Q : m_F → Prop} (h : m_T E stop r y (pc, m_mask mask ls, st, σ) Q) : m_T E stop r y (pc, ls, st, σ) Q := fun P hm hc hf => hf mask _ _ _ _ _ _ _ _ (h P hm hc hf)
/-- many steps at once, through calls and returns, up to the places S -/
def m_un (E : m_E) (S : Nat → Nat → Bool) : Nat → m_P
  | 0 => m_T E
  | n + 1 => fun stop r y fr Q => cond (S y fr.1) (m_T E stop r y fr Q) (m_wq E (m_un E S n) stop r y fr Q)
theorem m_un_T {E : m_E} {S : Nat → Nat → Bool} : ∀ (n stop r y : Nat) (fr : m_F) (Q : m_F → Prop), m_un E S n stop r y fr Q → m_T E stop r y fr Q
  | 0, _, _, _, _, _ => id
  | n + 1, stop, r, y, fr, Q => fun h => by
    unfold m_un at h
    revert h
    cases S y fr.1
    · exact fun h => m_T_go (m_wq_mono (fun _ _ _ _ _ q => m_un_T n _ _ _ _ _ q) (m_T_mono E) h)
    · exact id
theorem m_T_un (n : Nat) (S : Nat → Nat → Bool) {E : m_E} {stop r y : Nat} {fr : m_F} {Q : m_F → Prop} (h : m_wq E (m_un E S n) stop r y fr Q) : m_T E stop r y fr Q := m_T_go (m_wq_mono (fun _ _ _ _ _ q => m_un_T n _ _ _ _ _ q) (m_T_mono E) h)
