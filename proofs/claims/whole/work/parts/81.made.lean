/-! objects being made -/
abbrev b_T : Type := List (ClassId × FieldType)
theorem b_one {D : va_G} {cl : List vw_C} {ws : va_W} {H : Heap} {k : Nat} {q : Nat × va_E} (hP : va_P D cl ws H) (hk : ws[k]? = some q) : va_P D cl [q] H := by
  intro i q' hi
  match i, hi with
  | 0, hi => cases hi; exact hP k q hk
  | i + 1, hi => simp at hi
theorem b_join {A0 : Nat → Prop} {D : va_G} {cl : List vw_C} {ws wn : va_W} {k h0 : Nat} {e0 e1 : va_E} {H H1 : Heap} (hP : va_P D cl ws H) (hD : va_D A0 ws) (hk : ws[k]? = some (h0, e0)) (hA : ∀ q, H.size ≤ q → A0 q)
    (hq : ∀ q : Nat, q < H.size → ¬ va_A [(h0, e0)] H.size q → H1[q]? = H[q]?) (hP1 : va_P D cl ((h0, e1) :: wn) H1) (hD1 : va_D (va_A [(h0, e0)] H.size) ((h0, e1) :: wn)) : va_P D cl (ws.set k (h0, e1) ++ wn) H1 ∧ va_D A0 (ws.set k (h0, e1) ++ wn) := by
  have hkl := (List.getElem?_eq_some_iff.mp hk).1
  have old : ∀ (i : Nat) (q : Nat × va_E), i ≠ k → ws[i]? = some q → q.1 < H.size ∧ ¬ va_A [(h0, e0)] H.size q.1 := by
    intro i q hi hq'
    have h1 : q.1 < H.size := (hP i q hq').lt
    refine ⟨h1, ?_⟩
    rintro (⟨j, e, hj⟩ | hj)
    · match j, hj with
      | 0, hj =>
        have e1 : h0 = q.1 := by injection hj with hj; exact congrArg Prod.fst hj
        exact hi (hD.1 i k q _ hq' hk e1.symm)
      | j + 1, hj => simp at hj
    · omega
  have hset : ∀ (i : Nat) (q : Nat × va_E), (ws.set k (h0, e1))[i]? = some q → (i = k ∧ q = (h0, e1)) ∨ (i ≠ k ∧ ws[i]? = some q) := by
    intro i q hi
    rw [List.getElem?_set] at hi
    by_cases e : k = i
    · rw [if_pos e, if_pos hkl] at hi
      exact Or.inl ⟨e.symm, (Option.some.inj hi).symm⟩
    · rw [if_neg e] at hi
      exact Or.inr ⟨fun z => e z.symm, hi⟩
  have hnew : ∀ (i : Nat) (q : Nat × va_E), wn[i]? = some q → q.1 ≠ h0 ∧ H.size ≤ q.1 ∨ False := by
    intro i q hi
    have hne : q.1 ≠ h0 := fun z => by
      have := hD1.1 (i + 1) 0 q (h0, e1) hi rfl z
      omega
    rcases hD1.2 (i + 1) q hi with ⟨j, e, hj⟩ | hj
    · match j, hj with
      | 0, hj =>
        have e1 : h0 = q.1 := by injection hj with hj; exact congrArg Prod.fst hj
        exact absurd e1.symm hne
      | j + 1, hj => simp at hj
    · exact Or.inl ⟨hne, hj⟩
  have hP2 : va_P D cl (ws.set k (h0, e1)) H1 := by
    intro i q hi
    rcases hset i q hi with ⟨-, rfl⟩ | ⟨z, hi⟩
    · exact hP1 0 _ rfl
    · exact (hP i q hi).kept (hq q.1 (old i q z hi).1 (old i q z hi).2)
  refine ⟨hP2.app fun i q hi => hP1 (i + 1) q hi, va_D.app (hD.set hk) ⟨fun i j x y hi hj hxy => by
    have := hD1.1 (i + 1) (j + 1) x y hi hj hxy
    omega, fun i q hi => ?_⟩ fun i j x y hi hj => ?_⟩
  · rcases hnew i q hi with ⟨-, z⟩ | z
    · exact hA q.1 z
    · exact z.elim
  · rcases hnew j y hj with ⟨n1, n2⟩ | z
    · rcases hset i x hi with ⟨-, rfl⟩ | ⟨z, hi⟩
      · exact fun q => n1 q.symm
      · exact fun q => by have := (old i x z hi).1; omega
    · exact z.elim
def b_A (h0 ci : Nat) (fs : List Value) (sz : Nat) : Nat → Prop := va_A [(h0, .inr (ci, fs))] sz
def b_pre (D : va_G) (h0 ci : Nat) (fs : List Value) (sz : Nat) (B : State → Prop) (U : State) : Prop := U.heap.size = sz ∧ va_P D m_cl [(h0, .inr (ci, fs))] U.heap ∧ va_K D m_cl [] U ∧ B U
def b_post (D : va_G) (h0 ci : Nat) (fs : List Value) (sz : Nat) (S : va_E → va_W → b_T → Prop) : Array Value → State → Outcome → State → Prop := va_Qv (S := va_E × va_W × b_T) (fun u => S u.1 u.2.1 u.2.2) (fun u t => va_P D m_cl ((h0, u.1) :: u.2.1) t.heap ∧ va_K D m_cl u.2.2 t ∧ va_D (b_A h0 ci fs sz) ((h0, u.1) :: u.2.1)) (b_A h0 ci fs sz)
def b_ww (y : MethodName) (cc : ByteArray) (mx : Nat) : List Cond := Cond.code y cc mx none :: m_wall
theorem b_good {y : MethodName} {cc : ByteArray} {mx : Nat} (h : Cond.code y cc mx none ∈ m_wall) : GoodIn m_wall (b_ww y cc mx) := fun w hw => by
  rcases List.mem_cons.mp hw with rfl | hw
  · exact ⟨h, Or.inl rfl⟩
  · exact m_wall_good w hw
theorem b_blind {D : va_G} {h0 ci sz : Nat} {fs : List Value} {B : State → Prop} {av : List Value} (hB : ∀ (U : State) (g : JFrame) (mk : MethodId) (a : Array Value), B U → B (U.calling g mk a)) : FrameBlind (va_Pc av (b_pre D h0 ci fs sz B)) := fun a U g mk q => by
  obtain ⟨q1, q2, q3, q4, q5⟩ := q
  exact ⟨q1, q2, q3, va_K.moved (u := U) (U := U.calling g mk a) (Vm.Alike.refl U.vm) q4, hB U g mk a q5⟩
section Made
variable {p : Program} {l : Launch} {e : Env} {R : Room} {s : State} {m : MethodId} {args : Array Value} {below : List Frame} {meth : Method} {c : Code} {H H0 : Heap} {locs : List Loc} {cells slots : Nat} {QF : State → Prop} {pc : Nat} {ls : Array Slot} {rest : List Value} {D : va_G} {A : Nat → Prop} {W0 : va_W} {tys : b_T}
theorem b_after {mc ms : Nat} {st0 : List Value} {a : Array Value} {h0 ci k : Nat} {fs : List Value} {S : va_E → va_W → b_T → Prop} (hr : va_Run p l e R s m args below meth c H locs cells slots mc ms (F0 m pc ls st0) rest (b_post D h0 ci fs H.size S a) (b_A h0 ci fs H.size))
    (hK : va_K D m_cl tys s) (hP : va_P D m_cl W0 H) (hD : va_D A W0) (hS : va_S A H0 H locs) (hA : ∀ q, H0.size ≤ q → A q) (hk : W0[k]? = some (h0, .inr (ci, fs)))
    (kk : ∀ (e1 : va_E) (wn : va_W) (t : b_T) (H1 : Heap) (locs1 : List Loc), S e1 wn t → va_K D m_cl (tys ++ t) s → va_P D m_cl (W0.set k (h0, e1) ++ wn) H1 → va_D A (W0.set k (h0, e1) ++ wn) → va_S A H0 H1 locs1 → W p l e R s m args below meth c H1 locs1 (cells + mc) (slots + ms) QF (F0 m (pc + 3) ls rest)) : W p l e R s m args below meth c H locs cells slots QF (F0 m pc ls st0) := by
  have hF : ∀ q, b_A h0 ci fs H.size q → A q := by
    rintro q (⟨j, e, hj⟩ | hj)
    · match j, hj with
      | 0, hj =>
        have e1 : h0 = q := by injection hj with hj; exact congrArg Prod.fst hj
        rw [← e1]
        exact hD.2 k _ hk
      | j + 1, hj => simp at hj
    · exact hA q (Nat.le_trans hS.1 hj)
  refine va_callv hr hS (fun q _ h => hF q h) hF (fun u t H1 locs1 ht hvm hw hB hz1 hk1 hS1 => ?_)
  obtain ⟨e1, wn, ty⟩ := u
  obtain ⟨hP1, hK1, hD1⟩ := hB
  rw [ht] at hP1
  obtain ⟨j1, j2⟩ := b_join hP hD hk (fun q hq => hA q (Nat.le_trans hS.1 hq)) hk1 hP1 hD1
  exact kk e1 wn ty H1 locs1 hw (hK.app (va_K.moved hvm.symm hK1)) j1 j2 hS1
theorem b_pres {h0 ci k : Nat} {fs : List Value} {B : State → Prop} {av : List Value} (hB : ∀ (U : State) (g : JFrame) (mk : MethodId) (a : Array Value), B U → B (U.calling g mk a)) (hBW : ∀ U : State, s.WarmedH U.vm → B U) (hK : va_K D m_cl tys s) (hP : va_P D m_cl W0 H) (hk : W0[k]? = some (h0, .inr (ci, fs))) : PreS s H (va_Pc (.ref h0 :: av) (b_pre D h0 ci fs H.size B)) (.ref h0 :: av) :=
  ⟨b_blind hB, fun U hU hW => ⟨rfl, by rw [hU], by rw [hU]; exact b_one hP hk, va_K.moved hW.alike (hK.sub (tys' := []) [] rfl), hBW U hW⟩⟩
end Made
theorem b_ty {c : Nat} (h : c < 7) : ∀ k, k < m_nf c → parseFieldDescriptor (m_Tc c k).2.2.1 = some (m_ty c k) := fun k hk => by
  have h1 := m_below m_tyc h hk
  rw [Bool.and_eq_true, decide_eq_true_eq, decide_eq_true_eq] at h1
  exact h1.1
theorem b_nm {c : Nat} (h : c < 7) : ∀ a, a < m_nf c → ∀ b, b < m_nf c → a ≠ b → (m_Tc c a).2.1 ≠ (m_Tc c b).2.1 := fun a ha b hb hab => by
  have h1 := List.all_eq_true.mp (m_below m_nmc h ha) b (List.mem_range.mpr hb)
  rw [Bool.or_eq_true, decide_eq_true_eq, decide_eq_true_eq] at h1
  exact h1.resolve_left hab
theorem b_d1 : parseFieldDescriptor "[I" = some (.array .int) := by decide +kernel
theorem b_d2 : parseFieldDescriptor "I" = some .int := by decide +kernel
theorem b_d3 : parseFieldDescriptor "Z" = some .boolean := by decide +kernel
theorem b_d4 : parseFieldDescriptor "[J" = some (.array .long) := by decide +kernel
theorem b_d5 : parseFieldDescriptor "[Z" = some (.array .boolean) := by decide +kernel
theorem b_d6 : parseFieldDescriptor "LAsManyAsCame$Numbers;" = some (.object "AsManyAsCame$Numbers") := by decide +kernel
theorem b_d7 : parseFieldDescriptor "LAsManyAsCame$Town;" = some (.object "AsManyAsCame$Town") := by decide +kernel
theorem b_d8 : parseFieldDescriptor "LAsManyAsCame$Tape;" = some (.object "AsManyAsCame$Tape") := by decide +kernel
theorem b_d9 : parseFieldDescriptor "LAsManyAsCame$Asked;" = some (.object "AsManyAsCame$Asked") := by decide +kernel
theorem b_d10 : parseFieldDescriptor "[LAsManyAsCame$Row;" = some (.array (.object "AsManyAsCame$Row")) := by decide +kernel
theorem b_d11 : parseFieldDescriptor "[LAsManyAsCame$Town;" = some (.array (.object "AsManyAsCame$Town")) := by decide +kernel
theorem b_dv : ((List.range 7).all fun c => (List.range (m_nf c)).all fun j => decide (defaultValue (m_ty c j) = match m_fr c j 0 with | some _ => Value.null | none => .int 0)) = true := by decide +kernel
