/-! an instruction's step -/
theorem m_ln {k len : Nat} (h : k = 0 ∨ k = len) (hk : k ≠ 0) : len = k := by
  rcases h with h | h
  · exact absurd h hk
  · exact h.symm
theorem m_wmat {oc k y : Nat} (h : m_hasM oc k y = true) : ∃ pl pk ps nest pi, m_mw (oc, k, y, pl, pk, ps, nest, pi) = true := by
  unfold m_hasM at h
  obtain ⟨⟨x1, x2, x3, x4, x5, x6, x7, x8⟩, hm, h⟩ := List.any_eq_true.mp h
  simp only [Bool.and_eq_true] at h
  obtain ⟨⟨e1, e2⟩, e3⟩ := h
  cases m_beq e1; cases m_beq e2; cases m_beq e3
  exact ⟨x4, x5, x6, x7, x8, List.all_eq_true.mp m_wm _ hm⟩
theorem m_upd_fun {σ : m_M} {c v : Nat} {i : Int32} {x : Int32} : (m_up σ c v i.toNatClampNeg x).1 c v = upd (σ.1 c v) i.toNatClampNeg x := by
  funext j
  show (if c = c ∧ v = v ∧ j = i.toNatClampNeg then x else σ.1 c v j) = if j = i.toNatClampNeg then x else σ.1 c v j
  by_cases h : j = i.toNatClampNeg
  · rw [if_pos ⟨rfl, rfl, h⟩, if_pos h]
  · rw [if_neg (fun q => h q.2.2), if_neg h]
theorem m_con_i {G : m_G} {σ : m_M} {c v : Nat} (h : c = 12 ∨ c = 13 ∨ c = 15) : m_con G σ c v = .inl (σ.1 c v) := by
  rcases h with rfl | rfl | rfl <;> rfl
theorem m_cps_lt : (m_cps.all fun e => Nat.blt e.2.2.1 10) = true := by decide +kernel
section Step
variable {p : Program} {l : Launch} {e : Env} {R : Room} {s : State} {m : MethodId} {args : Array Value} {below : List Frame} {meth : Method} {c : Code} {cells slots : Nat} {QF : State → Prop} {G : m_G} {E : m_E} {A : Nat → Prop} {y r : Nat} {K : m_F → Prop} {Q : m_F → Prop} {Cl : Nat → List m_V → (List m_V → m_M → m_F) → Prop}
/-- what a next place gives -/
def m_Go (l : Launch) (G : m_G) (E : m_E) (A : Nat → Prop) (y : Nat) (p : Program) (e : Env) (R : Room) (s : State) (m : MethodId) (args : Array Value) (below : List Frame) (meth : Method) (c : Code) (cells slots : Nat) (QF : State → Prop) (K : m_F → Prop) : Prop :=
  ∀ {n : Nat} {ls : m_L} {st : List m_V} {σ : m_M}, K (n, ls, st, σ) → m_okL ls → m_okS st → ∀ {H : Heap} {locs : List Loc} {la : Array Slot}, va_P G.1 m_cl (m_ws G E σ) H → va_S A s.heap H locs → lv_has la (m_max y) (m_lvp G 0 ls) → W p l e R s m args below meth c H locs cells slots QF (F0 m n la (st.map (m_cv G)))
variable {pc len n a b : Nat} {ls : m_L} {st : List m_V} {σ : m_M} {H : Heap} {locs : List Loc} {la : Array Slot}
theorem m_s_if {cnd : ClassFile.Cond} {o : Int} (hx : p.tables.exec = Jvm.exec) (hb : c.code = m_bytes y) (go : m_Go l G E A y p e R s m args below meth c cells slots QF K) (hL : m_okL ls) (hT : m_okS st) (hP : va_P G.1 m_cl (m_ws G E σ) H) (hS : va_S A s.heap H locs) (hl : lv_has la (m_max y) (m_lvp G 0 ls))
    (hd : decode (m_bytes y) pc = .ok (.ifCond cnd o, 3)) (ht : (pc : Int) + o = (b : Int)) (h : m_i1 (fun x st => m_br cnd x 0 (K (b, ls, st, σ)) (K (pc + 3, ls, st, σ))) st) : W p l e R s m args below meth c H locs cells slots QF (F0 m pc la (st.map (m_cv G))) := by
  obtain ⟨x, t, rfl, hh⟩ := m_i1_el h; clear h; have h := hh
  have hT := m_okS_t hT
  cases cnd
  · exact lv_if_eq hx hb hd ht (fun q => go (h.1 q) hL hT hP hS hl) (fun q => go (h.2 q) hL hT hP hS hl)
  · exact lv_if_ne hx hb hd ht (fun q => go (h.1 q) hL hT hP hS hl) (fun q => go (h.2 q) hL hT hP hS hl)
  · exact lv_if_lt hx hb hd ht (fun q => go (h.1 q) hL hT hP hS hl) (fun q => go (h.2 q) hL hT hP hS hl)
  · exact lv_if_ge hx hb hd ht (fun q => go (h.1 q) hL hT hP hS hl) (fun q => go (h.2 q) hL hT hP hS hl)
  · exact lv_if_gt hx hb hd ht (fun q => go (h.1 q) hL hT hP hS hl) (fun q => go (h.2 q) hL hT hP hS hl)
  · exact lv_if_le hx hb hd ht (fun q => go (h.1 q) hL hT hP hS hl) (fun q => go (h.2 q) hL hT hP hS hl)
theorem m_s_icmp {cnd : ClassFile.Cond} {o : Int} (hx : p.tables.exec = Jvm.exec) (hb : c.code = m_bytes y) (go : m_Go l G E A y p e R s m args below meth c cells slots QF K) (hL : m_okL ls) (hT : m_okS st) (hP : va_P G.1 m_cl (m_ws G E σ) H) (hS : va_S A s.heap H locs) (hl : lv_has la (m_max y) (m_lvp G 0 ls))
    (hd : decode (m_bytes y) pc = .ok (.if_icmp cnd o, 3)) (ht : (pc : Int) + o = (b : Int)) (h : m_i2 (fun x y st => m_br cnd x y (K (b, ls, st, σ)) (K (pc + 3, ls, st, σ))) st) : W p l e R s m args below meth c H locs cells slots QF (F0 m pc la (st.map (m_cv G))) := by
  obtain ⟨x, x2, t, rfl, hh⟩ := m_i2_el h; clear h; have h := hh
  have hT := m_okS_t (m_okS_t hT)
  cases cnd
  · exact lv_icmp_eq hx hb hd ht (fun q => go (h.1 q) hL hT hP hS hl) (fun q => go (h.2 q) hL hT hP hS hl)
  · exact lv_icmp_ne hx hb hd ht (fun q => go (h.1 q) hL hT hP hS hl) (fun q => go (h.2 q) hL hT hP hS hl)
  · exact lv_icmp_lt hx hb hd ht (fun q => go (h.1 q) hL hT hP hS hl) (fun q => go (h.2 q) hL hT hP hS hl)
  · exact lv_icmp_ge hx hb hd ht (fun q => go (h.1 q) hL hT hP hS hl) (fun q => go (h.2 q) hL hT hP hS hl)
  · exact lv_icmp_gt hx hb hd ht (fun q => go (h.1 q) hL hT hP hS hl) (fun q => go (h.2 q) hL hT hP hS hl)
  · exact lv_icmp_le hx hb hd ht (fun q => go (h.1 q) hL hT hP hS hl) (fun q => go (h.2 q) hL hT hP hS hl)
theorem m_s_sw {d lo hi : Int} {os : Array Int} (hx : p.tables.exec = Jvm.exec) (hb : c.code = m_bytes y) (go : m_Go l G E A y p e R s m args below meth c cells slots QF K) (hL : m_okL ls) (hT : m_okS st) (hP : va_P G.1 m_cl (m_ws G E σ) H) (hS : va_S A s.heap H locs) (hl : lv_has la (m_max y) (m_lvp G 0 ls))
    (hd : decode (m_bytes y) pc = .ok (.tableswitch d lo hi os, len)) (hc2 : (decide (0 ≤ (pc : Int) + d) && os.toList.all (fun o => decide (0 ≤ (pc : Int) + o)) && decide (hi = lo + (os.size : Int) - 1)) = true)
    (h : m_i1 (fun x st => m_sw pc x.toInt (fun t => K (t, ls, st, σ)) lo os.toList ∧ ((x.toInt < lo ∨ hi < x.toInt) → K (Int.toNat ((pc : Int) + d), ls, st, σ))) st) : W p l e R s m args below meth c H locs cells slots QF (F0 m pc la (st.map (m_cv G))) := by
  obtain ⟨x, t, rfl, h1, h2⟩ := m_i1_el h
  have hT := m_okS_t hT
  simp only [Bool.and_eq_true, decide_eq_true_eq] at hc2
  obtain ⟨⟨c1, c2⟩, c3⟩ := hc2
  by_cases hr : x.toInt < lo ∨ hi < x.toInt
  · exact lv_tableOut hx hb hd hr (Int.toNat_of_nonneg c1).symm (go (h2 hr) hL hT hP hS hl)
  · have q1 : ¬ x.toInt < lo := fun q => hr (Or.inl q)
    have q2 : ¬ hi < x.toInt := fun q => hr (Or.inr q)
    have hk : (x.toInt - lo).toNat < os.size := by omega
    have ho : os[(x.toInt - lo).toNat]? = some os[(x.toInt - lo).toNat] := Array.getElem?_eq_getElem hk
    have ho2 : os.toList[(x.toInt - lo).toNat]? = some os[(x.toInt - lo).toNat] := by rw [Array.getElem?_toList]; exact ho
    have c4 : (0 : Int) ≤ (pc : Int) + os[(x.toInt - lo).toNat] := of_decide_eq_true (List.all_eq_true.mp c2 _ (List.mem_of_getElem? ho2))
    exact lv_tableIn hx hb hd q1 q2 ho (Int.toNat_of_nonneg c4).symm (go (m_sw_at _ _ _ _ h1 ho2 (by omega)) hL hT hP hS hl)
theorem m_s_getfield {idx : Nat} (hz : m_hz G) (hC : m_Cx G E A y r p R s m args c cells slots) (go : m_Go l G E A y p e R s m args below meth c cells slots QF K) (hL : m_okL ls) (hT : m_okS st) (hP : va_P G.1 m_cl (m_ws G E σ) H) (hS : va_S A s.heap H locs) (hl : lv_has la (m_max y) (m_lvp G 0 ls))
    (hd : decode (m_bytes y) pc = .ok (.getfield idx, 3)) (hc2 : (m_has5 m_cpf (m_oc y) idx a b && Nat.blt b (cond (Nat.beq a 17) 2 (m_nf a))) = true)
    (h : m_r1 (fun c v st => cond (Nat.beq c a) (K (pc + 3, ls, m_fv σ a b v :: st, σ)) False) st) : W p l e R s m args below meth c H locs cells slots QF (F0 m pc la (st.map (m_cv G))) := by
  obtain ⟨hx, hb, hml, hown, hts, hK, hRO, -⟩ := hC
  obtain ⟨c', v, t, rfl, hh⟩ := m_r1_el h; clear h; have h := hh
  cases hca : Nat.beq c' a with
  | false => rw [hca] at h; exact h.elim
  | true =>
    rw [hca] at h
    have e0 := m_beq hca
    subst e0
    have hv : m_vr c' v = true := m_okS_h hT
    have hT2 := m_okS_t hT
    rw [Bool.and_eq_true] at hc2
    obtain ⟨c1, c2⟩ := hc2
    obtain ⟨pl, hm⟩ := m_has5_of c1
    have hw := m_in_of (List.all_eq_true.mp m_wf _ hm)
    by_cases h7 : c' < 7
    · have hb' : b < m_nf c' := by
        rw [m_nbeq (show ¬ c' = 17 by omega)] at c2
        exact m_c_lt c2
      obtain ⟨k, hk⟩ := m_pos hv (by omega)
      have hat := m_at (G := G) (E := E) (σ := σ) hk
      rw [m_ent_o h7] at hat
      have hty := m_below m_tyc h7 hb'
      rw [Bool.and_eq_true, decide_eq_true_eq, decide_eq_true_eq] at hty
      rw [hty.2] at hw
      rw [List.map_cons, m_cv_r (by omega)]
      exact va_get (T := m_Tc c') hx hb hts (m_uin h7) hown hK hP k hat (m_cl_at h7) b hb' (hts _ hw) (fun _ q => q) (v := m_cv G (m_fv σ c' b v)) (by rw [List.getElem?_map, List.getElem?_range hb']; rfl) hd (go h hL (m_okS_c (m_fv_ok (by omega) (m_nf_lt h7 hb') hv) hT2) hP hS hl)
    · have h17 : c' = 17 := by
        rcases Nat.lt_or_ge c' 17 with q | q
        · exfalso
          have e : m_nf c' = 0 := m_nth_lt _ _ (by show 7 ≤ c'; omega)
          rw [m_nbeq (show ¬ c' = 17 by omega)] at c2
          have := m_c_lt c2
          rw [show cond false 2 (m_nf c') = m_nf c' from rfl, e] at this
          omega
        · rcases Nat.lt_or_ge 17 c' with q2 | q2
          · exfalso
            have e : m_nf c' = 0 := m_nth_lt _ _ (by show 7 ≤ c'; omega)
            rw [m_nbeq (show ¬ c' = 17 by omega)] at c2
            have := m_c_lt c2
            rw [show cond false 2 (m_nf c') = m_nf c' from rfl, e] at this
            omega
          · omega
      subst h17
      have hb2 : b < 2 := m_c_lt c2
      have hv10 : v < 10 := m_c_lt hv
      rw [List.map_cons, m_cv_r (by omega)]
      obtain ⟨-, -, -, -, -, hstr, -⟩ := hRO
      obtain ⟨g1, g2, g3, g4⟩ := hstr.1 v hv10
      rcases (show b = 0 ∨ b = 1 by omega) with rfl | rfl
      · exact vk_getf hx hb g3 hS hown (hts _ hw) (fun _ q => q) hd (go h hL (m_okS_c hv hT2) hP hS hl)
      · exact vk_getf hx hb g2 hS hown (hts _ hw) (fun _ q => q) hd (go h hL (m_okS_c rfl hT2) hP hS hl)
theorem m_s_putfield {idx : Nat} (hz : m_hz G) (hD : ∀ σ, va_D A (m_ws G E σ)) (hC : m_Cx G E A y r p R s m args c cells slots) (go : m_Go l G E A y p e R s m args below meth c cells slots QF K) (hL : m_okL ls) (hT : m_okS st) (hP : va_P G.1 m_cl (m_ws G E σ) H) (hS : va_S A s.heap H locs) (hl : lv_has la (m_max y) (m_lvp G 0 ls))
    (hd : decode (m_bytes y) pc = .ok (.putfield idx, 3)) (hc2 : (m_has5 m_cpf (m_oc y) idx a b && Nat.blt b (m_nf a) && match m_fr a b 0 with
      | none => true
      | some _ => false) = true)
    (h : (match (generalizing := false) st with
    | .inl x :: .inr (.inr (some (c, v))) :: st => cond (Nat.beq c a && Nat.blt c 7) (match m_fr a b v with
      | some _ => False
      | none => cond (m_fb a b) ((x = 0 ∨ x = 1) ∧ K (pc + 3, ls, st, m_up σ a v b x)) (K (pc + 3, ls, st, m_up σ a v b x))) False
    | _ => False)) : W p l e R s m args below meth c H locs cells slots QF (F0 m pc la (st.map (m_cv G))) := by
  obtain ⟨hx, hb, hml, hown, hts, hK, hRO, -⟩ := hC
  split at h
  · next x c' v t =>
    cases hca : (Nat.beq c' a && Nat.blt c' 7) with
    | false => rw [hca] at h; exact h.elim
    | true =>
      rw [hca] at h
      rw [Bool.and_eq_true] at hca
      have e0 := m_beq hca.1
      subst e0
      have h7 := m_c_lt hca.2
      have hv : m_vr c' v = true := m_okS_h (m_okS_t hT)
      have hT := m_okS_t (m_okS_t hT)
      rw [Bool.and_eq_true, Bool.and_eq_true] at hc2
      obtain ⟨⟨c1, c2⟩, c3⟩ := hc2
      obtain ⟨pl, hm⟩ := m_has5_of c1
      have hw := m_in_of (List.all_eq_true.mp m_wf _ hm)
      have hb' := m_c_lt c2
      obtain ⟨k, hk⟩ := m_pos hv (by omega)
      have hat := m_at (G := G) (E := E) (σ := σ) hk
      rw [m_ent_o h7] at hat
      have hty := m_below m_tyc h7 hb'
      rw [Bool.and_eq_true, decide_eq_true_eq, decide_eq_true_eq] at hty
      rw [hty.2] at hw
      have hst := m_below m_stc h7 hb'
      cases hf : m_fr c' b v with
      | some q => rw [hf] at h; exact h.elim
      | none =>
        rw [hf] at h
        have hf0 : m_fr c' b 0 = none := by
          cases hq : m_fr c' b 0 with
          | none => rfl
          | some q => rw [hq] at c3; cases c3
        rw [hf0] at hst
        rw [Bool.and_eq_true] at hst
        have hfin : (m_Tc c' b).2.2.2 = false := by simpa using hst.1
        have hpd : ∀ k, k < m_nf c' → parseFieldDescriptor (m_Tc c' k).2.2.1 = some (m_ty c' k) := fun k hk => by
          have := m_below m_tyc h7 hk
          rw [Bool.and_eq_true, decide_eq_true_eq] at this
          exact this.1
        have hnm : ∀ a, a < m_nf c' → ∀ b, b < m_nf c' → a ≠ b → (m_Tc c' a).2.1 ≠ (m_Tc c' b).2.1 := fun a ha b hb hne => by
          have h1 := m_below m_nmc h7 ha
          have h2 := List.all_eq_true.mp h1 b (List.mem_range.mpr hb)
          rw [Bool.or_eq_true, decide_eq_true_eq, decide_eq_true_eq] at h2
          exact h2.resolve_left hne
        have key : narrow (m_ty c' b) (.int x) = .int x ∧ fits (m_ty c' b) (.int x) = true ∧ K (pc + 3, ls, t, m_up σ c' v b x) := by
          cases hfb : m_fb c' b with
          | true =>
            rw [hfb] at h hst
            have e : m_ty c' b = .boolean := of_decide_eq_true hst.2
            rw [e]
            refine ⟨?_, ?_, h.2⟩ <;> (rcases h.1 with q | q <;> rw [q] <;> rfl)
          | false =>
            rw [hfb] at h hst
            have e : m_ty c' b = .int := of_decide_eq_true hst.2
            rw [e]
            exact ⟨rfl, rfl, h⟩
        obtain ⟨k1, k2, k3⟩ := key
        rw [List.map_cons, List.map_cons, m_cv_r (by omega)]
        refine va_put (T := m_Tc c') hx hb hts (m_uin h7) (m_ty c') hpd hnm hown hK hP (hD σ) hS k hat (m_cl_at h7) b hb' (hts _ hw) (fun _ q => q) hfin (hpd b hb') k1 k2 (by rw [List.length_map, List.length_range]; exact hb') hd (fun H1 locs1 hP1 _ hS1 => ?_)
        have hP1 : va_P G.1 m_cl ((m_ws G E σ).set k (G.2.1 c' v, .inr (c', ((List.range (m_nf c')).map fun j => m_cv G (m_fv σ c' j v)).set b (.int x)))) H1 := hP1
        rw [← m_ent_put (G := G) (E := E) h7 hf, m_ws_up hk] at hP1
        exact go k3 hL hT hP1 hS1 hl
  · exact h.elim
end Step
