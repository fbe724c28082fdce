/-! what the tables promise, checked by computing -/
/-- how long an instruction is that stands in the tables; 0: a switch -/
def m_il : Instr → Nat
  | .bipush _ | .ldc _ | .iload _ | .lload _ | .aload _ | .istore _ | .lstore _ | .astore _ => 2
  | .sipush _ | .ldc_w _ | .ldc2_w _ | .iinc _ _ | .ifCond _ _ | .if_icmp _ _ | .goto _ | .ifnull _ | .ifnonnull _ | .getfield _ | .putfield _ | .getstatic _ | .invokevirtual _ | .invokestatic _ => 3
  | .tableswitch _ _ _ _ => 0
  | _ => 1
def m_has5 (l : List (Nat × Nat × Nat × Nat × Nat)) (oc i a b : Nat) : Bool := l.any fun e => Nat.beq e.1 oc && Nat.beq e.2.1 i && Nat.beq e.2.2.1 a && Nat.beq e.2.2.2.1 b
def m_has4 (l : List (Nat × Nat × Nat × Nat)) (oc i b : Nat) : Bool := l.any fun e => Nat.beq e.1 oc && Nat.beq e.2.1 i && Nat.beq e.2.2.1 b
def m_hasM (oc i y : Nat) : Bool := m_cpm.any fun e => Nat.beq e.1 oc && Nat.beq e.2.1 i && Nat.beq e.2.2.1 y
/-- what an instruction names -/
def m_c2 (oc mx pc : Nat) (e : m_I) : Bool := match e with
  | (i, _, a, b) => match i with
  | .ifCond _ o => decide ((pc : Int) + o = (b : Int))
  | .if_icmp _ o => decide ((pc : Int) + o = (b : Int))
  | .goto o => decide ((pc : Int) + o = (b : Int))
  | .ifnull o => decide ((pc : Int) + o = (b : Int))
  | .ifnonnull o => decide ((pc : Int) + o = (b : Int))
  | .istore k => Nat.blt k mx
  | .istore_n k => Nat.blt k mx
  | .astore k => Nat.blt k mx
  | .astore_n k => Nat.blt k mx
  | .lstore k => Nat.blt (k + 1) mx
  | .lstore_n k => Nat.blt (k + 1) mx
  | .iinc k _ => Nat.blt k mx
  | .tableswitch d lo hi os => decide (0 ≤ (pc : Int) + d) && os.toList.all (fun o => decide (0 ≤ (pc : Int) + o)) && decide (hi = lo + (os.size : Int) - 1)
  | .getfield k => m_has5 m_cpf oc k a b && Nat.blt b (cond (Nat.beq a 17) 2 (m_nf a))
  | .putfield k => m_has5 m_cpf oc k a b && Nat.blt b (m_nf a) && match m_fr a b 0 with
    | none => true
    | some _ => false
  | .getstatic k => m_has5 m_cpg oc k a b
  | .ldc k => cond (Nat.beq a 0) (m_has4 m_cpc oc k b) (m_has4 m_cps oc k b)
  | .ldc_w k => m_has4 m_cpc oc k b
  | .ldc2_w k => m_has4 m_cpl oc k b
  | .invokevirtual k => m_hasM oc k a && Nat.beq b (m_par a) && !m_sta a && Nat.blt a m_num
  | .invokestatic k => m_hasM oc k a && cond (Nat.beq b 98) (Nat.beq a 160) (cond (Nat.beq b 99) (Nat.beq a 161) (Nat.beq b (m_par a) && !Nat.beq a 160 && !Nat.beq a 161)) && m_sta a && Nat.blt a m_num
  | _ => true
def m_c1 (oc mx : Nat) (bs : ByteArray) (pc : Nat) (e : m_I) : Bool := match decode bs pc with
  | .ok (i, len) => decide (i = e.1) && Nat.beq (pc + len) e.2.1 && (Nat.beq (m_il i) 0 || Nat.beq (m_il i) len) && m_c2 oc mx pc e
  | .error _ => false
def m_okr (r : m_R) : Bool := Nat.ble r.2.2.2.1 21 && decide (m_on r.2.2.2.2.2.1 = r.2.2.1.cls) && (List.range (16 * r.1.length)).all fun pc => match m_nth (m_nth r.1 (pc / 16) []) (pc % 16) none with
  | none => true
  | some e => m_c1 r.2.2.2.2.2.1 r.2.2.2.1 r.2.1 pc e
theorem m_nth_all {α : Type} {p : α → Bool} {d : α} (hd : p d = true) : ∀ (l : List α) (n : Nat), l.all p = true → p (m_nth l n d) = true
  | [], _, _ => by unfold m_nth; exact hd
  | a :: l, 0, h => by
    rw [List.all_cons, Bool.and_eq_true] at h
    exact h.1
  | a :: l, n + 1, h => by
    rw [List.all_cons, Bool.and_eq_true] at h
    exact m_nth_all hd l n h.2
theorem m_nth_lt {α : Type} {d : α} : ∀ (l : List α) (n : Nat), l.length ≤ n → m_nth l n d = d
  | [], _, _ => by unfold m_nth; rfl
  | a :: l, 0, h => absurd h (by simp)
  | a :: l, n + 1, h => m_nth_lt l n (by simpa using h)
theorem m_nth_get {α : Type} {d : α} : ∀ (l : List α) (n : Nat), n < l.length → l[n]? = some (m_nth l n d)
  | [], _, h => absurd h (by simp)
  | a :: l, 0, _ => rfl
  | a :: l, n + 1, h => by
    rw [List.getElem?_cons_succ]
    exact m_nth_get l n (by simpa using h)
theorem m_nth_of {α : Type} {d : α} {l : List α} {n : Nat} {x : α} (h : l[n]? = some x) : m_nth l n d = x := by
  have h1 := (List.getElem?_eq_some_iff.mp h).1
  exact Option.some.inj ((m_nth_get (d := d) l n h1).symm.trans h)
