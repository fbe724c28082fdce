/-! what an instruction does; the machine's own logic: m_T, the least predicate that its steps are closed under -/
/-- one, two from the stack -/
def m_i1 (f : Int32 → List m_V → Prop) : List m_V → Prop
  | .inl x :: st => f x st
  | _ => False
def m_i2 (f : Int32 → Int32 → List m_V → Prop) : List m_V → Prop
  | .inl y :: .inl x :: st => f x y st
  | _ => False
def m_l1 (f : Int64 → List m_V → Prop) : List m_V → Prop
  | .inr (.inl x) :: st => f x st
  | _ => False
def m_l2 (f : Int64 → Int64 → List m_V → Prop) : List m_V → Prop
  | .inr (.inl y) :: .inr (.inl x) :: st => f x y st
  | _ => False
def m_li (f : Int64 → Int32 → List m_V → Prop) : List m_V → Prop
  | .inl y :: .inr (.inl x) :: st => f x y st
  | _ => False
def m_r1 (f : Nat → Nat → List m_V → Prop) : List m_V → Prop
  | .inr (.inr (some (c, v))) :: st => f c v st
  | _ => False
def m_ri (f : Nat → Nat → Int32 → List m_V → Prop) : List m_V → Prop
  | .inl i :: .inr (.inr (some (c, v))) :: st => f c v i st
  | _ => False
def m_rii (f : Nat → Nat → Int32 → Int32 → List m_V → Prop) : List m_V → Prop
  | .inl x :: .inl i :: .inr (.inr (some (c, v))) :: st => f c v i x st
  | _ => False
def m_ril (f : Nat → Nat → Int32 → Int64 → List m_V → Prop) : List m_V → Prop
  | .inr (.inl x) :: .inl i :: .inr (.inr (some (c, v))) :: st => f c v i x st
  | _ => False
def m_rn (f : Option (Nat × Nat) → List m_V → Prop) : List m_V → Prop
  | .inr (.inr r) :: st => f r st
  | _ => False
def m_ldI (ls : m_L) (i : Nat) (f : Int32 → Prop) : Prop := match m_nth ls i none with
  | some (.inl x) => f x
  | _ => False
def m_ldL (ls : m_L) (i : Nat) (f : Int64 → Prop) : Prop := match m_nth ls i none with
  | some (.inr (.inl x)) => f x
  | _ => False
def m_ldR (ls : m_L) (i : Nat) (f : Option (Nat × Nat) → Prop) : Prop := match m_nth ls i none with
  | some (.inr (.inr r)) => f r
  | _ => False
def m_br (cnd : ClassFile.Cond) (x y : Int32) (A B : Prop) : Prop := match cnd with
  | .eq => (x = y → A) ∧ (¬ x = y → B)
  | .ne => (¬ x = y → A) ∧ (x = y → B)
  | .lt => (x < y → A) ∧ (¬ x < y → B)
  | .ge => (y ≤ x → A) ∧ (¬ y ≤ x → B)
  | .gt => (y < x → A) ∧ (¬ y < x → B)
  | .le => (x ≤ y → A) ∧ (¬ x ≤ y → B)
def m_sw (pc : Nat) (x : Int) (K : Nat → Prop) : Int → List Int → Prop
  | _, [] => True
  | lo, o :: os => (x = lo → K (Int.toNat ((pc : Int) + o))) ∧ m_sw pc x K (lo + 1) os
/-- what an answer's type asks -/
def m_rok (rt : Option FieldType) (x : Int32) (B : Prop) : Prop := match rt with
  | some .int => B
  | some .boolean => (x = 0 ∨ x = 1) ∧ B
  | some t => narrow t (.int x) = .int x ∧ B
  | none => False
def m_rtL (rt : Option FieldType) : Bool := match rt with
  | some .long => true
  | _ => false
def m_rtA (rt : Option FieldType) : Bool := match rt with
  | some (.object _) => true
  | _ => false
def m_rtV (rt : Option FieldType) : Bool := match rt with
  | none => true
  | _ => false
def m_sem (oc mx : Nat → Nat) (E : m_E) (rt : Option FieldType) (K : m_F → Prop) (Cl : Nat → List m_V → (List m_V → m_M → m_F) → Prop) (Q : m_F → Prop) (e : m_I) (pc : Nat) (ls : m_L) (st : List m_V) (σ : m_M) : Prop :=
  match e with
  | (i, n, a, b) => match i with
  | .iconst k => K (n, ls, vI (Int32.ofInt k) :: st, σ)
  | .bipush k => K (n, ls, vI (Int8.ofInt k).toInt32 :: st, σ)
  | .sipush k => K (n, ls, vI (Int16.ofInt k).toInt32 :: st, σ)
  | .lconst k => K (n, ls, vL (Int64.ofNat k) :: st, σ)
  | .ldc _ => cond (Nat.beq a 0) (K (n, ls, vI (m_nth m_kI b 0) :: st, σ)) (K (n, ls, vR 17 b :: st, σ))
  | .ldc_w _ => K (n, ls, vI (m_nth m_kI b 0) :: st, σ)
  | .ldc2_w _ => K (n, ls, vL (m_nth m_kL b 0) :: st, σ)
  | .aconst_null => K (n, ls, vN :: st, σ)
  | .iload k => m_ldI ls k fun x => K (n, ls, vI x :: st, σ)
  | .iload_n k => m_ldI ls k fun x => K (n, ls, vI x :: st, σ)
  | .lload k => m_ldL ls k fun x => K (n, ls, vL x :: st, σ)
  | .lload_n k => m_ldL ls k fun x => K (n, ls, vL x :: st, σ)
  | .aload k => m_ldR ls k fun r => K (n, ls, .inr (.inr r) :: st, σ)
  | .aload_n k => m_ldR ls k fun r => K (n, ls, .inr (.inr r) :: st, σ)
  | .istore k => m_i1 (fun x st => K (n, m_st ls k (vI x), st, σ)) st
  | .istore_n k => m_i1 (fun x st => K (n, m_st ls k (vI x), st, σ)) st
  | .lstore k => m_l1 (fun x st => K (n, m_stL ls k x, st, σ)) st
  | .lstore_n k => m_l1 (fun x st => K (n, m_stL ls k x, st, σ)) st
  | .astore k => m_rn (fun r st => K (n, m_st ls k (.inr (.inr r)), st, σ)) st
  | .astore_n k => m_rn (fun r st => K (n, m_st ls k (.inr (.inr r)), st, σ)) st
  | .iinc k d => m_ldI ls k fun x => K (n, m_st ls k (vI (x + Int32.ofInt d)), st, σ)
  | .iadd => m_i2 (fun x y st => K (n, ls, vI (x + y) :: st, σ)) st
  | .isub => m_i2 (fun x y st => K (n, ls, vI (x - y) :: st, σ)) st
  | .imul => m_i2 (fun x y st => K (n, ls, vI (x * y) :: st, σ)) st
  | .idiv => m_i2 (fun x y st => ¬ y = 0 ∧ K (n, ls, vI (x / y) :: st, σ)) st
  | .irem => m_i2 (fun x y st => ¬ y = 0 ∧ K (n, ls, vI (x - x / y * y) :: st, σ)) st
  | .iand => m_i2 (fun x y st => K (n, ls, vI (x &&& y) :: st, σ)) st
  | .ior => m_i2 (fun x y st => K (n, ls, vI (x ||| y) :: st, σ)) st
  | .ishl => m_i2 (fun x y st => K (n, ls, vI (x <<< (y &&& 31)) :: st, σ)) st
  | .ishr => m_i2 (fun x y st => K (n, ls, vI (x >>> (y &&& 31)) :: st, σ)) st
  | .ineg => m_i1 (fun x st => K (n, ls, vI (-x) :: st, σ)) st
  | .i2l => m_i1 (fun x st => K (n, ls, vL x.toInt64 :: st, σ)) st
  | .i2b => m_i1 (fun x st => K (n, ls, vI x.toInt8.toInt32 :: st, σ)) st
  | .i2s => m_i1 (fun x st => K (n, ls, vI x.toInt16.toInt32 :: st, σ)) st
  | .i2c => m_i1 (fun x st => K (n, ls, vI (x.toUInt32 % 65536).toInt32 :: st, σ)) st
  | .l2i => m_l1 (fun x st => K (n, ls, vI x.toInt32 :: st, σ)) st
  | .ladd => m_l2 (fun x y st => K (n, ls, vL (x + y) :: st, σ)) st
  | .land => m_l2 (fun x y st => K (n, ls, vL (x &&& y) :: st, σ)) st
  | .lor => m_l2 (fun x y st => K (n, ls, vL (x ||| y) :: st, σ)) st
  | .ldiv => m_l2 (fun x y st => ¬ y = 0 ∧ K (n, ls, vL (x / y) :: st, σ)) st
  | .lrem => m_l2 (fun x y st => ¬ y = 0 ∧ K (n, ls, vL (x - x / y * y) :: st, σ)) st
  | .lcmp => m_l2 (fun x y st => K (n, ls, vI (lg_cmp x y) :: st, σ)) st
  | .lshl => m_li (fun x y st => K (n, ls, vL (x <<< (y.toInt64 &&& 63)) :: st, σ)) st
  | .lshr => m_li (fun x y st => K (n, ls, vL (x >>> (y.toInt64 &&& 63)) :: st, σ)) st
  | .lushr => m_li (fun x y st => K (n, ls, vL (x.toUInt64 >>> (y.toInt64.toUInt64 &&& Int64.toUInt64 63)).toInt64 :: st, σ)) st
  | .dup => (match st with | v :: st => cond (Nat.beq (m_cat v) 1) (K (n, ls, v :: v :: st, σ)) False | _ => False)
  | .dup2 => (match st with | v :: w :: st => cond (Nat.beq (m_cat v) 1 && Nat.beq (m_cat w) 1) (K (n, ls, v :: w :: v :: w :: st, σ)) False | _ => False)
  | .pop => (match st with | v :: st => cond (Nat.beq (m_cat v) 1) (K (n, ls, st, σ)) False | _ => False)
  | .goto _ => K (b, ls, st, σ)
  | .ifCond c _ => m_i1 (fun x st => m_br c x 0 (K (b, ls, st, σ)) (K (n, ls, st, σ))) st
  | .if_icmp c _ => m_i2 (fun x y st => m_br c x y (K (b, ls, st, σ)) (K (n, ls, st, σ))) st
  | .ifnull _ => m_rn (fun r st => match r with | none => K (b, ls, st, σ) | some (c, _) => cond (Nat.beq c 20) False (K (n, ls, st, σ))) st
  | .ifnonnull _ => m_rn (fun r st => match r with | none => K (n, ls, st, σ) | some (c, _) => cond (Nat.beq c 20) False (K (b, ls, st, σ))) st
  | .tableswitch d lo hi os => m_i1 (fun x st => m_sw pc x.toInt (fun t => K (t, ls, st, σ)) lo os.toList ∧ ((x.toInt < lo ∨ hi < x.toInt) → K (Int.toNat ((pc : Int) + d), ls, st, σ))) st
  | .getfield _ => m_r1 (fun c v st => cond (Nat.beq c a) (K (n, ls, m_fv σ a b v :: st, σ)) False) st
  | .putfield _ => (match st with
    | .inl x :: .inr (.inr (some (c, v))) :: st => cond (Nat.beq c a && Nat.blt c 7) (match m_fr a b v with
      | some _ => False
      | none => cond (m_fb a b) ((x = 0 ∨ x = 1) ∧ K (n, ls, st, m_up σ a v b x)) (K (n, ls, st, m_up σ a v b x))) False
    | _ => False)
  | .getstatic _ => cond (Nat.beq a 0) (K (n, ls, vI (Int32.ofNat b) :: st, σ)) (K (n, ls, vR a b :: st, σ))
  | .arraylength => m_r1 (fun c v st => cond (Nat.ble 10 c && Nat.blt c 20 && !Nat.beq c 17) (K (n, ls, vI (Int32.ofNat (m_len E c v)) :: st, σ)) False) st
  | .iaload => m_ri (fun c v i st => vp_in i (m_len E c v) ∧ (match m_ia E σ c v i.toNatClampNeg with | some x => K (n, ls, vI x :: st, σ) | none => False)) st
  | .baload => m_ri (fun c v i st => vp_in i (m_len E c v) ∧ (match m_ba σ c v i.toNatClampNeg with | some x => K (n, ls, vI x :: st, σ) | none => False)) st
  | .laload => m_ri (fun c v i st => vp_in i 161 ∧ cond (Nat.beq c 14) (K (n, ls, vL (σ.2 i.toNatClampNeg) :: st, σ)) False) st
  | .aaload => m_ri (fun c v i st => vp_in i (m_len E c v) ∧ cond (Nat.beq c 10) (K (n, ls, vR 3 i.toNatClampNeg :: st, σ)) (cond (Nat.beq c 11) (K (n, ls, vR 5 (2 + i.toNatClampNeg) :: st, σ)) False)) st
  | .iastore => m_rii (fun c v i x st => vp_in i (m_len E c v) ∧ cond (Nat.beq c 12 || Nat.beq c 13) (K (n, ls, st, m_up σ c v i.toNatClampNeg x)) False) st
  | .bastore => m_rii (fun c v i x st => vp_in i 2 ∧ (x = 0 ∨ x = 1) ∧ cond (Nat.beq c 15) (K (n, ls, st, m_up σ c v i.toNatClampNeg x)) False) st
  | .lastore => m_ril (fun c v i x st => vp_in i 161 ∧ cond (Nat.beq c 14) (K (n, ls, st, m_upL σ i.toNatClampNeg x)) False) st
  | .invokevirtual _ => (match m_pop b [] st with
    | some (as, .inr (.inr (some (c, v))) :: st) => cond (Nat.ble (m_catS st) 8 && Nat.beq c (oc a) && Nat.ble (m_catS as + 1) (mx a)) (Cl a (vR c v :: as) fun rs τ => (n, ls, rs ++ st, τ)) False
    | _ => False)
  | .invokestatic _ => cond (Nat.beq b 98) (m_i2 (fun x y st => cond (Nat.ble (m_catS st) 8) (K (n, ls, vI (if x < y then y else x) :: st, σ)) False) st) (cond (Nat.beq b 99) (m_i2 (fun x y st => cond (Nat.ble (m_catS st) 8) (K (n, ls, vI (if y < x then y else x) :: st, σ)) False) st) (match m_pop b [] st with
    | some (as, st) => cond (Nat.ble (m_catS st) 8 && Nat.ble (m_catS as) (mx a)) (Cl a as fun rs τ => (n, ls, rs ++ st, τ)) False
    | _ => False))
  | .ireturn => (match st with | [.inl x] => m_rok rt x (Q (0, [], [vI x], σ)) | _ => False)
  | .lreturn => (match st with | [.inr (.inl x)] => cond (m_rtL rt) (Q (0, [], [vL x], σ)) False | _ => False)
  | .areturn => (match st with | [.inr (.inr r)] => cond (m_rtA rt) (Q (0, [], [.inr (.inr r)], σ)) False | _ => False)
  | .return_ => (match st with | [] => cond (m_rtV rt) (Q (0, [], [], σ)) False | _ => False)
  | _ => False
abbrev m_P : Type := Nat → Nat → Nat → m_F → (m_F → Prop) → Prop
def m_wq (E : m_E) (P : m_P) (stop r y : Nat) (fr : m_F) (Q : m_F → Prop) : Prop := match fr with
  | (pc, ls, st, σ) => cond (Nat.beq pc stop) (cond (Nat.beq stop 65535) False (Q (pc, ls, st, σ))) (match m_fetch y pc with
    | none => False
    | some e => m_sem m_oc m_max E (m_rt y) (fun f => P stop r y f Q) (fun y' as k => match r with
      | 0 => False
      | r' + 1 => P 65535 r' y' (0, m_entry y' as, [], σ) (fun f => match f with | (_, _, rs, τ) => P stop (r' + 1) y (k rs τ) Q)) Q e pc ls st σ)
def m_mask : List Bool → m_L → m_L
  | true :: ms, a :: l => a :: m_mask ms l
  | false :: ms, _ :: l => none :: m_mask ms l
  | [], l => l
  | _, [] => []
def m_mono (P : m_P) : Prop := ∀ (stop r y : Nat) (fr : m_F) (Q Q' : m_F → Prop), (∀ f, Q f → Q' f) → P stop r y fr Q → P stop r y fr Q'
def m_closed (E : m_E) (P : m_P) : Prop := ∀ (stop r y : Nat) (fr : m_F) (Q : m_F → Prop), m_wq E P stop r y fr Q → P stop r y fr Q
def m_forget (P : m_P) : Prop := ∀ (mask : List Bool) (stop r y pc : Nat) (ls : m_L) (st : List m_V) (σ : m_M) (Q : m_F → Prop), P stop r y (pc, m_mask mask ls, st, σ) Q → P stop r y (pc, ls, st, σ) Q
def m_T (E : m_E) : m_P := fun stop r y fr Q => ∀ P : m_P, m_mono P → m_closed E P → m_forget P → P stop r y fr Q
theorem m_i1_mono {f g : Int32 → List m_V → Prop} {st : List m_V} (h : ∀ x t, f x t → g x t) : m_i1 f st → m_i1 g st := by
  unfold m_i1; split
  · exact h _ _
  · exact id
theorem m_i2_mono {f g : Int32 → Int32 → List m_V → Prop} {st : List m_V} (h : ∀ x y t, f x y t → g x y t) : m_i2 f st → m_i2 g st := by
  unfold m_i2; split
  · exact h _ _ _
  · exact id
theorem m_l1_mono {f g : Int64 → List m_V → Prop} {st : List m_V} (h : ∀ x t, f x t → g x t) : m_l1 f st → m_l1 g st := by
  unfold m_l1; split
  · exact h _ _
  · exact id
theorem m_l2_mono {f g : Int64 → Int64 → List m_V → Prop} {st : List m_V} (h : ∀ x y t, f x y t → g x y t) : m_l2 f st → m_l2 g st := by
  unfold m_l2; split
  · exact h _ _ _
  · exact id
theorem m_li_mono {f g : Int64 → Int32 → List m_V → Prop} {st : List m_V} (h : ∀ x y t, f x y t → g x y t) : m_li f st → m_li g st := by
  unfold m_li; split
  · exact h _ _ _
  · exact id
theorem m_r1_mono {f g : Nat → Nat → List m_V → Prop} {st : List m_V} (h : ∀ x y t, f x y t → g x y t) : m_r1 f st → m_r1 g st := by
  unfold m_r1; split
  · exact h _ _ _
  · exact id
theorem m_ri_mono {f g : Nat → Nat → Int32 → List m_V → Prop} {st : List m_V} (h : ∀ x y z t, f x y z t → g x y z t) : m_ri f st → m_ri g st := by
  unfold m_ri; split
  · exact h _ _ _ _
  · exact id
theorem m_rii_mono {f g : Nat → Nat → Int32 → Int32 → List m_V → Prop} {st : List m_V} (h : ∀ x y z w t, f x y z w t → g x y z w t) : m_rii f st → m_rii g st := by
  unfold m_rii; split
  · exact h _ _ _ _ _
  · exact id
theorem m_ril_mono {f g : Nat → Nat → Int32 → Int64 → List m_V → Prop} {st : List m_V} (h : ∀ x y z w t, f x y z w t → g x y z w t) : m_ril f st → m_ril g st := by
  unfold m_ril; split
  · exact h _ _ _ _ _
  · exact id
theorem m_rn_mono {f g : Option (Nat × Nat) → List m_V → Prop} {st : List m_V} (h : ∀ x t, f x t → g x t) : m_rn f st → m_rn g st := by
  unfold m_rn; split
  · exact h _ _
  · exact id
theorem m_ldI_mono {f g : Int32 → Prop} {ls : m_L} {i : Nat} (h : ∀ x, f x → g x) : m_ldI ls i f → m_ldI ls i g := by
  unfold m_ldI; split
  · exact h _
  · exact id
theorem m_ldL_mono {f g : Int64 → Prop} {ls : m_L} {i : Nat} (h : ∀ x, f x → g x) : m_ldL ls i f → m_ldL ls i g := by
  unfold m_ldL; split
  · exact h _
  · exact id
theorem m_ldR_mono {f g : Option (Nat × Nat) → Prop} {ls : m_L} {i : Nat} (h : ∀ x, f x → g x) : m_ldR ls i f → m_ldR ls i g := by
  unfold m_ldR; split
  · exact h _
  · exact id
theorem m_br_mono {c : ClassFile.Cond} {x y : Int32} {A B A' B' : Prop} (h1 : A → A') (h2 : B → B') : m_br c x y A B → m_br c x y A' B' := by
  cases c <;> exact fun h => ⟨fun q => h1 (h.1 q), fun q => h2 (h.2 q)⟩
theorem m_sw_mono {pc : Nat} {x : Int} {K K' : Nat → Prop} (h : ∀ t, K t → K' t) : ∀ (os : List Int) (lo : Int), m_sw pc x K lo os → m_sw pc x K' lo os
  | [], _ => fun _ => trivial
  | _ :: os, lo => fun q => ⟨fun e => h _ (q.1 e), m_sw_mono h os (lo + 1) q.2⟩
theorem m_cond_mono {b : Bool} {A A' B B' : Prop} (h1 : A → A') (h2 : B → B') : cond b A B → cond b A' B' := by
  cases b
  · exact h2
  · exact h1
theorem m_rok_mono {rt : Option FieldType} {x : Int32} {B B' : Prop} (h : B → B') : m_rok rt x B → m_rok rt x B' := by
  unfold m_rok; split
  · exact h
  · exact fun q => ⟨q.1, h q.2⟩
  · exact fun q => ⟨q.1, h q.2⟩
  · exact id
set_option maxHeartbeats 4000000 in
theorem m_sem_mono {oc mx : Nat → Nat} {E : m_E} {rt : Option FieldType} {K K' : m_F → Prop} {Cl Cl' : Nat → List m_V → (List m_V → m_M → m_F) → Prop} {Q Q' : m_F → Prop} (hK : ∀ f, K f → K' f) (hC : ∀ y as k, Cl y as k → Cl' y as k) (hQ : ∀ f, Q f → Q' f) {e : m_I} {pc : Nat} {ls : m_L} {st : List m_V} {σ : m_M} : m_sem oc mx E rt K Cl Q e pc ls st σ → m_sem oc mx E rt K' Cl' Q' e pc ls st σ := by
  obtain ⟨i, n, a, b⟩ := e
  cases i <;> simp only [m_sem] <;> first
    | exact hK _
    | exact id
    | exact m_cond_mono (hK _) (hK _)
    | exact m_ldI_mono fun _ => hK _
    | exact m_ldL_mono fun _ => hK _
    | exact m_ldR_mono fun _ => hK _
    | exact m_i1_mono fun _ _ => hK _
    | exact m_l1_mono fun _ _ => hK _
    | exact m_rn_mono fun _ _ => hK _
    | exact m_i2_mono fun _ _ _ => hK _
    | exact m_l2_mono fun _ _ _ => hK _
    | exact m_li_mono fun _ _ _ => hK _
    | exact m_i2_mono fun _ _ _ h => ⟨h.1, hK _ h.2⟩
    | exact m_l2_mono fun _ _ _ h => ⟨h.1, hK _ h.2⟩
    | exact m_i1_mono fun _ _ => m_br_mono (hK _) (hK _)
    | exact m_i2_mono fun _ _ _ => m_br_mono (hK _) (hK _)
    | exact m_i1_mono fun _ _ h => ⟨m_sw_mono (fun _ => hK _) _ _ h.1, fun q => hK _ (h.2 q)⟩
    | exact m_r1_mono fun _ _ _ => m_cond_mono (hK _) id
    | exact m_rii_mono fun _ _ _ _ _ h => ⟨h.1, m_cond_mono (hK _) id h.2⟩
    | exact m_rii_mono fun _ _ _ _ _ h => ⟨h.1, h.2.1, m_cond_mono (hK _) id h.2.2⟩
    | exact m_ril_mono fun _ _ _ _ _ h => ⟨h.1, m_cond_mono (hK _) id h.2⟩
    | exact m_ri_mono fun _ _ _ _ h => ⟨h.1, m_cond_mono (hK _) id h.2⟩
    | exact m_ri_mono fun _ _ _ _ h => ⟨h.1, m_cond_mono (hK _) (m_cond_mono (hK _) id) h.2⟩
    | (refine m_ri_mono fun _ _ _ _ h => ⟨h.1, ?_⟩; have h2 := h.2; revert h2; split <;> first | exact hK _ | exact id)
    | (refine m_rn_mono fun r _ => ?_; cases r <;> first | exact hK _ | exact m_cond_mono id (hK _))
    | (refine m_cond_mono (m_i2_mono fun _ _ _ => m_cond_mono (hK _) id) (m_cond_mono (m_i2_mono fun _ _ _ => m_cond_mono (hK _) id) ?_); split <;> first | exact id | exact m_cond_mono (hC _ _ _) id)
    | (split <;> first | exact id | exact m_cond_mono (hK _) id | exact m_cond_mono (hC _ _ _) id | exact m_rok_mono (hQ _) | exact m_cond_mono (hQ _) id | exact hQ _ | (refine m_cond_mono ?_ id; split <;> first | exact id | exact m_cond_mono (fun h => ⟨h.1, hK _ h.2⟩) (hK _)))
theorem m_wq_mono {E : m_E} {P P' : m_P} (h : ∀ stop r y fr Q, P stop r y fr Q → P' stop r y fr Q) (hm : m_mono P') {stop r y : Nat} {fr : m_F} {Q : m_F → Prop} : m_wq E P stop r y fr Q → m_wq E P' stop r y fr Q := by
  obtain ⟨pc, ls, st, σ⟩ := fr
  unfold m_wq
  dsimp only
  refine m_cond_mono id ?_
  split
  · exact id
  · refine m_sem_mono (fun _ => h _ _ _ _ _) (fun y' as k => ?_) (fun _ q => q)
    split
    · exact id
    · exact fun q => hm _ _ _ _ _ _ (fun f z => h _ _ _ _ _ z) (h _ _ _ _ _ q)
theorem m_T_mono (E : m_E) : m_mono (m_T E) := fun _ _ _ _ _ _ hQ h P hm hc hf => hm _ _ _ _ _ _ hQ (h P hm hc hf)
theorem m_T_go {E : m_E} {stop r y : Nat} {fr : m_F} {Q : m_F → Prop} (h : m_wq E (m_T E) stop r y fr Q) : m_T E stop r y fr Q := fun P hm hc hf =>
  hc _ _ _ _ _ (m_wq_mono (fun _ _ _ _ _ q => q P hm hc hf) hm h)
theorem m_T_mask {E : m_E} (mask : List Bool) {stop r y pc : Nat} {ls : m_L} {st : List m_V} {σ : m_M} {Q : m_F → Prop} (h : m_T E stop r y (pc, m_mask mask ls, st, σ) Q) : m_T E stop r y (pc, ls, st, σ) Q := fun P hm hc hf => hf mask _ _ _ _ _ _ _ _ (h P hm hc hf)
/-- many steps at once, through calls and returns, up to the places S -/
def m_un (E : m_E) (S : Nat → Nat → Bool) : Nat → m_P
  | 0 => m_T E
  | n + 1 => fun stop r y fr Q => match fr with
    | (pc, ls, st, σ) => cond (S y pc) (m_T E stop r y (pc, ls, st, σ) Q) (m_wq E (m_un E S n) stop r y (pc, ls, st, σ) Q)
theorem m_un_T {E : m_E} {S : Nat → Nat → Bool} : ∀ (n stop r y : Nat) (fr : m_F) (Q : m_F → Prop), m_un E S n stop r y fr Q → m_T E stop r y fr Q
  | 0, _, _, _, _, _ => id
  | n + 1, stop, r, y, (pc, ls, st, σ), Q => fun h => by
    unfold m_un at h
    revert h
    dsimp only
    cases S y pc
    · exact fun h => m_T_go (m_wq_mono (fun _ _ _ _ _ q => m_un_T n _ _ _ _ _ q) (m_T_mono E) h)
    · exact id
theorem m_T_un (n : Nat) (S : Nat → Nat → Bool) {E : m_E} {stop r y : Nat} {fr : m_F} {Q : m_F → Prop} (h : m_wq E (m_un E S n) stop r y fr Q) : m_T E stop r y fr Q := m_T_go (m_wq_mono (fun _ _ _ _ _ q => m_un_T n _ _ _ _ _ q) (m_T_mono E) h)
