/-! a small machine over a fixed shape of cells: what the byte code does there, as a condition for an end. Its soundness against W stands in 05. -/
/-- the k-th of a list, else d -/
def m_nth {α : Type} : List α → Nat → α → α
  | [], _, d => d
  | a :: _, 0, _ => a
  | _ :: l, n + 1, d => m_nth l n d
def m_put {α : Type} : List α → Nat → α → List α
  | [], _, _ => []
  | _ :: l, 0, v => v :: l
  | a :: l, n + 1, v => a :: m_put l n v
abbrev m_V : Type := Int32 ⊕ (Int64 ⊕ Option (Nat × Nat))
abbrev vI (x : Int32) : m_V := .inl x
abbrev vL (x : Int64) : m_V := .inr (.inl x)
abbrev vR (c v : Nat) : m_V := .inr (.inr (some (c, v)))
abbrev vN : m_V := .inr (.inr none)
abbrev m_M : Type := (Nat → Nat → Nat → Int32) × (Nat → Int64)
abbrev m_L : Type := List (Option m_V)
abbrev m_F : Type := Nat × m_L × List m_V × m_M
abbrev m_I : Type := Instr × Nat × Nat × Nat
abbrev m_E : Type := Nat × (Nat → Int32)
/-- a method: its instructions by place, bytes, name, locals, answer, class, how many parameters, whether static, the place of its code's word -/
abbrev m_R : Type := List (List (Option m_I)) × ByteArray × MethodName × Nat × Option FieldType × Nat × Nat × Bool × Nat
def m_cat : m_V → Nat
  | .inr (.inl _) => 2
  | _ => 1
def m_catS : List m_V → Nat
  | [] => 0
  | v :: l => m_cat v + m_catS l
def m_isL : Option m_V → Bool
  | some (.inr (.inl _)) => true
  | _ => false
/-- before a store at i: a long that stood at i - 1 is gone -/
def m_clr : m_L → Nat → m_L
  | [], _ => []
  | a :: l, 0 => a :: l
  | a :: l, 1 => (cond (m_isL a) none a) :: l
  | a :: l, n + 2 => a :: m_clr l (n + 1)
def m_st (ls : m_L) (i : Nat) (v : m_V) : m_L := m_put (m_clr ls i) i (some v)
def m_stL (ls : m_L) (i : Nat) (x : Int64) : m_L := m_put (m_put (m_clr ls i) i (some (vL x))) (i + 1) none
def m_args : List m_V → m_L
  | [] => []
  | .inr (.inl x) :: l => some (vL x) :: none :: m_args l
  | v :: l => some v :: m_args l
def m_pad : Nat → m_L → m_L
  | 0, l => l
  | n + 1, [] => none :: m_pad n []
  | n + 1, a :: l => a :: m_pad n l
def m_pop : Nat → List m_V → List m_V → Option (List m_V × List m_V)
  | 0, acc, st => some (acc, st)
  | n + 1, acc, v :: st => m_pop n (v :: acc) st
  | _ + 1, _, [] => none
def m_up (σ : m_M) (c v j : Nat) (x : Int32) : m_M := (fun c' v' j' => if c' = c ∧ v' = v ∧ j' = j then x else σ.1 c' v' j', σ.2)
def m_upL (σ : m_M) (j : Nat) (x : Int64) : m_M := (σ.1, fun j' => if j' = j then x else σ.2 j')
/-- the references that objects hold: they never change -/
def m_ft : List (List (Nat → Option (Nat × Nat))) := [
  [fun _ => some (10, 0), fun _ => some (4, 0), fun _ => some (5, 0), fun _ => some (5, 1), fun _ => some (11, 0), fun _ => some (1, 0), fun _ => some (2, 30)],
  [fun _ => some (5, 0), fun _ => some (2, 29)],
  [fun v => some (12, v)],
  [fun v => some (2, 20 + v)],
  [fun _ => some (2, 28)],
  [fun _ => none, fun _ => none, fun _ => none, fun _ => none, fun _ => none, fun _ => none, fun _ => none, fun _ => none, fun _ => none, fun _ => none, fun v => some (2, 5 * v), fun v => some (2, 5 * v + 1), fun v => some (2, 5 * v + 2), fun v => some (2, 5 * v + 3), fun v => some (2, 5 * v + 4)],
  [fun _ => none, fun _ => none, fun _ => some (13, 0), fun _ => some (13, 1), fun _ => some (13, 2), fun _ => some (13, 3), fun _ => some (13, 4), fun _ => none, fun _ => some (13, 5), fun _ => none, fun _ => none, fun _ => none, fun _ => none, fun _ => none, fun _ => none, fun _ => none, fun _ => none, fun _ => none, fun _ => some (14, 0), fun _ => some (15, 0), fun _ => some (13, 6), fun _ => some (13, 7)],
  [], [], [], [], [], [], [], [], [], [],
  [fun v => some (19, v)]]
def m_fr (c j v : Nat) : Option (Nat × Nat) := m_nth (m_nth m_ft c []) j (fun _ => none) v
/-- how many fields -/
def m_nf (c : Nat) : Nat := m_nth [9, 3, 1, 4, 6, 15, 23] c 0
/-- fields of type boolean -/
def m_fb (c j : Nat) : Bool := (Nat.beq c 3 && Nat.beq j 1) || (Nat.beq c 5 && Nat.beq j 0) || (Nat.beq c 6 && Nat.beq j 7)
def m_fv (σ : m_M) (c j v : Nat) : m_V := match m_fr c j v with
  | some r => .inr (.inr (some r))
  | none => vI (cond (Nat.beq c 17) 0 (σ.1 c v j))
def m_lenN (v : Nat) : Nat := cond (Nat.blt v 20) 60 (cond (Nat.blt v 28) 40 (cond (Nat.beq v 28) 500 (cond (Nat.beq v 29) 16 161)))
def m_str : List (List Int32) := [[116, 111, 119, 110], [108, 105, 115, 116], [114, 97, 110, 107], [107, 105, 110, 100], [112, 101, 114, 115, 111, 110], [112, 105, 108, 103, 114, 105, 109], [104, 105, 114, 101, 100], [99, 97, 108, 108, 101, 100], [98, 111, 114, 110], [115, 109, 117, 103, 103, 108, 101, 100]]
def m_ro : List (List Int32) := [[-1, 0, 1, 1, 0, 4], [5, 1, 2, 0, 4, 3], [0, 11, 12, 0, 13, 14], [0, 21, 0, 22, 23, 0]]
def m_sl : List Nat := [4, 4, 4, 4, 6, 7, 5, 6, 4, 8]
def m_len (E : m_E) (c v : Nat) : Nat := m_nth [fun _ => 8, fun _ => 2, m_lenN, fun v => m_nth [8, 8, 320, 309, 309, 500, 618, 16] v 0, fun _ => 161, fun _ => 2, fun _ => 6, fun _ => 0, fun _ => E.1, fun v => m_nth m_sl v 0] (c - 10) (fun _ => 0) v
/-- ints of a row -/
def m_ia (E : m_E) (σ : m_M) (c v k : Nat) : Option Int32 :=
  cond (Nat.beq c 12 || Nat.beq c 13) (some (σ.1 c v k)) (cond (Nat.beq c 16) (some (m_nth (m_nth m_ro v []) k 0)) (cond (Nat.beq c 18) (some (E.2 k)) none))
/-- bytes and booleans of a row -/
def m_ba (σ : m_M) (c v k : Nat) : Option Int32 :=
  cond (Nat.beq c 15) (some (σ.1 c v k)) (cond (Nat.beq c 19) (some (m_nth (m_nth m_str v []) k 0)) none)
def m_kI : List Int32 := [-1000000, -1000001, -1000002, -1000003, -1000010, -1000100]
def m_kL : List Int64 := [7, 2, 8, 255, 1953462126, 1818850164, 1918987883, 1802071652, 123581014175598, 31641111704529261, 448445703524, 1651470958, 109270082020708, 8317433173800412516, 20, 13, 99, 999, 100, 1000, 5, 4294967295]
/-- one, two from the stack -/
def m_i1 (f : Int32 → List m_V → Prop) : List m_V → Prop
  | .inl x :: st => f x st
  | _ => False
def m_i2 (f : Int32 → Int32 → List m_V → Prop) : List m_V → Prop
  | .inl y :: .inl x :: st => f x y st
  | _ => False
def m_l1 (f : Int64 → List m_V → Prop) : List m_V → Prop
  | .inr (.inl x) :: st => f x st
  | _ => False
def m_l2 (f : Int64 → Int64 → List m_V → Prop) : List m_V → Prop
  | .inr (.inl y) :: .inr (.inl x) :: st => f x y st
  | _ => False
def m_li (f : Int64 → Int32 → List m_V → Prop) : List m_V → Prop
  | .inl y :: .inr (.inl x) :: st => f x y st
  | _ => False
def m_r1 (f : Nat → Nat → List m_V → Prop) : List m_V → Prop
  | .inr (.inr (some (c, v))) :: st => f c v st
  | _ => False
def m_ri (f : Nat → Nat → Int32 → List m_V → Prop) : List m_V → Prop
  | .inl i :: .inr (.inr (some (c, v))) :: st => f c v i st
  | _ => False
def m_rii (f : Nat → Nat → Int32 → Int32 → List m_V → Prop) : List m_V → Prop
  | .inl x :: .inl i :: .inr (.inr (some (c, v))) :: st => f c v i x st
  | _ => False
def m_ril (f : Nat → Nat → Int32 → Int64 → List m_V → Prop) : List m_V → Prop
  | .inr (.inl x) :: .inl i :: .inr (.inr (some (c, v))) :: st => f c v i x st
  | _ => False
def m_rn (f : Option (Nat × Nat) → List m_V → Prop) : List m_V → Prop
  | .inr (.inr r) :: st => f r st
  | _ => False
def m_ldI (ls : m_L) (i : Nat) (f : Int32 → Prop) : Prop := match m_nth ls i none with
  | some (.inl x) => f x
  | _ => False
def m_ldL (ls : m_L) (i : Nat) (f : Int64 → Prop) : Prop := match m_nth ls i none with
  | some (.inr (.inl x)) => f x
  | _ => False
def m_ldR (ls : m_L) (i : Nat) (f : Option (Nat × Nat) → Prop) : Prop := match m_nth ls i none with
  | some (.inr (.inr r)) => f r
  | _ => False
def m_br (cnd : ClassFile.Cond) (x y : Int32) (A B : Prop) : Prop := match cnd with
  | .eq => (x = y → A) ∧ (¬ x = y → B)
  | .ne => (¬ x = y → A) ∧ (x = y → B)
  | .lt => (x < y → A) ∧ (¬ x < y → B)
  | .ge => (y ≤ x → A) ∧ (¬ y ≤ x → B)
  | .gt => (y < x → A) ∧ (¬ y < x → B)
  | .le => (x ≤ y → A) ∧ (¬ x ≤ y → B)
def m_sw (pc : Nat) (x : Int) (K : Nat → Prop) : Int → List Int → Prop
  | _, [] => True
  | lo, o :: os => (x = lo → K (Int.toNat ((pc : Int) + o))) ∧ m_sw pc x K (lo + 1) os
/-- what an answer's type asks -/
def m_rok (rt : Option FieldType) (x : Int32) : Prop := match rt with
  | some .int => True
  | some .boolean => x = 0 ∨ x = 1
  | some t => narrow t (.int x) = .int x
  | none => False
def m_sem (oc : Nat → Nat) (E : m_E) (rt : Option FieldType) (K : m_F → Prop) (Cl : Nat → List m_V → (List m_V → m_M → m_F) → Prop) (Q : m_F → Prop) (e : m_I) (pc : Nat) (ls : m_L) (st : List m_V) (σ : m_M) : Prop :=
  match e with
  | (i, n, a, b) => match i with
  | .iconst k => K (n, ls, vI (Int32.ofInt k) :: st, σ)
  | .bipush k => K (n, ls, vI (Int8.ofInt k).toInt32 :: st, σ)
  | .sipush k => K (n, ls, vI (Int16.ofInt k).toInt32 :: st, σ)
  | .lconst k => K (n, ls, vL (Int64.ofNat k) :: st, σ)
  | .ldc _ => cond (Nat.beq a 0) (K (n, ls, vI (m_nth m_kI b 0) :: st, σ)) (K (n, ls, vR 17 b :: st, σ))
  | .ldc_w _ => K (n, ls, vI (m_nth m_kI b 0) :: st, σ)
  | .ldc2_w _ => K (n, ls, vL (m_nth m_kL b 0) :: st, σ)
  | .aconst_null => K (n, ls, vN :: st, σ)
  | .iload k => m_ldI ls k fun x => K (n, ls, vI x :: st, σ)
  | .iload_n k => m_ldI ls k fun x => K (n, ls, vI x :: st, σ)
  | .lload k => m_ldL ls k fun x => K (n, ls, vL x :: st, σ)
  | .lload_n k => m_ldL ls k fun x => K (n, ls, vL x :: st, σ)
  | .aload k => m_ldR ls k fun r => K (n, ls, .inr (.inr r) :: st, σ)
  | .aload_n k => m_ldR ls k fun r => K (n, ls, .inr (.inr r) :: st, σ)
  | .istore k => m_i1 (fun x st => K (n, m_st ls k (vI x), st, σ)) st
  | .istore_n k => m_i1 (fun x st => K (n, m_st ls k (vI x), st, σ)) st
  | .lstore k => m_l1 (fun x st => K (n, m_stL ls k x, st, σ)) st
  | .lstore_n k => m_l1 (fun x st => K (n, m_stL ls k x, st, σ)) st
  | .astore k => m_rn (fun r st => K (n, m_st ls k (.inr (.inr r)), st, σ)) st
  | .astore_n k => m_rn (fun r st => K (n, m_st ls k (.inr (.inr r)), st, σ)) st
  | .iinc k d => m_ldI ls k fun x => K (n, m_st ls k (vI (x + Int32.ofInt d)), st, σ)
  | .iadd => m_i2 (fun x y st => K (n, ls, vI (x + y) :: st, σ)) st
  | .isub => m_i2 (fun x y st => K (n, ls, vI (x - y) :: st, σ)) st
  | .imul => m_i2 (fun x y st => K (n, ls, vI (x * y) :: st, σ)) st
  | .idiv => m_i2 (fun x y st => ¬ y = 0 ∧ K (n, ls, vI (x / y) :: st, σ)) st
  | .irem => m_i2 (fun x y st => ¬ y = 0 ∧ K (n, ls, vI (x - x / y * y) :: st, σ)) st
  | .iand => m_i2 (fun x y st => K (n, ls, vI (x &&& y) :: st, σ)) st
  | .ior => m_i2 (fun x y st => K (n, ls, vI (x ||| y) :: st, σ)) st
  | .ishl => m_i2 (fun x y st => K (n, ls, vI (x <<< (y &&& 31)) :: st, σ)) st
  | .ishr => m_i2 (fun x y st => K (n, ls, vI (x >>> (y &&& 31)) :: st, σ)) st
  | .ineg => m_i1 (fun x st => K (n, ls, vI (-x) :: st, σ)) st
  | .i2l => m_i1 (fun x st => K (n, ls, vL x.toInt64 :: st, σ)) st
  | .i2b => m_i1 (fun x st => K (n, ls, vI x.toInt8.toInt32 :: st, σ)) st
  | .i2s => m_i1 (fun x st => K (n, ls, vI x.toInt16.toInt32 :: st, σ)) st
  | .i2c => m_i1 (fun x st => K (n, ls, vI (x.toUInt32 % 65536).toInt32 :: st, σ)) st
  | .l2i => m_l1 (fun x st => K (n, ls, vI x.toInt32 :: st, σ)) st
  | .ladd => m_l2 (fun x y st => K (n, ls, vL (x + y) :: st, σ)) st
  | .land => m_l2 (fun x y st => K (n, ls, vL (x &&& y) :: st, σ)) st
  | .lor => m_l2 (fun x y st => K (n, ls, vL (x ||| y) :: st, σ)) st
  | .ldiv => m_l2 (fun x y st => ¬ y = 0 ∧ K (n, ls, vL (x / y) :: st, σ)) st
  | .lrem => m_l2 (fun x y st => ¬ y = 0 ∧ K (n, ls, vL (x - x / y * y) :: st, σ)) st
  | .lcmp => m_l2 (fun x y st => K (n, ls, vI (lg_cmp x y) :: st, σ)) st
  | .lshl => m_li (fun x y st => K (n, ls, vL (x <<< (y.toInt64 &&& 63)) :: st, σ)) st
  | .lshr => m_li (fun x y st => K (n, ls, vL (x >>> (y.toInt64 &&& 63)) :: st, σ)) st
  | .lushr => m_li (fun x y st => K (n, ls, vL (x.toUInt64 >>> (y.toInt64.toUInt64 &&& Int64.toUInt64 63)).toInt64 :: st, σ)) st
  | .dup => (match st with | v :: st => cond (Nat.beq (m_cat v) 1) (K (n, ls, v :: v :: st, σ)) False | _ => False)
  | .dup2 => (match st with | v :: w :: st => cond (Nat.beq (m_cat v) 1 && Nat.beq (m_cat w) 1) (K (n, ls, v :: w :: v :: w :: st, σ)) False | _ => False)
  | .pop => (match st with | v :: st => cond (Nat.beq (m_cat v) 1) (K (n, ls, st, σ)) False | _ => False)
  | .goto _ => K (b, ls, st, σ)
  | .ifCond c _ => m_i1 (fun x st => m_br c x 0 (K (b, ls, st, σ)) (K (n, ls, st, σ))) st
  | .if_icmp c _ => m_i2 (fun x y st => m_br c x y (K (b, ls, st, σ)) (K (n, ls, st, σ))) st
  | .ifnull _ => m_rn (fun r st => match r with | none => K (b, ls, st, σ) | some _ => K (n, ls, st, σ)) st
  | .ifnonnull _ => m_rn (fun r st => match r with | none => K (n, ls, st, σ) | some _ => K (b, ls, st, σ)) st
  | .tableswitch d lo hi os => m_i1 (fun x st => m_sw pc x.toInt (fun t => K (t, ls, st, σ)) lo os.toList ∧ ((x.toInt < lo ∨ hi < x.toInt) → K (Int.toNat ((pc : Int) + d), ls, st, σ))) st
  | .getfield _ => m_r1 (fun c v st => cond (Nat.beq c a) (K (n, ls, m_fv σ a b v :: st, σ)) False) st
  | .putfield _ => (match st with
    | .inl x :: .inr (.inr (some (c, v))) :: st => cond (Nat.beq c a && Nat.blt c 7) (match m_fr a b v with
      | some _ => False
      | none => cond (m_fb a b) ((x = 0 ∨ x = 1) ∧ K (n, ls, st, m_up σ a v b x)) (K (n, ls, st, m_up σ a v b x))) False
    | _ => False)
  | .getstatic _ => cond (Nat.beq a 0) (K (n, ls, vI (Int32.ofNat b) :: st, σ)) (K (n, ls, vR a b :: st, σ))
  | .arraylength => m_r1 (fun c v st => cond (Nat.ble 10 c && Nat.blt c 20 && !Nat.beq c 17) (K (n, ls, vI (Int32.ofNat (m_len E c v)) :: st, σ)) False) st
  | .iaload => m_ri (fun c v i st => vp_in i (m_len E c v) ∧ (match m_ia E σ c v i.toNatClampNeg with | some x => K (n, ls, vI x :: st, σ) | none => False)) st
  | .baload => m_ri (fun c v i st => vp_in i (m_len E c v) ∧ (match m_ba σ c v i.toNatClampNeg with | some x => K (n, ls, vI x :: st, σ) | none => False)) st
  | .laload => m_ri (fun c v i st => vp_in i 161 ∧ cond (Nat.beq c 14) (K (n, ls, vL (σ.2 i.toNatClampNeg) :: st, σ)) False) st
  | .aaload => m_ri (fun c v i st => vp_in i (m_len E c v) ∧ cond (Nat.beq c 10) (K (n, ls, vR 3 i.toNatClampNeg :: st, σ)) (cond (Nat.beq c 11) (K (n, ls, vR 5 (2 + i.toNatClampNeg) :: st, σ)) False)) st
  | .iastore => m_rii (fun c v i x st => vp_in i (m_len E c v) ∧ cond (Nat.beq c 12 || Nat.beq c 13) (K (n, ls, st, m_up σ c v i.toNatClampNeg x)) False) st
  | .bastore => m_rii (fun c v i x st => vp_in i 2 ∧ (x = 0 ∨ x = 1) ∧ cond (Nat.beq c 15) (K (n, ls, st, m_up σ c v i.toNatClampNeg x)) False) st
  | .lastore => m_ril (fun c v i x st => vp_in i 161 ∧ cond (Nat.beq c 14) (K (n, ls, st, m_upL σ i.toNatClampNeg x)) False) st
  | .invokevirtual _ => (match m_pop b [] st with
    | some (as, .inr (.inr (some (c, v))) :: st) => cond (Nat.ble (m_catS st) 8 && Nat.beq c (oc a)) (Cl a (vR c v :: as) fun rs τ => (n, ls, rs ++ st, τ)) False
    | _ => False)
  | .invokestatic _ => (match m_pop b [] st with
    | some (as, st) => cond (Nat.ble (m_catS st) 8) (Cl a as fun rs τ => (n, ls, rs ++ st, τ)) False
    | _ => False)
  | .ireturn => (match st with | [.inl x] => m_rok rt x ∧ Q (0, [], [vI x], σ) | _ => False)
  | .lreturn => (match st with | [.inr (.inl x)] => Q (0, [], [vL x], σ) | _ => False)
  | .areturn => (match st with | [.inr (.inr r)] => Q (0, [], [.inr (.inr r)], σ) | _ => False)
  | .return_ => (match st with | [] => Q (0, [], [], σ) | _ => False)
  | _ => False
