/-! a small machine over a fixed shape of cells: what the byte code does there, as a condition for an end. Its soundness against W stands in 05. -/
/-- the k-th of a list, else d -/
def m_nth {α : Type} : List α → Nat → α → α
  | [], _, d => d
  | a :: _, 0, _ => a
  | _ :: l, n + 1, d => m_nth l n d
def m_put {α : Type} : List α → Nat → α → List α
  | [], _, _ => []
  | _ :: l, 0, v => v :: l
  | a :: l, n + 1, v => a :: m_put l n v
abbrev m_V : Type := Int32 ⊕ (Int64 ⊕ Option (Nat × Nat))
abbrev vI (x : Int32) : m_V := .inl x
abbrev vL (x : Int64) : m_V := .inr (.inl x)
abbrev vR (c v : Nat) : m_V := .inr (.inr (some (c, v)))
abbrev vN : m_V := .inr (.inr none)
abbrev m_M : Type := (Nat → Nat → Nat → Int32) × (Nat → Int64)
abbrev m_L : Type := List (Option m_V)
abbrev m_F : Type := Nat × m_L × List m_V × m_M
abbrev m_I : Type := Instr × Nat × Nat × Nat
abbrev m_E : Type := Nat × (Nat → Int32)
/-- a method: its instructions by place, bytes, name, locals, answer, class, how many parameters, whether static, the place of its code's word -/
abbrev m_R : Type := List (List (Option m_I)) × ByteArray × MethodName × Nat × Option FieldType × Nat × Nat × Bool × Nat
def m_cat : m_V → Nat
  | .inr (.inl _) => 2
  | _ => 1
def m_catS : List m_V → Nat
  | [] => 0
  | v :: l => m_cat v + m_catS l
def m_isL : Option m_V → Bool
  | some (.inr (.inl _)) => true
  | _ => false
/-- before a store at i: a long that stood at i - 1 is gone -/
def m_clr : m_L → Nat → m_L
  | [], _ => []
  | a :: l, 0 => a :: l
  | a :: l, 1 => (cond (m_isL a) none a) :: l
  | a :: l, n + 2 => a :: m_clr l (n + 1)
def m_st (ls : m_L) (i : Nat) (v : m_V) : m_L := m_put (m_clr ls i) i (some v)
def m_stL (ls : m_L) (i : Nat) (x : Int64) : m_L := m_put (m_put (m_clr ls i) i (some (vL x))) (i + 1) none
def m_args : List m_V → m_L
  | [] => []
  | .inr (.inl x) :: l => some (vL x) :: none :: m_args l
  | v :: l => some v :: m_args l
def m_pad : Nat → m_L → m_L
  | 0, l => l
  | n + 1, [] => none :: m_pad n []
  | n + 1, a :: l => a :: m_pad n l
def m_pop : Nat → List m_V → List m_V → Option (List m_V × List m_V)
  | 0, acc, st => some (acc, st)
  | n + 1, acc, v :: st => m_pop n (v :: acc) st
  | _ + 1, _, [] => none
def m_up (σ : m_M) (c v j : Nat) (x : Int32) : m_M := (fun c' v' j' => if c' = c ∧ v' = v ∧ j' = j then x else σ.1 c' v' j', σ.2)
def m_upL (σ : m_M) (j : Nat) (x : Int64) : m_M := (σ.1, fun j' => if j' = j then x else σ.2 j')
/-- the references that objects hold: they never change -/
def m_ft : List (List (Nat → Option (Nat × Nat))) := [
  [fun _ => some (10, 0), fun _ => some (4, 0), fun _ => some (5, 0), fun _ => some (5, 1), fun _ => some (11, 0), fun _ => some (1, 0), fun _ => some (2, 30)],
  [fun _ => some (2, 29)],
  [fun v => some (12, v)],
  [fun v => some (2, 20 + v)],
  [fun _ => some (2, 28)],
  [fun _ => none, fun _ => none, fun _ => none, fun _ => none, fun _ => none, fun _ => none, fun _ => none, fun _ => none, fun _ => none, fun _ => none, fun v => some (2, 5 * v), fun v => some (2, 5 * v + 1), fun v => some (2, 5 * v + 2), fun v => some (2, 5 * v + 3), fun v => some (2, 5 * v + 4)],
  [fun _ => none, fun _ => none, fun _ => some (13, 0), fun _ => some (13, 1), fun _ => some (13, 2), fun _ => some (13, 3), fun _ => some (13, 4), fun _ => none, fun _ => some (13, 5), fun _ => none, fun _ => none, fun _ => none, fun _ => none, fun _ => none, fun _ => none, fun _ => none, fun _ => none, fun _ => none, fun _ => some (14, 0), fun _ => some (15, 0), fun _ => some (13, 6), fun _ => some (13, 7)],
  [], [], [], [], [], [], [], [], [], [],
  [fun v => some (19, v)]]
def m_fr (c j v : Nat) : Option (Nat × Nat) := m_nth (m_nth m_ft c []) j (fun _ => none) v
/-- how many fields -/
def m_nf (c : Nat) : Nat := m_nth [9, 2, 1, 4, 6, 15, 23] c 0
/-- fields of type boolean -/
def m_fb (c j : Nat) : Bool := (Nat.beq c 3 && Nat.beq j 1) || (Nat.beq c 5 && Nat.beq j 0) || (Nat.beq c 6 && Nat.beq j 7)
def m_fv (σ : m_M) (c j v : Nat) : m_V := match m_fr c j v with
  | some r => .inr (.inr (some r))
  | none => vI (cond (Nat.beq c 17) 0 (σ.1 c v j))
def m_lenN (v : Nat) : Nat := cond (Nat.blt v 20) 60 (cond (Nat.blt v 28) 40 (cond (Nat.beq v 28) 500 (cond (Nat.beq v 29) 16 161)))
def m_str : List (List Int32) := [[116, 111, 119, 110], [108, 105, 115, 116], [114, 97, 110, 107], [107, 105, 110, 100], [112, 101, 114, 115, 111, 110], [112, 105, 108, 103, 114, 105, 109], [104, 105, 114, 101, 100], [99, 97, 108, 108, 101, 100], [98, 111, 114, 110], [115, 109, 117, 103, 103, 108, 101, 100]]
def m_ro : List (List Int32) := [[-1, 0, 1, 1, 0, 4], [5, 1, 2, 0, 4, 3], [0, 11, 12, 0, 13, 14], [0, 21, 0, 22, 23, 0]]
def m_sl : List Nat := [4, 4, 4, 4, 6, 7, 5, 6, 4, 8]
def m_len (E : m_E) (c v : Nat) : Nat := m_nth [fun _ => 8, fun _ => 2, m_lenN, fun v => m_nth [8, 8, 320, 309, 309, 500, 618, 16] v 0, fun _ => 161, fun _ => 2, fun _ => 6, fun _ => 0, fun _ => E.1, fun v => m_nth m_sl v 0] (c - 10) (fun _ => 0) v
/-- ints of a row -/
def m_ia (E : m_E) (σ : m_M) (c v k : Nat) : Option Int32 :=
  cond (Nat.beq c 12 || Nat.beq c 13) (some (σ.1 c v k)) (cond (Nat.beq c 16) (some (m_nth (m_nth m_ro v []) k 0)) (cond (Nat.beq c 18) (some (E.2 k)) none))
/-- bytes and booleans of a row -/
def m_ba (σ : m_M) (c v k : Nat) : Option Int32 :=
  cond (Nat.beq c 15) (some (σ.1 c v k)) (cond (Nat.beq c 19) (some (m_nth (m_nth m_str v []) k 0)) none)
def m_kI : List Int32 := [-1000000, -1000001, -1000002, -1000003, -1000010, -1000100]
def m_kL : List Int64 := [7, 2, 8, 255, 1953462126, 1818850164, 1918987883, 1802071652, 123581014175598, 31641111704529261, 448445703524, 1651470958, 109270082020708, 8317433173800412516, 20, 13, 99, 999, 100, 1000, 5, 4294967295]
