/-! the constructors, walked -/
def b_y0 : MethodName := ⟨"AsManyAsCame", "<init>", "()V"⟩
def b_y1 : MethodName := ⟨"AsManyAsCame$Asked", "<init>", "()V"⟩
def b_y2 : MethodName := ⟨"AsManyAsCame$Numbers", "<init>", "(I)V"⟩
def b_y3 : MethodName := ⟨"AsManyAsCame$Row", "<init>", "()V"⟩
def b_y4 : MethodName := ⟨"AsManyAsCame$Tape", "<init>", "()V"⟩
def b_y5 : MethodName := ⟨"AsManyAsCame$Town", "<init>", "()V"⟩
def b_y6 : MethodName := ⟨"AsManyAsCameModel", "<init>", "()V"⟩
theorem b_w2 : (Cond.initialized "AsManyAsCame$Tape") ∈ m_wall := m_in_of (p := 2) (by decide +kernel)
theorem b_w3 : (Cond.initialized "AsManyAsCame$Numbers") ∈ m_wall := m_in_of (p := 3) (by decide +kernel)
theorem b_w4 : (Cond.initialized "java/lang/Math") ∈ m_wall := m_in_of (p := 4) (by decide +kernel)
theorem b_w5 : (Cond.initialized "AsManyAsCame$Town") ∈ m_wall := m_in_of (p := 5) (by decide +kernel)
theorem b_w6 : (Cond.initialized "AsManyAsCame$Asked") ∈ m_wall := m_in_of (p := 6) (by decide +kernel)
theorem b_w7 : (Cond.initialized "AsManyAsCame$Row") ∈ m_wall := m_in_of (p := 7) (by decide +kernel)
theorem b_w18 : (Cond.methodLink "AsManyAsCame" (1 : Nat) Lib.objectInit) ∈ m_wall := m_in_of (p := 18) (by decide +kernel)
theorem b_w19 : (Cond.instanceMethod Lib.objectInit) ∈ m_wall := m_in_of (p := 19) (by decide +kernel)
theorem b_w20 : (Cond.code Lib.objectInit ⟨#[0xb1]⟩ 1 none) ∈ m_wall := m_in_of (p := 20) (by decide +kernel)
theorem b_w21 : (Cond.classLink "AsManyAsCame" (9 : Nat) "AsManyAsCame$Row") ∈ m_wall := m_in_of (p := 21) (by decide +kernel)
theorem b_w23 : (Cond.classLink "AsManyAsCame" (15 : Nat) "AsManyAsCame$Tape") ∈ m_wall := m_in_of (p := 23) (by decide +kernel)
theorem b_w24 : (Cond.instantiable "AsManyAsCame$Tape" (6 : Nat)) ∈ m_wall := m_in_of (p := 24) (by decide +kernel)
theorem b_w26 : (Cond.instanceMethod b_y4) ∈ m_wall := m_in_of (p := 26) (by decide +kernel)
theorem b_w27 : (Cond.code b_y4 prog_5_method_1_code (1 : Nat) (Option.none : Option Jvm.ClassFile.FieldType)) ∈ m_wall := m_in_of (p := 27) (by decide +kernel)
theorem b_w28 : (Cond.methodLink "AsManyAsCame$Tape" (3 : Nat) Lib.objectInit) ∈ m_wall := m_in_of (p := 28) (by decide +kernel)
theorem b_w29 : (Cond.classLink "AsManyAsCame$Tape" (9 : Nat) "AsManyAsCame$Numbers") ∈ m_wall := m_in_of (p := 29) (by decide +kernel)
theorem b_w30 : (Cond.instantiable "AsManyAsCame$Numbers" (1 : Nat)) ∈ m_wall := m_in_of (p := 30) (by decide +kernel)
theorem b_w31 : (Cond.methodLink "AsManyAsCame$Tape" (11 : Nat) b_y2) ∈ m_wall := m_in_of (p := 31) (by decide +kernel)
theorem b_w32 : (Cond.instanceMethod b_y2) ∈ m_wall := m_in_of (p := 32) (by decide +kernel)
theorem b_w33 : (Cond.code b_y2 prog_3_method_1_code (2 : Nat) (Option.none : Option Jvm.ClassFile.FieldType)) ∈ m_wall := m_in_of (p := 33) (by decide +kernel)
theorem b_w34 : (Cond.methodLink "AsManyAsCame$Numbers" (1 : Nat) Lib.objectInit) ∈ m_wall := m_in_of (p := 34) (by decide +kernel)
theorem b_w35 : (Cond.methodLink "AsManyAsCame$Numbers" (7 : Nat) Lib.Math.max.name) ∈ m_wall := m_in_of (p := 35) (by decide +kernel)
theorem b_w36 : (Cond.static Lib.Math.max.name) ∈ m_wall := m_in_of (p := 36) (by decide +kernel)
theorem b_w37 : (Cond.code Lib.Math.max.name Lib.Math.max.code 2 (some .int)) ∈ m_wall := m_in_of (p := 37) (by decide +kernel)
theorem b_w38 : (Cond.fieldLink "AsManyAsCame$Numbers" (13 : Nat) "AsManyAsCame$Numbers" "cells" "[I") ∈ m_wall := m_in_of (p := 38) (by decide +kernel)
theorem b_w42 : (Cond.arrayClass FieldType.int) ∈ m_wall := m_in_of (p := 42) (by decide +kernel)
theorem b_w43 : (Cond.fieldLink "AsManyAsCame$Tape" (14 : Nat) "AsManyAsCame$Tape" "bytes" "LAsManyAsCame$Numbers;") ∈ m_wall := m_in_of (p := 43) (by decide +kernel)
theorem b_w44 : (Cond.fieldLink "AsManyAsCame$Tape" (20 : Nat) "AsManyAsCame$Tape" "length" "I") ∈ m_wall := m_in_of (p := 44) (by decide +kernel)
theorem b_w46 : (Cond.fieldLink "AsManyAsCame$Tape" (24 : Nat) "AsManyAsCame$Tape" "from" "I") ∈ m_wall := m_in_of (p := 46) (by decide +kernel)
theorem b_w48 : (Cond.fieldLink "AsManyAsCame$Tape" (27 : Nat) "AsManyAsCame$Tape" "end" "I") ∈ m_wall := m_in_of (p := 48) (by decide +kernel)
theorem b_w49 : (Cond.fieldLink "AsManyAsCame$Tape" (30 : Nat) "AsManyAsCame$Tape" "token" "I") ∈ m_wall := m_in_of (p := 49) (by decide +kernel)
theorem b_w50 : (Cond.fieldLink "AsManyAsCame$Tape" (33 : Nat) "AsManyAsCame$Tape" "fault" "I") ∈ m_wall := m_in_of (p := 50) (by decide +kernel)
theorem b_w65 : (Cond.classLink "AsManyAsCame" (22 : Nat) "AsManyAsCame$Town") ∈ m_wall := m_in_of (p := 65) (by decide +kernel)
theorem b_w66 : (Cond.instantiable "AsManyAsCame$Town" (15 : Nat)) ∈ m_wall := m_in_of (p := 66) (by decide +kernel)
theorem b_w68 : (Cond.instanceMethod b_y5) ∈ m_wall := m_in_of (p := 68) (by decide +kernel)
theorem b_w69 : (Cond.code b_y5 prog_6_method_1_code (1 : Nat) (Option.none : Option Jvm.ClassFile.FieldType)) ∈ m_wall := m_in_of (p := 69) (by decide +kernel)
theorem b_w70 : (Cond.methodLink "AsManyAsCame$Town" (3 : Nat) Lib.objectInit) ∈ m_wall := m_in_of (p := 70) (by decide +kernel)
theorem b_w71 : (Cond.classLink "AsManyAsCame$Town" (43 : Nat) "AsManyAsCame$Numbers") ∈ m_wall := m_in_of (p := 71) (by decide +kernel)
theorem b_w72 : (Cond.methodLink "AsManyAsCame$Town" (45 : Nat) b_y2) ∈ m_wall := m_in_of (p := 72) (by decide +kernel)
theorem b_w73 : (Cond.fieldLink "AsManyAsCame$Town" (9 : Nat) "AsManyAsCame$Town" "stands" "Z") ∈ m_wall := m_in_of (p := 73) (by decide +kernel)
theorem b_w76 : (Cond.fieldLink "AsManyAsCame$Town" (15 : Nat) "AsManyAsCame$Town" "law" "I") ∈ m_wall := m_in_of (p := 76) (by decide +kernel)
theorem b_w78 : (Cond.fieldLink "AsManyAsCame$Town" (19 : Nat) "AsManyAsCame$Town" "bread" "I") ∈ m_wall := m_in_of (p := 78) (by decide +kernel)
theorem b_w81 : (Cond.fieldLink "AsManyAsCame$Town" (22 : Nat) "AsManyAsCame$Town" "pay" "I") ∈ m_wall := m_in_of (p := 81) (by decide +kernel)
theorem b_w83 : (Cond.fieldLink "AsManyAsCame$Town" (25 : Nat) "AsManyAsCame$Town" "came" "I") ∈ m_wall := m_in_of (p := 83) (by decide +kernel)
theorem b_w86 : (Cond.fieldLink "AsManyAsCame$Town" (28 : Nat) "AsManyAsCame$Town" "days" "I") ∈ m_wall := m_in_of (p := 86) (by decide +kernel)
theorem b_w88 : (Cond.fieldLink "AsManyAsCame$Town" (31 : Nat) "AsManyAsCame$Town" "spent" "I") ∈ m_wall := m_in_of (p := 88) (by decide +kernel)
theorem b_w90 : (Cond.fieldLink "AsManyAsCame$Town" (34 : Nat) "AsManyAsCame$Town" "hungry" "I") ∈ m_wall := m_in_of (p := 90) (by decide +kernel)
theorem b_w92 : (Cond.fieldLink "AsManyAsCame$Town" (37 : Nat) "AsManyAsCame$Town" "numbers" "I") ∈ m_wall := m_in_of (p := 92) (by decide +kernel)
theorem b_w95 : (Cond.fieldLink "AsManyAsCame$Town" (40 : Nat) "AsManyAsCame$Town" "size" "I") ∈ m_wall := m_in_of (p := 95) (by decide +kernel)
theorem b_w97 : (Cond.fieldLink "AsManyAsCame$Town" (48 : Nat) "AsManyAsCame$Town" "kinds" "LAsManyAsCame$Numbers;") ∈ m_wall := m_in_of (p := 97) (by decide +kernel)
theorem b_w100 : (Cond.fieldLink "AsManyAsCame$Town" (52 : Nat) "AsManyAsCame$Town" "ranks" "LAsManyAsCame$Numbers;") ∈ m_wall := m_in_of (p := 100) (by decide +kernel)
theorem b_w103 : (Cond.fieldLink "AsManyAsCame$Town" (55 : Nat) "AsManyAsCame$Town" "hastes" "LAsManyAsCame$Numbers;") ∈ m_wall := m_in_of (p := 103) (by decide +kernel)
theorem b_w106 : (Cond.fieldLink "AsManyAsCame$Town" (58 : Nat) "AsManyAsCame$Town" "leftOn" "LAsManyAsCame$Numbers;") ∈ m_wall := m_in_of (p := 106) (by decide +kernel)
theorem b_w108 : (Cond.fieldLink "AsManyAsCame$Town" (61 : Nat) "AsManyAsCame$Town" "list" "LAsManyAsCame$Numbers;") ∈ m_wall := m_in_of (p := 108) (by decide +kernel)
theorem b_w141 : (Cond.classLink "AsManyAsCame" (36 : Nat) "AsManyAsCame$Asked") ∈ m_wall := m_in_of (p := 141) (by decide +kernel)
theorem b_w142 : (Cond.instantiable "AsManyAsCame$Asked" (2 : Nat)) ∈ m_wall := m_in_of (p := 142) (by decide +kernel)
theorem b_w144 : (Cond.instanceMethod b_y1) ∈ m_wall := m_in_of (p := 144) (by decide +kernel)
theorem b_w145 : (Cond.code b_y1 prog_2_method_1_code (1 : Nat) (Option.none : Option Jvm.ClassFile.FieldType)) ∈ m_wall := m_in_of (p := 145) (by decide +kernel)
theorem b_w146 : (Cond.methodLink "AsManyAsCame$Asked" (1 : Nat) Lib.objectInit) ∈ m_wall := m_in_of (p := 146) (by decide +kernel)
theorem b_w147 : (Cond.classLink "AsManyAsCame$Asked" (7 : Nat) "AsManyAsCame$Numbers") ∈ m_wall := m_in_of (p := 147) (by decide +kernel)
theorem b_w148 : (Cond.methodLink "AsManyAsCame$Asked" (11 : Nat) b_y2) ∈ m_wall := m_in_of (p := 148) (by decide +kernel)
theorem b_w149 : (Cond.fieldLink "AsManyAsCame$Asked" (14 : Nat) "AsManyAsCame$Asked" "bodies" "LAsManyAsCame$Numbers;") ∈ m_wall := m_in_of (p := 149) (by decide +kernel)
theorem b_w151 : (Cond.fieldLink "AsManyAsCame$Asked" (18 : Nat) "AsManyAsCame$Asked" "length" "I") ∈ m_wall := m_in_of (p := 151) (by decide +kernel)
theorem b_w158 : (Cond.classLink "AsManyAsCame" (43 : Nat) "AsManyAsCame$Numbers") ∈ m_wall := m_in_of (p := 158) (by decide +kernel)
theorem b_w159 : (Cond.methodLink "AsManyAsCame" (45 : Nat) b_y2) ∈ m_wall := m_in_of (p := 159) (by decide +kernel)
theorem b_w160 : (Cond.instantiable "AsManyAsCame$Row" (4 : Nat)) ∈ m_wall := m_in_of (p := 160) (by decide +kernel)
theorem b_w162 : (Cond.instanceMethod b_y3) ∈ m_wall := m_in_of (p := 162) (by decide +kernel)
theorem b_w163 : (Cond.code b_y3 prog_4_method_1_code (1 : Nat) (Option.none : Option Jvm.ClassFile.FieldType)) ∈ m_wall := m_in_of (p := 163) (by decide +kernel)
theorem b_w164 : (Cond.methodLink "AsManyAsCame$Row" (3 : Nat) Lib.objectInit) ∈ m_wall := m_in_of (p := 164) (by decide +kernel)
theorem b_w165 : (Cond.classLink "AsManyAsCame$Row" (9 : Nat) "AsManyAsCame$Numbers") ∈ m_wall := m_in_of (p := 165) (by decide +kernel)
theorem b_w166 : (Cond.methodLink "AsManyAsCame$Row" (11 : Nat) b_y2) ∈ m_wall := m_in_of (p := 166) (by decide +kernel)
theorem b_w167 : (Cond.fieldLink "AsManyAsCame$Row" (14 : Nat) "AsManyAsCame$Row" "items" "LAsManyAsCame$Numbers;") ∈ m_wall := m_in_of (p := 167) (by decide +kernel)
theorem b_w170 : (Cond.fieldLink "AsManyAsCame$Row" (20 : Nat) "AsManyAsCame$Row" "there" "Z") ∈ m_wall := m_in_of (p := 170) (by decide +kernel)
theorem b_w172 : (Cond.fieldLink "AsManyAsCame$Row" (24 : Nat) "AsManyAsCame$Row" "lane" "I") ∈ m_wall := m_in_of (p := 172) (by decide +kernel)
theorem b_w174 : (Cond.fieldLink "AsManyAsCame$Row" (28 : Nat) "AsManyAsCame$Row" "size" "I") ∈ m_wall := m_in_of (p := 174) (by decide +kernel)
theorem b_w185 : (Cond.fieldLink "AsManyAsCame" (11 : Nat) "AsManyAsCame" "rows" "[LAsManyAsCame$Row;") ∈ m_wall := m_in_of (p := 185) (by decide +kernel)
theorem b_w186 : (Cond.fieldLink "AsManyAsCame" (18 : Nat) "AsManyAsCame" "tape" "LAsManyAsCame$Tape;") ∈ m_wall := m_in_of (p := 186) (by decide +kernel)
theorem b_w187 : (Cond.fieldLink "AsManyAsCame" (25 : Nat) "AsManyAsCame" "town" "LAsManyAsCame$Town;") ∈ m_wall := m_in_of (p := 187) (by decide +kernel)
theorem b_w188 : (Cond.fieldLink "AsManyAsCame" (29 : Nat) "AsManyAsCame" "draft" "LAsManyAsCame$Town;") ∈ m_wall := m_in_of (p := 188) (by decide +kernel)
theorem b_w189 : (Cond.fieldLink "AsManyAsCame" (32 : Nat) "AsManyAsCame" "images" "[LAsManyAsCame$Town;") ∈ m_wall := m_in_of (p := 189) (by decide +kernel)
theorem b_w190 : (Cond.fieldLink "AsManyAsCame" (39 : Nat) "AsManyAsCame" "asked" "LAsManyAsCame$Asked;") ∈ m_wall := m_in_of (p := 190) (by decide +kernel)
theorem b_w191 : (Cond.fieldLink "AsManyAsCame" (48 : Nat) "AsManyAsCame" "ways" "LAsManyAsCame$Numbers;") ∈ m_wall := m_in_of (p := 191) (by decide +kernel)
theorem b_w192 : (Cond.fieldLink "AsManyAsCame" (52 : Nat) "AsManyAsCame" "latestFault" "I") ∈ m_wall := m_in_of (p := 192) (by decide +kernel)
theorem b_w193 : (Cond.fieldLink "AsManyAsCame" (56 : Nat) "AsManyAsCame" "latestFinding" "I") ∈ m_wall := m_in_of (p := 193) (by decide +kernel)
theorem b_w657 : (Cond.methodLink "AsManyAsCameModel" (1 : Nat) Lib.objectInit) ∈ m_wall := m_in_of (p := 657) (by decide +kernel)
theorem b_w660 : (Cond.fieldLink "AsManyAsCameModel" (7 : Nat) "AsManyAsCameModel" "lane" "[I") ∈ m_wall := m_in_of (p := 660) (by decide +kernel)
theorem b_w661 : (Cond.fieldLink "AsManyAsCameModel" (13 : Nat) "AsManyAsCameModel" "many" "[I") ∈ m_wall := m_in_of (p := 661) (by decide +kernel)
theorem b_w662 : (Cond.fieldLink "AsManyAsCameModel" (16 : Nat) "AsManyAsCameModel" "item" "[I") ∈ m_wall := m_in_of (p := 662) (by decide +kernel)
theorem b_w663 : (Cond.fieldLink "AsManyAsCameModel" (19 : Nat) "AsManyAsCameModel" "town" "[I") ∈ m_wall := m_in_of (p := 663) (by decide +kernel)
theorem b_w664 : (Cond.fieldLink "AsManyAsCameModel" (22 : Nat) "AsManyAsCameModel" "fresh" "[I") ∈ m_wall := m_in_of (p := 664) (by decide +kernel)
theorem b_w666 : (Cond.fieldLink "AsManyAsCameModel" (25 : Nat) "AsManyAsCameModel" "tape" "[I") ∈ m_wall := m_in_of (p := 666) (by decide +kernel)
theorem b_w676 : (Cond.fieldLink "AsManyAsCameModel" (28 : Nat) "AsManyAsCameModel" "ways" "[J") ∈ m_wall := m_in_of (p := 676) (by decide +kernel)
theorem b_w677 : (Cond.fieldLink "AsManyAsCameModel" (32 : Nat) "AsManyAsCameModel" "isKept" "[Z") ∈ m_wall := m_in_of (p := 677) (by decide +kernel)
theorem b_w678 : (Cond.fieldLink "AsManyAsCameModel" (36 : Nat) "AsManyAsCameModel" "kept" "[I") ∈ m_wall := m_in_of (p := 678) (by decide +kernel)
theorem b_w679 : (Cond.fieldLink "AsManyAsCameModel" (39 : Nat) "AsManyAsCameModel" "trace" "[I") ∈ m_wall := m_in_of (p := 679) (by decide +kernel)
theorem b_w728 : (Cond.arrayClass FieldType.long) ∈ m_wall := m_in_of (p := 728) (by decide +kernel)
theorem b_w729 : (Cond.arrayClass FieldType.boolean) ∈ m_wall := m_in_of (p := 729) (by decide +kernel)
theorem b_f0 : ∀ j, j < m_nf 0 → defaultValue (m_ty 0 j) = vp_V [.null, .null, .null, .null, .null, .null, .null, .int 0, .int 0] j := by decide +kernel
theorem b_f1 : ∀ j, j < m_nf 1 → defaultValue (m_ty 1 j) = vp_V [.null, .int 0] j := by decide +kernel
theorem b_f2 : ∀ j, j < m_nf 2 → defaultValue (m_ty 2 j) = vp_V [.null] j := by decide +kernel
theorem b_f3 : ∀ j, j < m_nf 3 → defaultValue (m_ty 3 j) = vp_V [.null, .int 0, .int 0, .int 0] j := by decide +kernel
theorem b_f4 : ∀ j, j < m_nf 4 → defaultValue (m_ty 4 j) = vp_V [.null, .int 0, .int 0, .int 0, .int 0, .int 0] j := by decide +kernel
theorem b_f5 : ∀ j, j < m_nf 5 → defaultValue (m_ty 5 j) = vp_V [.int 0, .int 0, .int 0, .int 0, .int 0, .int 0, .int 0, .int 0, .int 0, .int 0, .null, .null, .null, .null, .null] j := by decide +kernel
theorem b_f6 : ∀ j, j < m_nf 6 → defaultValue (m_ty 6 j) = vp_V [.int 0, .int 0, .null, .null, .null, .null, .null, .int 0, .null, .int 0, .int 0, .int 0, .int 0, .int 0, .int 0, .int 0, .int 0, .int 0, .null, .null, .null, .null, .int 0] j := by decide +kernel
theorem b_zI (cA : ClassId) {n : Nat} : vp_cell cA (n, .inl fun _ => 0) = arrV cA n (fun _ => defaultValue .int) := by rw [vp_cell_i]; rfl
theorem b_zB (cA : ClassId) {n : Nat} : vp_cell cA (n, .inl fun _ => 0) = arrV cA n (fun _ => defaultValue .boolean) := by rw [vp_cell_i]; rfl
theorem b_zL (cA : ClassId) {n : Nat} : vp_cell cA (n, .inr (.inl fun _ => 0)) = arrV cA n (fun _ => defaultValue .long) := by rw [vp_cell_l]; rfl
theorem b_in8 {i : Nat} (h : i < 8) : vp_in (nI i) 8 := vp_in_nI h (by decide)
theorem b_in2 {i : Nat} (h : i < 2) : vp_in (nI i) 2 := vp_in_nI h (by decide)
theorem b_self {h0 ci sz : Nat} {fs : List Value} : va_D (b_A h0 ci fs sz) [(h0, .inr (ci, fs))] := ⟨fun i j p q hi hj _ => by
  match i, j, hi, hj with
  | 0, 0, _, _ => rfl
  | 0, j + 1, _, hj => simp at hj
  | i + 1, _, hi, _ => simp at hi, fun k q h => va_A.in h⟩
def b_B (U : State) : Prop := va_Nw (.methodLinkNest "AsManyAsCame" 17 b_y4 "AsManyAsCame") U ∧ va_Nw (.methodLinkNest "AsManyAsCame" 24 b_y5 "AsManyAsCame") U ∧ va_Nw (.methodLinkNest "AsManyAsCame" 38 b_y1 "AsManyAsCame") U ∧ va_Nw (.methodLinkNest "AsManyAsCame" 59 b_y3 "AsManyAsCame") U ∧ va_AO "AsManyAsCame$Row" U ∧ va_AO "AsManyAsCame$Town" U
theorem b_cl0 : (0 : Int32).toNatClampNeg = 0 := nI_clamp (n := 0) (by decide)
theorem b_cl1 : (nI 1 : Int32).toNatClampNeg = 1 := nI_clamp (n := 1) (by decide)
theorem b_cl2 : (nI 2 : Int32).toNatClampNeg = 2 := nI_clamp (n := 2) (by decide)
theorem b_cl3 : (nI 3 : Int32).toNatClampNeg = 3 := nI_clamp (n := 3) (by decide)
theorem b_cl4 : (nI 4 : Int32).toNatClampNeg = 4 := nI_clamp (n := 4) (by decide)
theorem b_cl5 : (nI 5 : Int32).toNatClampNeg = 5 := nI_clamp (n := 5) (by decide)
theorem b_cl6 : (nI 6 : Int32).toNatClampNeg = 6 := nI_clamp (n := 6) (by decide)
theorem b_cl7 : (nI 7 : Int32).toNatClampNeg = 7 := nI_clamp (n := 7) (by decide)
theorem b_d2_0 : decode prog_3_method_1_code 0 = .ok (.aload_n 0, 1) := by decide +kernel
theorem b_d2_1 : decode prog_3_method_1_code 1 = .ok (.invokespecial 1, 3) := by decide +kernel
theorem b_d2_4 : decode prog_3_method_1_code 4 = .ok (.aload_n 0, 1) := by decide +kernel
theorem b_d2_5 : decode prog_3_method_1_code 5 = .ok (.iload_n 1, 1) := by decide +kernel
theorem b_d2_6 : decode prog_3_method_1_code 6 = .ok (.iconst 0, 1) := by decide +kernel
theorem b_d2_7 : decode prog_3_method_1_code 7 = .ok (.invokestatic 7, 3) := by decide +kernel
theorem b_d2_10 : decode prog_3_method_1_code 10 = .ok (.newarray .int, 2) := by decide +kernel
theorem b_d2_12 : decode prog_3_method_1_code 12 = .ok (.putfield 13, 3) := by decide +kernel
theorem b_d2_15 : decode prog_3_method_1_code 15 = .ok (.return_, 1) := by decide +kernel
theorem b_d3_0 : decode prog_4_method_1_code 0 = .ok (.aload_n 0, 1) := by decide +kernel
theorem b_d3_1 : decode prog_4_method_1_code 1 = .ok (.invokespecial 3, 3) := by decide +kernel
theorem b_d3_4 : decode prog_4_method_1_code 4 = .ok (.aload_n 0, 1) := by decide +kernel
theorem b_d3_5 : decode prog_4_method_1_code 5 = .ok (.new 9, 3) := by decide +kernel
theorem b_d3_8 : decode prog_4_method_1_code 8 = .ok (.dup, 1) := by decide +kernel
theorem b_d3_9 : decode prog_4_method_1_code 9 = .ok (.bipush 40, 2) := by decide +kernel
theorem b_d3_11 : decode prog_4_method_1_code 11 = .ok (.invokespecial 11, 3) := by decide +kernel
theorem b_d3_14 : decode prog_4_method_1_code 14 = .ok (.putfield 14, 3) := by decide +kernel
theorem b_d3_17 : decode prog_4_method_1_code 17 = .ok (.aload_n 0, 1) := by decide +kernel
theorem b_d3_18 : decode prog_4_method_1_code 18 = .ok (.iconst 0, 1) := by decide +kernel
theorem b_d3_19 : decode prog_4_method_1_code 19 = .ok (.putfield 20, 3) := by decide +kernel
theorem b_d3_22 : decode prog_4_method_1_code 22 = .ok (.aload_n 0, 1) := by decide +kernel
theorem b_d3_23 : decode prog_4_method_1_code 23 = .ok (.iconst 0, 1) := by decide +kernel
theorem b_d3_24 : decode prog_4_method_1_code 24 = .ok (.putfield 24, 3) := by decide +kernel
theorem b_d3_27 : decode prog_4_method_1_code 27 = .ok (.aload_n 0, 1) := by decide +kernel
theorem b_d3_28 : decode prog_4_method_1_code 28 = .ok (.iconst 0, 1) := by decide +kernel
theorem b_d3_29 : decode prog_4_method_1_code 29 = .ok (.putfield 28, 3) := by decide +kernel
theorem b_d3_32 : decode prog_4_method_1_code 32 = .ok (.return_, 1) := by decide +kernel
theorem b_d4_0 : decode prog_5_method_1_code 0 = .ok (.aload_n 0, 1) := by decide +kernel
theorem b_d4_1 : decode prog_5_method_1_code 1 = .ok (.invokespecial 3, 3) := by decide +kernel
theorem b_d4_4 : decode prog_5_method_1_code 4 = .ok (.aload_n 0, 1) := by decide +kernel
theorem b_d4_5 : decode prog_5_method_1_code 5 = .ok (.new 9, 3) := by decide +kernel
theorem b_d4_8 : decode prog_5_method_1_code 8 = .ok (.dup, 1) := by decide +kernel
theorem b_d4_9 : decode prog_5_method_1_code 9 = .ok (.sipush 500, 3) := by decide +kernel
theorem b_d4_12 : decode prog_5_method_1_code 12 = .ok (.invokespecial 11, 3) := by decide +kernel
theorem b_d4_15 : decode prog_5_method_1_code 15 = .ok (.putfield 14, 3) := by decide +kernel
theorem b_d4_18 : decode prog_5_method_1_code 18 = .ok (.aload_n 0, 1) := by decide +kernel
theorem b_d4_19 : decode prog_5_method_1_code 19 = .ok (.iconst 0, 1) := by decide +kernel
theorem b_d4_20 : decode prog_5_method_1_code 20 = .ok (.putfield 20, 3) := by decide +kernel
theorem b_d4_23 : decode prog_5_method_1_code 23 = .ok (.aload_n 0, 1) := by decide +kernel
theorem b_d4_24 : decode prog_5_method_1_code 24 = .ok (.iconst 0, 1) := by decide +kernel
theorem b_d4_25 : decode prog_5_method_1_code 25 = .ok (.putfield 24, 3) := by decide +kernel
theorem b_d4_28 : decode prog_5_method_1_code 28 = .ok (.aload_n 0, 1) := by decide +kernel
theorem b_d4_29 : decode prog_5_method_1_code 29 = .ok (.iconst 0, 1) := by decide +kernel
theorem b_d4_30 : decode prog_5_method_1_code 30 = .ok (.putfield 27, 3) := by decide +kernel
theorem b_d4_33 : decode prog_5_method_1_code 33 = .ok (.aload_n 0, 1) := by decide +kernel
theorem b_d4_34 : decode prog_5_method_1_code 34 = .ok (.iconst 0, 1) := by decide +kernel
theorem b_d4_35 : decode prog_5_method_1_code 35 = .ok (.putfield 30, 3) := by decide +kernel
theorem b_d4_38 : decode prog_5_method_1_code 38 = .ok (.aload_n 0, 1) := by decide +kernel
theorem b_d4_39 : decode prog_5_method_1_code 39 = .ok (.iconst 0, 1) := by decide +kernel
theorem b_d4_40 : decode prog_5_method_1_code 40 = .ok (.putfield 33, 3) := by decide +kernel
theorem b_d4_43 : decode prog_5_method_1_code 43 = .ok (.return_, 1) := by decide +kernel
theorem b_d5_0 : decode prog_6_method_1_code 0 = .ok (.aload_n 0, 1) := by decide +kernel
theorem b_d5_1 : decode prog_6_method_1_code 1 = .ok (.invokespecial 3, 3) := by decide +kernel
theorem b_d5_4 : decode prog_6_method_1_code 4 = .ok (.aload_n 0, 1) := by decide +kernel
theorem b_d5_5 : decode prog_6_method_1_code 5 = .ok (.iconst 0, 1) := by decide +kernel
theorem b_d5_6 : decode prog_6_method_1_code 6 = .ok (.putfield 9, 3) := by decide +kernel
theorem b_d5_9 : decode prog_6_method_1_code 9 = .ok (.aload_n 0, 1) := by decide +kernel
theorem b_d5_10 : decode prog_6_method_1_code 10 = .ok (.iconst 0, 1) := by decide +kernel
theorem b_d5_11 : decode prog_6_method_1_code 11 = .ok (.putfield 15, 3) := by decide +kernel
theorem b_d5_14 : decode prog_6_method_1_code 14 = .ok (.aload_n 0, 1) := by decide +kernel
theorem b_d5_15 : decode prog_6_method_1_code 15 = .ok (.iconst 0, 1) := by decide +kernel
theorem b_d5_16 : decode prog_6_method_1_code 16 = .ok (.putfield 19, 3) := by decide +kernel
theorem b_d5_19 : decode prog_6_method_1_code 19 = .ok (.aload_n 0, 1) := by decide +kernel
theorem b_d5_20 : decode prog_6_method_1_code 20 = .ok (.iconst 0, 1) := by decide +kernel
theorem b_d5_21 : decode prog_6_method_1_code 21 = .ok (.putfield 22, 3) := by decide +kernel
theorem b_d5_24 : decode prog_6_method_1_code 24 = .ok (.aload_n 0, 1) := by decide +kernel
theorem b_d5_25 : decode prog_6_method_1_code 25 = .ok (.iconst 0, 1) := by decide +kernel
theorem b_d5_26 : decode prog_6_method_1_code 26 = .ok (.putfield 25, 3) := by decide +kernel
theorem b_d5_29 : decode prog_6_method_1_code 29 = .ok (.aload_n 0, 1) := by decide +kernel
theorem b_d5_30 : decode prog_6_method_1_code 30 = .ok (.iconst 0, 1) := by decide +kernel
theorem b_d5_31 : decode prog_6_method_1_code 31 = .ok (.putfield 28, 3) := by decide +kernel
theorem b_d5_34 : decode prog_6_method_1_code 34 = .ok (.aload_n 0, 1) := by decide +kernel
theorem b_d5_35 : decode prog_6_method_1_code 35 = .ok (.iconst 0, 1) := by decide +kernel
theorem b_d5_36 : decode prog_6_method_1_code 36 = .ok (.putfield 31, 3) := by decide +kernel
theorem b_d5_39 : decode prog_6_method_1_code 39 = .ok (.aload_n 0, 1) := by decide +kernel
theorem b_d5_40 : decode prog_6_method_1_code 40 = .ok (.iconst 0, 1) := by decide +kernel
theorem b_d5_41 : decode prog_6_method_1_code 41 = .ok (.putfield 34, 3) := by decide +kernel
theorem b_d5_44 : decode prog_6_method_1_code 44 = .ok (.aload_n 0, 1) := by decide +kernel
theorem b_d5_45 : decode prog_6_method_1_code 45 = .ok (.iconst 0, 1) := by decide +kernel
theorem b_d5_46 : decode prog_6_method_1_code 46 = .ok (.putfield 37, 3) := by decide +kernel
theorem b_d5_49 : decode prog_6_method_1_code 49 = .ok (.aload_n 0, 1) := by decide +kernel
theorem b_d5_50 : decode prog_6_method_1_code 50 = .ok (.iconst 0, 1) := by decide +kernel
theorem b_d5_51 : decode prog_6_method_1_code 51 = .ok (.putfield 40, 3) := by decide +kernel
theorem b_d5_54 : decode prog_6_method_1_code 54 = .ok (.aload_n 0, 1) := by decide +kernel
theorem b_d5_55 : decode prog_6_method_1_code 55 = .ok (.new 43, 3) := by decide +kernel
theorem b_d5_58 : decode prog_6_method_1_code 58 = .ok (.dup, 1) := by decide +kernel
theorem b_d5_59 : decode prog_6_method_1_code 59 = .ok (.bipush 60, 2) := by decide +kernel
theorem b_d5_61 : decode prog_6_method_1_code 61 = .ok (.invokespecial 45, 3) := by decide +kernel
theorem b_d5_64 : decode prog_6_method_1_code 64 = .ok (.putfield 48, 3) := by decide +kernel
theorem b_d5_67 : decode prog_6_method_1_code 67 = .ok (.aload_n 0, 1) := by decide +kernel
theorem b_d5_68 : decode prog_6_method_1_code 68 = .ok (.new 43, 3) := by decide +kernel
theorem b_d5_71 : decode prog_6_method_1_code 71 = .ok (.dup, 1) := by decide +kernel
theorem b_d5_72 : decode prog_6_method_1_code 72 = .ok (.bipush 60, 2) := by decide +kernel
theorem b_d5_74 : decode prog_6_method_1_code 74 = .ok (.invokespecial 45, 3) := by decide +kernel
theorem b_d5_77 : decode prog_6_method_1_code 77 = .ok (.putfield 52, 3) := by decide +kernel
theorem b_d5_80 : decode prog_6_method_1_code 80 = .ok (.aload_n 0, 1) := by decide +kernel
theorem b_d5_81 : decode prog_6_method_1_code 81 = .ok (.new 43, 3) := by decide +kernel
theorem b_d5_84 : decode prog_6_method_1_code 84 = .ok (.dup, 1) := by decide +kernel
theorem b_d5_85 : decode prog_6_method_1_code 85 = .ok (.bipush 60, 2) := by decide +kernel
theorem b_d5_87 : decode prog_6_method_1_code 87 = .ok (.invokespecial 45, 3) := by decide +kernel
theorem b_d5_90 : decode prog_6_method_1_code 90 = .ok (.putfield 55, 3) := by decide +kernel
theorem b_d5_93 : decode prog_6_method_1_code 93 = .ok (.aload_n 0, 1) := by decide +kernel
theorem b_d5_94 : decode prog_6_method_1_code 94 = .ok (.new 43, 3) := by decide +kernel
theorem b_d5_97 : decode prog_6_method_1_code 97 = .ok (.dup, 1) := by decide +kernel
theorem b_d5_98 : decode prog_6_method_1_code 98 = .ok (.bipush 60, 2) := by decide +kernel
theorem b_d5_100 : decode prog_6_method_1_code 100 = .ok (.invokespecial 45, 3) := by decide +kernel
theorem b_d5_103 : decode prog_6_method_1_code 103 = .ok (.putfield 58, 3) := by decide +kernel
theorem b_d5_106 : decode prog_6_method_1_code 106 = .ok (.aload_n 0, 1) := by decide +kernel
theorem b_d5_107 : decode prog_6_method_1_code 107 = .ok (.new 43, 3) := by decide +kernel
theorem b_d5_110 : decode prog_6_method_1_code 110 = .ok (.dup, 1) := by decide +kernel
theorem b_d5_111 : decode prog_6_method_1_code 111 = .ok (.bipush 60, 2) := by decide +kernel
theorem b_d5_113 : decode prog_6_method_1_code 113 = .ok (.invokespecial 45, 3) := by decide +kernel
theorem b_d5_116 : decode prog_6_method_1_code 116 = .ok (.putfield 61, 3) := by decide +kernel
theorem b_d5_119 : decode prog_6_method_1_code 119 = .ok (.return_, 1) := by decide +kernel
theorem b_d1_0 : decode prog_2_method_1_code 0 = .ok (.aload_n 0, 1) := by decide +kernel
theorem b_d1_1 : decode prog_2_method_1_code 1 = .ok (.invokespecial 1, 3) := by decide +kernel
theorem b_d1_4 : decode prog_2_method_1_code 4 = .ok (.aload_n 0, 1) := by decide +kernel
theorem b_d1_5 : decode prog_2_method_1_code 5 = .ok (.new 7, 3) := by decide +kernel
theorem b_d1_8 : decode prog_2_method_1_code 8 = .ok (.dup, 1) := by decide +kernel
theorem b_d1_9 : decode prog_2_method_1_code 9 = .ok (.bipush 16, 2) := by decide +kernel
theorem b_d1_11 : decode prog_2_method_1_code 11 = .ok (.invokespecial 11, 3) := by decide +kernel
theorem b_d1_14 : decode prog_2_method_1_code 14 = .ok (.putfield 14, 3) := by decide +kernel
theorem b_d1_17 : decode prog_2_method_1_code 17 = .ok (.aload_n 0, 1) := by decide +kernel
theorem b_d1_18 : decode prog_2_method_1_code 18 = .ok (.iconst 0, 1) := by decide +kernel
theorem b_d1_19 : decode prog_2_method_1_code 19 = .ok (.putfield 18, 3) := by decide +kernel
theorem b_d1_22 : decode prog_2_method_1_code 22 = .ok (.return_, 1) := by decide +kernel
theorem b_d0_0 : decode prog_1_method_1_code 0 = .ok (.aload_n 0, 1) := by decide +kernel
theorem b_d0_1 : decode prog_1_method_1_code 1 = .ok (.invokespecial 1, 3) := by decide +kernel
theorem b_d0_4 : decode prog_1_method_1_code 4 = .ok (.aload_n 0, 1) := by decide +kernel
theorem b_d0_5 : decode prog_1_method_1_code 5 = .ok (.bipush 8, 2) := by decide +kernel
theorem b_d0_7 : decode prog_1_method_1_code 7 = .ok (.anewarray 9, 3) := by decide +kernel
theorem b_d0_10 : decode prog_1_method_1_code 10 = .ok (.putfield 11, 3) := by decide +kernel
theorem b_d0_13 : decode prog_1_method_1_code 13 = .ok (.aload_n 0, 1) := by decide +kernel
theorem b_d0_14 : decode prog_1_method_1_code 14 = .ok (.new 15, 3) := by decide +kernel
theorem b_d0_17 : decode prog_1_method_1_code 17 = .ok (.dup, 1) := by decide +kernel
theorem b_d0_18 : decode prog_1_method_1_code 18 = .ok (.invokespecial 17, 3) := by decide +kernel
theorem b_d0_21 : decode prog_1_method_1_code 21 = .ok (.putfield 18, 3) := by decide +kernel
theorem b_d0_24 : decode prog_1_method_1_code 24 = .ok (.aload_n 0, 1) := by decide +kernel
theorem b_d0_25 : decode prog_1_method_1_code 25 = .ok (.new 22, 3) := by decide +kernel
theorem b_d0_28 : decode prog_1_method_1_code 28 = .ok (.dup, 1) := by decide +kernel
theorem b_d0_29 : decode prog_1_method_1_code 29 = .ok (.invokespecial 24, 3) := by decide +kernel
theorem b_d0_32 : decode prog_1_method_1_code 32 = .ok (.putfield 25, 3) := by decide +kernel
theorem b_d0_35 : decode prog_1_method_1_code 35 = .ok (.aload_n 0, 1) := by decide +kernel
theorem b_d0_36 : decode prog_1_method_1_code 36 = .ok (.new 22, 3) := by decide +kernel
theorem b_d0_39 : decode prog_1_method_1_code 39 = .ok (.dup, 1) := by decide +kernel
theorem b_d0_40 : decode prog_1_method_1_code 40 = .ok (.invokespecial 24, 3) := by decide +kernel
theorem b_d0_43 : decode prog_1_method_1_code 43 = .ok (.putfield 29, 3) := by decide +kernel
theorem b_d0_46 : decode prog_1_method_1_code 46 = .ok (.aload_n 0, 1) := by decide +kernel
theorem b_d0_47 : decode prog_1_method_1_code 47 = .ok (.iconst 2, 1) := by decide +kernel
theorem b_d0_48 : decode prog_1_method_1_code 48 = .ok (.anewarray 22, 3) := by decide +kernel
theorem b_d0_51 : decode prog_1_method_1_code 51 = .ok (.putfield 32, 3) := by decide +kernel
theorem b_d0_54 : decode prog_1_method_1_code 54 = .ok (.aload_n 0, 1) := by decide +kernel
theorem b_d0_55 : decode prog_1_method_1_code 55 = .ok (.new 36, 3) := by decide +kernel
theorem b_d0_58 : decode prog_1_method_1_code 58 = .ok (.dup, 1) := by decide +kernel
theorem b_d0_59 : decode prog_1_method_1_code 59 = .ok (.invokespecial 38, 3) := by decide +kernel
theorem b_d0_62 : decode prog_1_method_1_code 62 = .ok (.putfield 39, 3) := by decide +kernel
theorem b_d0_65 : decode prog_1_method_1_code 65 = .ok (.aload_n 0, 1) := by decide +kernel
theorem b_d0_66 : decode prog_1_method_1_code 66 = .ok (.new 43, 3) := by decide +kernel
theorem b_d0_69 : decode prog_1_method_1_code 69 = .ok (.dup, 1) := by decide +kernel
theorem b_d0_70 : decode prog_1_method_1_code 70 = .ok (.sipush 161, 3) := by decide +kernel
theorem b_d0_73 : decode prog_1_method_1_code 73 = .ok (.invokespecial 45, 3) := by decide +kernel
theorem b_d0_76 : decode prog_1_method_1_code 76 = .ok (.putfield 48, 3) := by decide +kernel
theorem b_d0_79 : decode prog_1_method_1_code 79 = .ok (.aload_n 0, 1) := by decide +kernel
theorem b_d0_80 : decode prog_1_method_1_code 80 = .ok (.iconst 0, 1) := by decide +kernel
theorem b_d0_81 : decode prog_1_method_1_code 81 = .ok (.putfield 52, 3) := by decide +kernel
theorem b_d0_84 : decode prog_1_method_1_code 84 = .ok (.aload_n 0, 1) := by decide +kernel
theorem b_d0_85 : decode prog_1_method_1_code 85 = .ok (.iconst 0, 1) := by decide +kernel
theorem b_d0_86 : decode prog_1_method_1_code 86 = .ok (.putfield 56, 3) := by decide +kernel
theorem b_d0_89 : decode prog_1_method_1_code 89 = .ok (.iconst 0, 1) := by decide +kernel
theorem b_d0_90 : decode prog_1_method_1_code 90 = .ok (.istore_n 1, 1) := by decide +kernel
theorem b_d0_91 : decode prog_1_method_1_code 91 = .ok (.iload_n 1, 1) := by decide +kernel
theorem b_d0_92 : decode prog_1_method_1_code 92 = .ok (.aload_n 0, 1) := by decide +kernel
theorem b_d0_93 : decode prog_1_method_1_code 93 = .ok (.getfield 11, 3) := by decide +kernel
theorem b_d0_96 : decode prog_1_method_1_code 96 = .ok (.arraylength, 1) := by decide +kernel
theorem b_d0_97 : decode prog_1_method_1_code 97 = .ok (.if_icmp .ge 22, 3) := by decide +kernel
theorem b_d0_100 : decode prog_1_method_1_code 100 = .ok (.aload_n 0, 1) := by decide +kernel
theorem b_d0_101 : decode prog_1_method_1_code 101 = .ok (.getfield 11, 3) := by decide +kernel
theorem b_d0_104 : decode prog_1_method_1_code 104 = .ok (.iload_n 1, 1) := by decide +kernel
theorem b_d0_105 : decode prog_1_method_1_code 105 = .ok (.new 9, 3) := by decide +kernel
theorem b_d0_108 : decode prog_1_method_1_code 108 = .ok (.dup, 1) := by decide +kernel
theorem b_d0_109 : decode prog_1_method_1_code 109 = .ok (.invokespecial 59, 3) := by decide +kernel
theorem b_d0_112 : decode prog_1_method_1_code 112 = .ok (.aastore, 1) := by decide +kernel
theorem b_d0_113 : decode prog_1_method_1_code 113 = .ok (.iinc 1 1, 3) := by decide +kernel
theorem b_d0_116 : decode prog_1_method_1_code 116 = .ok (.goto (-25), 3) := by decide +kernel
theorem b_d0_119 : decode prog_1_method_1_code 119 = .ok (.iconst 0, 1) := by decide +kernel
theorem b_d0_120 : decode prog_1_method_1_code 120 = .ok (.istore_n 1, 1) := by decide +kernel
theorem b_d0_121 : decode prog_1_method_1_code 121 = .ok (.iload_n 1, 1) := by decide +kernel
theorem b_d0_122 : decode prog_1_method_1_code 122 = .ok (.aload_n 0, 1) := by decide +kernel
theorem b_d0_123 : decode prog_1_method_1_code 123 = .ok (.getfield 32, 3) := by decide +kernel
theorem b_d0_126 : decode prog_1_method_1_code 126 = .ok (.arraylength, 1) := by decide +kernel
theorem b_d0_127 : decode prog_1_method_1_code 127 = .ok (.if_icmp .ge 22, 3) := by decide +kernel
theorem b_d0_130 : decode prog_1_method_1_code 130 = .ok (.aload_n 0, 1) := by decide +kernel
theorem b_d0_131 : decode prog_1_method_1_code 131 = .ok (.getfield 32, 3) := by decide +kernel
theorem b_d0_134 : decode prog_1_method_1_code 134 = .ok (.iload_n 1, 1) := by decide +kernel
theorem b_d0_135 : decode prog_1_method_1_code 135 = .ok (.new 22, 3) := by decide +kernel
theorem b_d0_138 : decode prog_1_method_1_code 138 = .ok (.dup, 1) := by decide +kernel
theorem b_d0_139 : decode prog_1_method_1_code 139 = .ok (.invokespecial 24, 3) := by decide +kernel
theorem b_d0_142 : decode prog_1_method_1_code 142 = .ok (.aastore, 1) := by decide +kernel
theorem b_d0_143 : decode prog_1_method_1_code 143 = .ok (.iinc 1 1, 3) := by decide +kernel
theorem b_d0_146 : decode prog_1_method_1_code 146 = .ok (.goto (-25), 3) := by decide +kernel
theorem b_d0_149 : decode prog_1_method_1_code 149 = .ok (.return_, 1) := by decide +kernel
theorem b_d6_0 : decode prog_8_method_1_code 0 = .ok (.aload_n 0, 1) := by decide +kernel
theorem b_d6_1 : decode prog_8_method_1_code 1 = .ok (.invokespecial 1, 3) := by decide +kernel
theorem b_d6_4 : decode prog_8_method_1_code 4 = .ok (.aload_n 0, 1) := by decide +kernel
theorem b_d6_5 : decode prog_8_method_1_code 5 = .ok (.bipush 8, 2) := by decide +kernel
theorem b_d6_7 : decode prog_8_method_1_code 7 = .ok (.newarray .int, 2) := by decide +kernel
theorem b_d6_9 : decode prog_8_method_1_code 9 = .ok (.dup, 1) := by decide +kernel
theorem b_d6_10 : decode prog_8_method_1_code 10 = .ok (.iconst 0, 1) := by decide +kernel
theorem b_d6_11 : decode prog_8_method_1_code 11 = .ok (.iconst (-1), 1) := by decide +kernel
theorem b_d6_12 : decode prog_8_method_1_code 12 = .ok (.iastore, 1) := by decide +kernel
theorem b_d6_13 : decode prog_8_method_1_code 13 = .ok (.dup, 1) := by decide +kernel
theorem b_d6_14 : decode prog_8_method_1_code 14 = .ok (.iconst 1, 1) := by decide +kernel
theorem b_d6_15 : decode prog_8_method_1_code 15 = .ok (.iconst (-1), 1) := by decide +kernel
theorem b_d6_16 : decode prog_8_method_1_code 16 = .ok (.iastore, 1) := by decide +kernel
theorem b_d6_17 : decode prog_8_method_1_code 17 = .ok (.dup, 1) := by decide +kernel
theorem b_d6_18 : decode prog_8_method_1_code 18 = .ok (.iconst 2, 1) := by decide +kernel
theorem b_d6_19 : decode prog_8_method_1_code 19 = .ok (.iconst (-1), 1) := by decide +kernel
theorem b_d6_20 : decode prog_8_method_1_code 20 = .ok (.iastore, 1) := by decide +kernel
theorem b_d6_21 : decode prog_8_method_1_code 21 = .ok (.dup, 1) := by decide +kernel
theorem b_d6_22 : decode prog_8_method_1_code 22 = .ok (.iconst 3, 1) := by decide +kernel
theorem b_d6_23 : decode prog_8_method_1_code 23 = .ok (.iconst (-1), 1) := by decide +kernel
theorem b_d6_24 : decode prog_8_method_1_code 24 = .ok (.iastore, 1) := by decide +kernel
theorem b_d6_25 : decode prog_8_method_1_code 25 = .ok (.dup, 1) := by decide +kernel
theorem b_d6_26 : decode prog_8_method_1_code 26 = .ok (.iconst 4, 1) := by decide +kernel
theorem b_d6_27 : decode prog_8_method_1_code 27 = .ok (.iconst (-1), 1) := by decide +kernel
theorem b_d6_28 : decode prog_8_method_1_code 28 = .ok (.iastore, 1) := by decide +kernel
theorem b_d6_29 : decode prog_8_method_1_code 29 = .ok (.dup, 1) := by decide +kernel
theorem b_d6_30 : decode prog_8_method_1_code 30 = .ok (.iconst 5, 1) := by decide +kernel
theorem b_d6_31 : decode prog_8_method_1_code 31 = .ok (.iconst (-1), 1) := by decide +kernel
theorem b_d6_32 : decode prog_8_method_1_code 32 = .ok (.iastore, 1) := by decide +kernel
theorem b_d6_33 : decode prog_8_method_1_code 33 = .ok (.dup, 1) := by decide +kernel
theorem b_d6_34 : decode prog_8_method_1_code 34 = .ok (.bipush 6, 2) := by decide +kernel
theorem b_d6_36 : decode prog_8_method_1_code 36 = .ok (.iconst (-1), 1) := by decide +kernel
theorem b_d6_37 : decode prog_8_method_1_code 37 = .ok (.iastore, 1) := by decide +kernel
theorem b_d6_38 : decode prog_8_method_1_code 38 = .ok (.dup, 1) := by decide +kernel
theorem b_d6_39 : decode prog_8_method_1_code 39 = .ok (.bipush 7, 2) := by decide +kernel
theorem b_d6_41 : decode prog_8_method_1_code 41 = .ok (.iconst (-1), 1) := by decide +kernel
theorem b_d6_42 : decode prog_8_method_1_code 42 = .ok (.iastore, 1) := by decide +kernel
theorem b_d6_43 : decode prog_8_method_1_code 43 = .ok (.putfield 7, 3) := by decide +kernel
theorem b_d6_46 : decode prog_8_method_1_code 46 = .ok (.aload_n 0, 1) := by decide +kernel
theorem b_d6_47 : decode prog_8_method_1_code 47 = .ok (.bipush 8, 2) := by decide +kernel
theorem b_d6_49 : decode prog_8_method_1_code 49 = .ok (.newarray .int, 2) := by decide +kernel
theorem b_d6_51 : decode prog_8_method_1_code 51 = .ok (.putfield 13, 3) := by decide +kernel
theorem b_d6_54 : decode prog_8_method_1_code 54 = .ok (.aload_n 0, 1) := by decide +kernel
theorem b_d6_55 : decode prog_8_method_1_code 55 = .ok (.sipush 320, 3) := by decide +kernel
theorem b_d6_58 : decode prog_8_method_1_code 58 = .ok (.newarray .int, 2) := by decide +kernel
theorem b_d6_60 : decode prog_8_method_1_code 60 = .ok (.putfield 16, 3) := by decide +kernel
theorem b_d6_63 : decode prog_8_method_1_code 63 = .ok (.aload_n 0, 1) := by decide +kernel
theorem b_d6_64 : decode prog_8_method_1_code 64 = .ok (.sipush 309, 3) := by decide +kernel
theorem b_d6_67 : decode prog_8_method_1_code 67 = .ok (.newarray .int, 2) := by decide +kernel
theorem b_d6_69 : decode prog_8_method_1_code 69 = .ok (.putfield 19, 3) := by decide +kernel
theorem b_d6_72 : decode prog_8_method_1_code 72 = .ok (.aload_n 0, 1) := by decide +kernel
theorem b_d6_73 : decode prog_8_method_1_code 73 = .ok (.sipush 309, 3) := by decide +kernel
theorem b_d6_76 : decode prog_8_method_1_code 76 = .ok (.newarray .int, 2) := by decide +kernel
theorem b_d6_78 : decode prog_8_method_1_code 78 = .ok (.putfield 22, 3) := by decide +kernel
theorem b_d6_81 : decode prog_8_method_1_code 81 = .ok (.aload_n 0, 1) := by decide +kernel
theorem b_d6_82 : decode prog_8_method_1_code 82 = .ok (.sipush 500, 3) := by decide +kernel
theorem b_d6_85 : decode prog_8_method_1_code 85 = .ok (.newarray .int, 2) := by decide +kernel
theorem b_d6_87 : decode prog_8_method_1_code 87 = .ok (.putfield 25, 3) := by decide +kernel
theorem b_d6_90 : decode prog_8_method_1_code 90 = .ok (.aload_n 0, 1) := by decide +kernel
theorem b_d6_91 : decode prog_8_method_1_code 91 = .ok (.sipush 161, 3) := by decide +kernel
theorem b_d6_94 : decode prog_8_method_1_code 94 = .ok (.newarray .long, 2) := by decide +kernel
theorem b_d6_96 : decode prog_8_method_1_code 96 = .ok (.putfield 28, 3) := by decide +kernel
theorem b_d6_99 : decode prog_8_method_1_code 99 = .ok (.aload_n 0, 1) := by decide +kernel
theorem b_d6_100 : decode prog_8_method_1_code 100 = .ok (.iconst 2, 1) := by decide +kernel
theorem b_d6_101 : decode prog_8_method_1_code 101 = .ok (.newarray .boolean, 2) := by decide +kernel
theorem b_d6_103 : decode prog_8_method_1_code 103 = .ok (.putfield 32, 3) := by decide +kernel
theorem b_d6_106 : decode prog_8_method_1_code 106 = .ok (.aload_n 0, 1) := by decide +kernel
theorem b_d6_107 : decode prog_8_method_1_code 107 = .ok (.sipush 618, 3) := by decide +kernel
theorem b_d6_110 : decode prog_8_method_1_code 110 = .ok (.newarray .int, 2) := by decide +kernel
theorem b_d6_112 : decode prog_8_method_1_code 112 = .ok (.putfield 36, 3) := by decide +kernel
theorem b_d6_115 : decode prog_8_method_1_code 115 = .ok (.aload_n 0, 1) := by decide +kernel
theorem b_d6_116 : decode prog_8_method_1_code 116 = .ok (.bipush 16, 2) := by decide +kernel
theorem b_d6_118 : decode prog_8_method_1_code 118 = .ok (.newarray .int, 2) := by decide +kernel
theorem b_d6_120 : decode prog_8_method_1_code 120 = .ok (.putfield 39, 3) := by decide +kernel
theorem b_d6_123 : decode prog_8_method_1_code 123 = .ok (.return_, 1) := by decide +kernel
