theorem m_og0 : m_g0.all m_okr = true := by
  simp only [m_g0, List.all_cons, List.all_nil, Bool.and_true, m_ok0, m_ok1, m_ok2, m_ok3, m_ok4, m_ok5, m_ok6, m_ok7, m_ok8, m_ok9, m_ok10, m_ok11, m_ok12, m_ok13, m_ok14, m_ok15]
theorem m_og1 : m_g1.all m_okr = true := by
  simp only [m_g1, List.all_cons, List.all_nil, Bool.and_true, m_ok16, m_ok17, m_ok18, m_ok19, m_ok20, m_ok21, m_ok22, m_ok23, m_ok24, m_ok25, m_ok26, m_ok27, m_ok28, m_ok29, m_ok30, m_ok31]
theorem m_og2 : m_g2.all m_okr = true := by
  simp only [m_g2, List.all_cons, List.all_nil, Bool.and_true, m_ok32, m_ok33, m_ok34, m_ok35, m_ok36, m_ok37, m_ok38, m_ok39, m_ok40, m_ok41, m_ok42, m_ok43, m_ok44, m_ok45, m_ok46, m_ok47]
theorem m_og3 : m_g3.all m_okr = true := by
  simp only [m_g3, List.all_cons, List.all_nil, Bool.and_true, m_ok48, m_ok49, m_ok50, m_ok51, m_ok52, m_ok53, m_ok54, m_ok55, m_ok56, m_ok57, m_ok58, m_ok59, m_ok60, m_ok61, m_ok62, m_ok63]
theorem m_og4 : m_g4.all m_okr = true := by
  simp only [m_g4, List.all_cons, List.all_nil, Bool.and_true, m_ok64, m_ok65, m_ok66, m_ok67, m_ok68, m_ok69, m_ok70, m_ok71, m_ok72, m_ok73, m_ok74, m_ok75, m_ok76, m_ok77, m_ok78, m_ok79]
theorem m_og5 : m_g5.all m_okr = true := by
  simp only [m_g5, List.all_cons, List.all_nil, Bool.and_true, m_ok80, m_ok81, m_ok82, m_ok83, m_ok84, m_ok85, m_ok86, m_ok87, m_ok88, m_ok89, m_ok90, m_ok91, m_ok92, m_ok93, m_ok94, m_ok95]
theorem m_og6 : m_g6.all m_okr = true := by
  simp only [m_g6, List.all_cons, List.all_nil, Bool.and_true, m_ok96, m_ok97, m_ok98, m_ok99, m_ok100, m_ok101, m_ok102, m_ok103, m_ok104, m_ok105, m_ok106, m_ok107, m_ok108, m_ok109, m_ok110, m_ok111]
theorem m_og7 : m_g7.all m_okr = true := by
  simp only [m_g7, List.all_cons, List.all_nil, Bool.and_true, m_ok112, m_ok113, m_ok114, m_ok115, m_ok116, m_ok117, m_ok118, m_ok119, m_ok120, m_ok121, m_ok122, m_ok123, m_ok124, m_ok125, m_ok126, m_ok127]
theorem m_og8 : m_g8.all m_okr = true := by
  simp only [m_g8, List.all_cons, List.all_nil, Bool.and_true, m_ok128, m_ok129, m_ok130, m_ok131, m_ok132, m_ok133, m_ok134, m_ok135, m_ok136, m_ok137, m_ok138, m_ok139, m_ok140, m_ok141, m_ok142, m_ok143]
theorem m_og9 : m_g9.all m_okr = true := by
  simp only [m_g9, List.all_cons, List.all_nil, Bool.and_true, m_ok144, m_ok145, m_ok146, m_ok147, m_ok148, m_ok149, m_ok150, m_ok151, m_ok152, m_ok153, m_ok154, m_ok155, m_ok156, m_ok157, m_ok158, m_ok159]
theorem m_og10 : m_g10.all m_okr = true := by
  simp only [m_g10, List.all_cons, List.all_nil, Bool.and_true, m_ok160, m_ok161, m_ok162, m_ok163, m_ok164, m_ok165, m_ok166, m_ok167, m_ok168]
theorem m_ogs : m_gs.all (fun l => l.all m_okr) = true := by
  simp only [m_gs, List.all_cons, List.all_nil, Bool.and_true, m_og0, m_og1, m_og2, m_og3, m_og4, m_og5, m_og6, m_og7, m_og8, m_og9, m_og10]
theorem m_okd : m_okr m_d0 = true := by decide +kernel
theorem m_ok (y : Nat) : m_okr (m_rec y) = true := by
  unfold m_rec
  exact m_nth_all (p := m_okr) (d := m_d0) m_okd (m_nth m_gs (y / 16) []) (y % 16) (m_nth_all (p := fun l => l.all m_okr) (d := []) rfl m_gs (y / 16) m_ogs)
def m_wall : List Cond := lw_tbl.filter goodWord
theorem m_wall_of {w : Cond} {p : Nat} (h : tables_1[p]? = some w) (hg : goodWord w = true) : w ∈ m_wall := List.mem_filter.mpr ⟨List.mem_append_right _ (List.mem_of_getElem? h), hg⟩
theorem m_wall_sel {w : Cond} {p : Nat} (h : lw_tbl[p]? = some w) (hg : goodWord w = true) : w ∈ m_wall := List.mem_filter.mpr ⟨List.mem_of_getElem? h, hg⟩
theorem m_wall_good : GoodIn m_wall m_wall := fun w hw => ⟨hw, good_of_word (List.mem_filter.mp hw).2⟩
def m_in (p : Nat) (w : Cond) : Bool := decide (tables_1[p]? = some w) && goodWord w
theorem m_in_of {p : Nat} {w : Cond} (h : m_in p w = true) : w ∈ m_wall := by
  unfold m_in at h
  rw [Bool.and_eq_true, decide_eq_true_eq] at h
  exact m_wall_of h.1 h.2
def m_ins (p : Nat) (w : Cond) : Bool := decide (lw_tbl[p]? = some w) && goodWord w
theorem m_ins_of {p : Nat} {w : Cond} (h : m_ins p w = true) : w ∈ m_wall := by
  unfold m_ins at h
  rw [Bool.and_eq_true, decide_eq_true_eq] at h
  exact m_wall_sel h.1 h.2
def m_fw (e : Nat × Nat × Nat × Nat × Nat) : Bool := match e with
  | (oc, k, c, j, p) => m_in p (.fieldLink (m_on oc) k (m_fn c j).1 (m_fn c j).2.1 (m_fn c j).2.2)
theorem m_wf : m_cpf.all m_fw = true := by decide +kernel
def m_cw (e : Nat × Nat × Nat × Nat) : Bool := match e with
  | (oc, k, b, p) => m_in p (.constant (m_on oc) k (m_nth m_kI b 0))
theorem m_wc : m_cpc.all m_cw = true := by decide +kernel
def m_lw (e : Nat × Nat × Nat × Nat) : Bool := match e with
  | (oc, k, b, p) => m_in p (.constantLong (m_on oc) k (m_nth m_kL b 0))
theorem m_wl : m_cpl.all m_lw = true := by decide +kernel
/-- a method's own code -/
def m_yw (y : Nat) : Bool := m_in (m_pla y) (.code (m_name y) (m_bytes y) (m_max y) (m_rt y))
def m_mw (e : Nat × Nat × Nat × Nat × Nat × Nat × Bool × Nat) : Bool := match e with
  | (oc, k, y, pl, pk, ps, nest, pi) => m_in pi (.initialized (m_name y).cls) && (nest || m_in pl (.methodLink (m_on oc) k (m_name y))) && (cond (m_sta y) (m_in pk (.static (m_name y))) (m_in pk (.instanceMethod (m_name y)) && m_ins ps (.selects (m_name y).cls (m_name y) (m_name y)) && (Nat.blt (m_oc y) 7 || Nat.beq (m_oc y) 17))) && (Nat.beq y 160 || Nat.beq y 161 || plainName (m_name y).cls) && decide ((m_name y).cls ≠ "java/lang/invoke/MethodHandle") && decide ((m_name y).cls ≠ "java/lang/invoke/VarHandle") && decide ((parseMethodDescriptor (m_name y).desc).map (fun d => d.parameters.length) = some (m_par y))
theorem m_wm0 : ((m_cpm.drop 0).take 24).all m_mw = true := by decide +kernel
theorem m_wm1 : ((m_cpm.drop 24).take 24).all m_mw = true := by decide +kernel
theorem m_wm2 : ((m_cpm.drop 48).take 24).all m_mw = true := by decide +kernel
theorem m_wm3 : ((m_cpm.drop 72).take 24).all m_mw = true := by decide +kernel
theorem m_wm4 : ((m_cpm.drop 96).take 24).all m_mw = true := by decide +kernel
theorem m_wm5 : ((m_cpm.drop 120).take 24).all m_mw = true := by decide +kernel
theorem m_wm6 : ((m_cpm.drop 144).take 24).all m_mw = true := by decide +kernel
theorem m_wm7 : ((m_cpm.drop 168).take 24).all m_mw = true := by decide +kernel
theorem m_wmz8 : (m_cpm.drop 192).all m_mw = true := rfl
theorem m_wmz7 : (m_cpm.drop 168).all m_mw = true := m_all_cut 24 m_wm7 (by rw [List.drop_drop]; exact m_wmz8)
theorem m_wmz6 : (m_cpm.drop 144).all m_mw = true := m_all_cut 24 m_wm6 (by rw [List.drop_drop]; exact m_wmz7)
theorem m_wmz5 : (m_cpm.drop 120).all m_mw = true := m_all_cut 24 m_wm5 (by rw [List.drop_drop]; exact m_wmz6)
theorem m_wmz4 : (m_cpm.drop 96).all m_mw = true := m_all_cut 24 m_wm4 (by rw [List.drop_drop]; exact m_wmz5)
theorem m_wmz3 : (m_cpm.drop 72).all m_mw = true := m_all_cut 24 m_wm3 (by rw [List.drop_drop]; exact m_wmz4)
theorem m_wmz2 : (m_cpm.drop 48).all m_mw = true := m_all_cut 24 m_wm2 (by rw [List.drop_drop]; exact m_wmz3)
theorem m_wmz1 : (m_cpm.drop 24).all m_mw = true := m_all_cut 24 m_wm1 (by rw [List.drop_drop]; exact m_wmz2)
theorem m_wmz0 : (m_cpm.drop 0).all m_mw = true := m_all_cut 24 m_wm0 (by rw [List.drop_drop]; exact m_wmz1)
theorem m_wm : m_cpm.all m_mw = true := m_wmz0
theorem m_wy0 : ((List.range 16).drop 0).all m_yw = true := by decide +kernel
theorem m_wy1 : ((List.range 32).drop 16).all m_yw = true := by decide +kernel
theorem m_wy2 : ((List.range 48).drop 32).all m_yw = true := by decide +kernel
theorem m_wy3 : ((List.range 64).drop 48).all m_yw = true := by decide +kernel
theorem m_wy4 : ((List.range 80).drop 64).all m_yw = true := by decide +kernel
theorem m_wy5 : ((List.range 96).drop 80).all m_yw = true := by decide +kernel
theorem m_wy6 : ((List.range 112).drop 96).all m_yw = true := by decide +kernel
theorem m_wy7 : ((List.range 128).drop 112).all m_yw = true := by decide +kernel
theorem m_wy8 : ((List.range 144).drop 128).all m_yw = true := by decide +kernel
theorem m_wy9 : ((List.range 160).drop 144).all m_yw = true := by decide +kernel
theorem m_wy10 : ((List.range 168).drop 160).all m_yw = true := by decide +kernel
theorem m_wy {y : Nat} (h : y < 168) : m_yw y = true := by
  have k : ∀ (n m : Nat), ((List.range n).drop m).all m_yw = true → ∀ y, m ≤ y → y < n → m_yw y = true := by
    intro n m h y h1 h2
    refine List.all_eq_true.mp h y (List.mem_of_getElem? (i := y - m) ?_)
    rw [List.getElem?_drop, List.getElem?_range (by omega)]
    congr 1
    omega
  rcases Nat.lt_or_ge y 16 with h0 | h0
  · exact k _ _ m_wy0 y (by omega) (by omega)
  rcases Nat.lt_or_ge y 32 with h1 | h1
  · exact k _ _ m_wy1 y (by omega) (by omega)
  rcases Nat.lt_or_ge y 48 with h2 | h2
  · exact k _ _ m_wy2 y (by omega) (by omega)
  rcases Nat.lt_or_ge y 64 with h3 | h3
  · exact k _ _ m_wy3 y (by omega) (by omega)
  rcases Nat.lt_or_ge y 80 with h4 | h4
  · exact k _ _ m_wy4 y (by omega) (by omega)
  rcases Nat.lt_or_ge y 96 with h5 | h5
  · exact k _ _ m_wy5 y (by omega) (by omega)
  rcases Nat.lt_or_ge y 112 with h6 | h6
  · exact k _ _ m_wy6 y (by omega) (by omega)
  rcases Nat.lt_or_ge y 128 with h7 | h7
  · exact k _ _ m_wy7 y (by omega) (by omega)
  rcases Nat.lt_or_ge y 144 with h8 | h8
  · exact k _ _ m_wy8 y (by omega) (by omega)
  rcases Nat.lt_or_ge y 160 with h9 | h9
  · exact k _ _ m_wy9 y (by omega) (by omega)
  exact k _ _ m_wy10 y (by omega) (by omega)
