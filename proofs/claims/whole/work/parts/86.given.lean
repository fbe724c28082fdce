/-! what the start gives, and what the first memory is -/
theorem b_tb {w : Cond} (p : Nat) (h : tables_1[p]? = some w) : w ∈ lw_tbl := List.mem_append_right _ (List.mem_of_getElem? h)
def b_tk (i : Nat) : Nat := m_nth [48, 102, 104, 106, 86, 108, 110, 112, 114, 116] i 0
def b_tm (i : Nat) : Term := .string "AsManyAsCame$Tape" (b_tk i)
def b_st (v : Nat) : Term := .static (m_sn v).1 (m_sn v).2 "[I"
abbrev b_fl : List Cond := flatC (Jvm.Cond.and given_1 narrow_1)
theorem b_g1 : ∀ v, v < 4 → Cond.arrayOf (b_st v) .int ∈ b_fl := by decide +kernel
theorem b_g2 : ∀ v, v < 4 → Cond.eq (.length (b_st v)) (.int 6) ∈ b_fl := by decide +kernel
theorem b_g3 : ∀ v, v < 4 → ∀ j, j < 6 → Cond.eq (.elem (b_st v) (.int (Int32.ofNat j))) (.int (m_nth (m_nth m_ro v []) j 0)) ∈ b_fl := by decide +kernel
theorem b_g4 : Cond.eq (.static "java/lang/String" "COMPACT_STRINGS" "Z") (.int 1) ∈ b_fl := by decide +kernel
theorem b_g5 : Cond.isRef (.static "jdk/internal/util/Preconditions" "SIOOBE_FORMATTER" "Ljava/util/function/BiFunction;") ∈ b_fl := by decide +kernel
theorem b_h0 : ∀ i, i < 10 → m_sl.getD i 0 < 2 ^ 31 := by decide +kernel
theorem b_h1 : ∀ i, i < 10 → Cond.exactly (b_tm i) "java/lang/String" ∈ b_fl := by decide +kernel
theorem b_h2 : ∀ i, i < 10 → Cond.eq (.field (b_tm i) "java/lang/String" "coder" "B") (.int 0) ∈ b_fl := by decide +kernel
theorem b_h3 : ∀ i, i < 10 → Cond.arrayOf (.field (b_tm i) "java/lang/String" "value" "[B") .byte ∈ b_fl := by decide +kernel
theorem b_h4 : ∀ i, i < 10 → Cond.eq (.length (.field (b_tm i) "java/lang/String" "value" "[B")) (.int (Int32.ofNat (m_sl.getD i 0))) ∈ b_fl := by decide +kernel
theorem b_h5 : ∀ i, i < 10 → ∀ j, j < m_sl.getD i 0 → Cond.eq (.elem (.field (b_tm i) "java/lang/String" "value" "[B") (.int (Int32.ofNat j))) (.int ((m_str.getD i []).getD j 0)) ∈ b_fl := by decide +kernel
theorem b_h6 : ∀ i, i < 10 → ∀ j, j < 10 → i ≠ j → Cond.not (Cond.eq (b_tm i) (b_tm j)) ∈ b_fl ∨ Cond.not (Cond.eq (b_tm j) (b_tm i)) ∈ b_fl := by decide +kernel
theorem b_l1 : ∀ v, v < 4 → tables_1[m_nth [607, 437, 617, 633] v 0]? = some (.laysStatic (m_sn v).1 (m_sn v).2 "[I") := by decide +kernel
theorem b_l2 : ∀ v, v < 4 → tables_1[m_nth [1, 1, 6, 6] v 0]? = some (.initialized (m_sn v).1) := by decide +kernel
theorem b_l3 : ∀ e ∈ m_cps, tables_1[e.2.2.2]? = some (.stringRef (m_on e.1) e.2.1 (m_tx e.2.2.1)) ∧ e.2.2.1 < 10 ∧ m_on e.1 = "AsManyAsCame$Tape" ∧ e.2.1 = b_tk e.2.2.1 := by decide +kernel
theorem b_ro {A : Nat → Prop} {s : State} {b L : Nat} {xs : Nat → Int32} (hA : ∀ a : Nat, a < s.heap.size → ¬ A a) (hts : ∀ w ∈ lw_tbl, w.before #[Value.ref b] s = true) (hX : va_X b L xs s s.heap) (hgv : (Jvm.Cond.and given_1 narrow_1).before #[Value.ref b] s = true) :
    ∃ (st adK adV : Nat → Nat) (fz : Value), (fz = .null ∨ ∃ t, fz = .ref t) ∧ ∀ G : m_G, G.2.1 16 = st → G.2.1 17 = adK → G.2.1 19 = adV → G.2.1 18 0 = b → G.2.2.2 = fz → m_RO G (L, xs) A s s.heap := by
  have hs := flat_of_before _ hgv
  have h0 : ∀ v : Nat, ∃ t : Nat, v < 4 → (b_st v).eval #[Value.ref b] s none [] s = some (.ref t) ∧ va_T .int t 6 (fun j => .int (m_nth (m_nth m_ro v []) j 0)) A s s.heap := by
    intro v
    by_cases hv : v < 4
    · obtain ⟨t, h1, h2⟩ := va_Tof (f := fun j => .int (m_nth (m_nth m_ro v []) j 0)) (N := 6) (by decide) (hs _ (b_g1 v hv)) (va_eqt (hs _ (b_g2 v hv))) (fun j hj => va_eqt (hs _ (b_g3 v hv j hj))) hA
      exact ⟨t, fun _ => ⟨h1, h2⟩⟩
    · exact ⟨0, fun h => absurd h hv⟩
  obtain ⟨st, hst⟩ := Classical.axiomOfChoice h0
  obtain ⟨adK, adV, hS, hK⟩ := vk_Sof (A := A) (tm := b_tm) (len := m_sl) (byt := m_str) b_h0 (fun i hi => hs _ (b_h1 i hi)) (fun i hi => hs _ (b_h2 i hi)) (fun i hi => hs _ (b_h3 i hi)) (fun i hi => hs _ (b_h4 i hi)) (fun i hi j hj => hs _ (b_h5 i hi j hj)) (fun i j hi hj hij => (b_h6 i hi j hj hij).imp (hs _) (hs _)) hA
  obtain ⟨fz, hfz, hZ⟩ : ∃ fz : Value, (fz = .null ∨ ∃ t, fz = .ref t) ∧ va_Z "jdk/internal/util/Preconditions" "SIOOBE_FORMATTER" "Ljava/util/function/BiFunction;" fz A s s.heap := by
    rcases va_Zqof (hts _ (b_tb 339 (by decide +kernel))) (hts _ (b_tb 11 (by decide +kernel))) (hs _ b_g5) hA with h | ⟨t, h⟩
    · exact ⟨_, Or.inl rfl, h⟩
    · exact ⟨_, Or.inr ⟨t, rfl⟩, h⟩
  refine ⟨st, adK, adV, fz, hfz, fun G g1 g2 g3 g4 g5 => ?_⟩
  refine ⟨fun v hv => ?_, ?_, fun v hv => ?_, ?_, ?_, ?_, fun e he => ?_, ?_, ?_, ?_, ?_, ?_⟩
  · rw [g1]; exact (hst v hv).2
  · obtain ⟨scr, h1, h2, h3, h4, h5⟩ := hX
    rw [g4]
    exact ⟨scr, h1, h2, h3, Nat.le_of_eq h4.symm, by rw [h4], h5, hA b (Array.getElem?_eq_some_iff.mp h1).1⟩
  · rw [g1]; exact va_Zref (hts _ (b_tb _ (b_l1 v hv))) (hts _ (b_tb _ (b_l2 v hv))) (hst v hv).1 hA
  · exact va_Zof (hts _ (b_tb 323 (by decide +kernel))) (hts _ (b_tb 9 (by decide +kernel))) (va_eqi (hs _ b_g4)) hA
  · rw [g5]; exact hZ
  · rw [g2, g3]; exact hS
  · obtain ⟨h1, h2, h3, h4⟩ := b_l3 e he
    have h5 := hK e.2.2.1 h2
    unfold b_tm at h5
    rw [← h4, ← h3] at h5
    rw [g2]
    exact vk_R.of (hts _ (b_tb _ h1)) h5
  · exact va_Nw.of rfl (hts _ (b_tb 500 (by decide +kernel)))
  · exact va_Nw.of rfl (hts _ (b_tb 436 (by decide +kernel)))
  · exact va_Nw.of rfl (hts _ (b_tb 622 (by decide +kernel)))
  · exact va_Nw.of rfl (hts _ (b_tb 612 (by decide +kernel)))
  · exact va_Nw.of rfl (hts _ (b_tb 635 (by decide +kernel)))
theorem b_arrV {cA : ClassId} {n : Nat} {f g : Nat → Value} (h : ∀ j, j < n → f j = g j) : arrV cA n f = arrV cA n g := by
  have e : (fun j : Fin n => f j.val) = fun j : Fin n => g j.val := funext fun j => h j.val j.isLt
  unfold arrV
  rw [e]
theorem b_setR {D : va_G} {cl : List vw_C} {ws : va_W} {H : Heap} {k a : Nat} {cA : ClassId} {n : Nat} {f g : Nat → Option Nat} (hP : va_P D cl ws H) (hk : ws[k]? = some (a, .inl (cA, n, .inr (.inr (.inr (.inr f)))))) (h : ∀ j, j < n → f j = g j) : va_P D cl (ws.set k (a, .inl (cA, n, .inr (.inr (.inr (.inr g)))))) H := by
  intro i q hi
  rw [List.getElem?_set] at hi
  by_cases e : k = i
  · rw [if_pos e, if_pos (List.getElem?_eq_some_iff.mp hk).1] at hi
    cases hi
    have h1 : H[a]? = some (vp_cell cA (n, .inr (.inr (.inr (.inr f))))) := hP k _ hk
    show H[a]? = some (vp_cell cA (n, .inr (.inr (.inr (.inr g)))))
    rw [h1, vp_cell_q, vp_cell_q, b_arrV (g := fun j => va_rf (g j)) fun j hj => by rw [h j hj]]
  · rw [if_neg e] at hi
    exact hP i q hi
theorem b_setI {D : va_G} {cl : List vw_C} {ws : va_W} {H : Heap} {k a : Nat} {cA : ClassId} {n : Nat} {f g : Nat → Int32} (hP : va_P D cl ws H) (hk : ws[k]? = some (a, .inl (cA, n, .inl f))) (h : ∀ j, j < n → f j = g j) : va_P D cl (ws.set k (a, .inl (cA, n, .inl g))) H := by
  intro i q hi
  rw [List.getElem?_set] at hi
  by_cases e : k = i
  · rw [if_pos e, if_pos (List.getElem?_eq_some_iff.mp hk).1] at hi
    cases hi
    have h1 : H[a]? = some (vp_cell cA (n, .inl f)) := hP k _ hk
    show H[a]? = some (vp_cell cA (n, .inl g))
    rw [h1, vp_cell_i, vp_cell_i, b_arrV (g := fun j => .int (g j)) fun j hj => by rw [h j hj]]
  · rw [if_neg e] at hi
    exact hP i q hi
/-- the memory when all is made -/
def b_σ : m_M := (fun c v j => cond (Nat.beq c 13 && Nat.beq v 0 && Nat.blt j 8) (-1) 0, fun _ => 0)
theorem b_lane {r : Nat} (h : r < 8) : b_σ.1 13 0 r = -1 := by
  show cond (Nat.blt r 8) (-1 : Int32) 0 = -1
  rw [show Nat.blt r 8 = true from Nat.ble_eq_true_of_le h]
  rfl
theorem b_sim : q_sim 0 b_σ := by
  refine ⟨fun r hr => ⟨0, by decide, rfl, rfl, Or.inl ⟨rfl, b_lane hr⟩, fun j _ => rfl⟩, rfl, rfl, ⟨0, by decide, rfl, rfl, fun j hj => absurd hj (Nat.not_lt_zero j)⟩, ⟨rfl, Or.inl rfl⟩, ?_, fun k hk => ⟨?_, Or.inl rfl, fun z => ?_⟩, ⟨0, by decide, rfl, rfl, fun j hj => absurd hj (Nat.not_lt_zero j)⟩⟩
  · refine ⟨0, 0, 0, 0, 0, fun _ => 0, fun _ => 0, fun _ => 0, fun _ => 0, ⟨rfl, by decide, rfl, by decide, rfl, by decide, rfl, by decide, rfl, by decide, fun i hi => absurd hi (Nat.not_lt_zero i), fun i j hi => absurd hi (Nat.not_lt_zero i), fun p hp => absurd hp (Nat.not_lt_zero p)⟩, fun j _ => rfl, fun i hi => absurd hi (Nat.not_lt_zero i), fun p hp => absurd hp (Nat.not_lt_zero p)⟩
  · show (0 : Int32) = 0
    rfl
  · exact absurd (show (0 : Int32) = 1 from z) (by decide)
/-- the classes' numbers and slots; where all lies -/
def b_adr (a0 a1 b : Nat) (f g st adK adV : Nat → Nat) (c : Nat) : Nat → Nat := m_nth [fun _ => a0, fun _ => f 27, fun v => m_nth [f 5, f 7, f 9, f 11, f 13, f 16, f 18, f 20, f 22, f 24, f 57, f 59, f 61, f 63, f 65, f 68, f 70, f 72, f 74, f 76, f 33, f 36, f 39, f 42, f 45, f 48, f 51, f 54, f 2, f 28, f 30] v 0, fun v => m_nth [f 32, f 35, f 38, f 41, f 44, f 47, f 50, f 53] v 0, fun _ => f 1, fun v => m_nth [f 4, f 15, f 56, f 67] v 0, fun _ => a1, fun _ => 0, fun _ => 0, fun _ => 0, fun _ => f 0, fun _ => f 26, fun v => m_nth [f 6, f 8, f 10, f 12, f 14, f 17, f 19, f 21, f 23, f 25, f 58, f 60, f 62, f 64, f 66, f 69, f 71, f 73, f 75, f 77, f 34, f 37, f 40, f 43, f 46, f 49, f 52, f 55, f 3, f 29, f 31] v 0, fun v => m_nth [g 0, g 1, g 2, g 3, g 4, g 5, g 8, g 9] v 0, fun _ => g 6, fun _ => g 7, st, adK, fun _ => b, adV] c (fun _ => 0)
def b_cls (k k1 : Nat → ClassId) (c : Nat) : Nat → ClassId := m_nth [fun _ => k 0, fun _ => k 12, fun v => m_nth [k 2, k 3, k 4, k 5, k 6, k 7, k 8, k 9, k 10, k 11, k 23, k 24, k 25, k 26, k 27, k 28, k 29, k 30, k 31, k 32, k 15, k 16, k 17, k 18, k 19, k 20, k 21, k 22, k 1, k 13, k 14] v (k 0), fun v => m_nth [k1 0, k1 1, k1 2, k1 3, k1 4, k1 5, k1 8, k1 9] v (k 0), fun _ => k1 6, fun _ => k1 7] (c - 10) (fun _ => k 0)
def b_G (D : va_G) (a0 a1 b : Nat) (f g st adK adV : Nat → Nat) (k k1 : Nat → ClassId) (fz : Value) : m_G := (D, b_adr a0 a1 b f g st adK adV, b_cls k k1, fz)
def b_ol : List (Nat × Nat) := [(0, 0), (10, 0), (4, 0), (2, 28), (12, 28), (5, 0), (2, 0), (12, 0), (2, 1), (12, 1), (2, 2), (12, 2), (2, 3), (12, 3), (2, 4), (12, 4), (5, 1), (2, 5), (12, 5), (2, 6), (12, 6), (2, 7), (12, 7), (2, 8), (12, 8), (2, 9), (12, 9), (11, 0), (1, 0), (2, 29), (12, 29), (2, 30), (12, 30), (3, 0), (2, 20), (12, 20), (3, 1), (2, 21), (12, 21), (3, 2), (2, 22), (12, 22), (3, 3), (2, 23), (12, 23), (3, 4), (2, 24), (12, 24), (3, 5), (2, 25), (12, 25), (3, 6), (2, 26), (12, 26), (3, 7), (2, 27), (12, 27), (5, 2), (2, 10), (12, 10), (2, 11), (12, 11), (2, 12), (12, 12), (2, 13), (12, 13), (2, 14), (12, 14), (5, 3), (2, 15), (12, 15), (2, 16), (12, 16), (2, 17), (12, 17), (2, 18), (12, 18), (2, 19), (12, 19), (6, 0), (13, 0), (13, 1), (13, 2), (13, 3), (13, 4), (13, 5), (14, 0), (15, 0), (13, 6), (13, 7)]
theorem b_ol_eq : m_objs = b_ol := by decide +kernel
def b_al : List (Nat × Nat) := [(10, 0), (12, 28), (12, 0), (12, 1), (12, 2), (12, 3), (12, 4), (12, 5), (12, 6), (12, 7), (12, 8), (12, 9), (11, 0), (12, 29), (12, 30), (12, 20), (12, 21), (12, 22), (12, 23), (12, 24), (12, 25), (12, 26), (12, 27), (12, 10), (12, 11), (12, 12), (12, 13), (12, 14), (12, 15), (12, 16), (12, 17), (12, 18), (12, 19), (13, 0), (13, 1), (13, 2), (13, 3), (13, 4), (13, 5), (14, 0), (15, 0), (13, 6), (13, 7)]
theorem b_al_eq : m_arrs = b_al := by decide +kernel
/-- all that is made -/
def b_W (a0 a1 : Nat) (f g : Nat → Nat) (k k1 : Nat → ClassId) : va_W := (a0, b_E0 f k) :: (b_W0 f k ++ ((a1, b_E6 g k1) :: b_W6 g k1))
set_option maxRecDepth 100000 in
set_option maxHeartbeats 4000000 in
theorem b_tys {D : va_G} {a0 a1 b : Nat} {f g st adK adV : Nat → Nat} {k k1 : Nat → ClassId} {fz : Value} : m_tys (b_G D a0 a1 b f g st adK adV k k1 fz) = b_L0 k ++ b_L6 k1 := by
  unfold m_tys
  rw [b_al_eq]
  rfl
set_option maxRecDepth 100000 in
set_option maxHeartbeats 4000000 in
theorem b_ws {E : m_E} {D : va_G} {a0 a1 b : Nat} {f g st adK adV : Nat → Nat} {k k1 : Nat → ClassId} {fz : Value} : m_ws (b_G D a0 a1 b f g st adK adV k k1 fz) E b_σ = (((b_W a0 a1 f g k k1).set 1 (f 0, .inl (k 0, 8, m_con (b_G D a0 a1 b f g st adK adV k k1 fz) b_σ 10 0))).set 27 (f 26, .inl (k 12, 2, m_con (b_G D a0 a1 b f g st adK adV k k1 fz) b_σ 11 0))).set 80 (g 0, .inl (k1 0, 8, m_con (b_G D a0 a1 b f g st adK adV k k1 fz) b_σ 13 0)) := by
  unfold m_ws
  rw [b_ol_eq]
  rfl
