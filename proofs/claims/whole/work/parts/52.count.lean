/-! pair count -/
theorem m_sw_none {pc : Nat} {x : Int} {K : Nat → Prop} : ∀ (os : List Int) (lo : Int), (x < lo ∨ lo + os.length ≤ x) → m_sw pc x K lo os
  | [], _, _ => trivial
  | o :: os, lo, h => by
    have h2 : x < lo ∨ lo + (os.length + 1) ≤ x := by simpa using h
    exact ⟨fun q => absurd q (by omega), m_sw_none os (lo + 1) (by omega)⟩
theorem m_sw_pick {pc : Nat} {x : Int} {K : Nat → Prop} : ∀ (os : List Int) (lo : Int) (k : Nat) (o : Int), os[k]? = some o → x = lo + k → K (Int.toNat ((pc : Int) + o)) → m_sw pc x K lo os
  | o' :: os, lo, 0, o, h, hx, hK => by
    have e : o' = o := Option.some.inj h
    subst e
    exact ⟨fun _ => hK, m_sw_none os (lo + 1) (by omega)⟩
  | o' :: os, lo, k + 1, o, h, hx, hK => ⟨fun q => absurd q (by omega), m_sw_pick os (lo + 1) k o h (by rw [hx]; push_cast; omega) hK⟩
def q_cn (σ : m_M) : Nat → Int32
  | 0 => 0
  | t + 1 => if σ.1 3 t 1 = 0 then q_cn σ t else q_cn σ t + 1
theorem q_cn_eq {σ τ : m_M} (h : ∀ t, τ.1 3 t 1 = σ.1 3 t 1) : ∀ n, q_cn τ n = q_cn σ n
  | 0 => rfl
  | n + 1 => by
    unfold q_cn
    rw [h n, q_cn_eq h n]
theorem s_ccn {E : m_E} {x : Nat} {σ : m_M} {Q : m_F → Prop} (hq : Q (0, [], [vI (q_cn σ 8)], σ)) : m_T E 65535 (x + 1) 41 (0, [some (vR 0 0), none, none, none], [], σ) Q := by
  have key : ∀ n t, t + n = 8 → m_T E 65535 (x + 1) 41 (4, [some (vR 0 0), some (vI (q_cn σ t)), some (vI (nI t)), none], [], σ) Q := by
    intro n
    induction n with
    | zero =>
      intro t ht
      refine m_T_un 40 (fun y pc => Nat.beq y 1 || (Nat.beq y 41 && Nat.beq pc 4)) ?_
      refine ⟨fun _ => ?_, fun c1 => absurd (nI_le (show 8 ≤ t by omega) (by omega)) c1⟩
      obtain rfl : t = 8 := by omega
      exact hq
    | succ n ih =>
      intro t ht
      refine m_T_un 40 (fun y pc => Nat.beq y 1 || (Nat.beq y 41 && Nat.beq pc 4)) ?_
      refine ⟨fun c1 => absurd c1 (nI_ge (show t < 8 by omega) (by decide)), fun _ => ?_⟩
      refine s_rowAt1 t (by omega) rfl ?_
      have e := ih (t + 1) (by omega)
      rw [nI_succ] at e
      refine ⟨fun c => ?_, fun c => ?_⟩
      · have c : σ.1 3 t 1 = 0 := c
        rw [show q_cn σ (t + 1) = q_cn σ t from if_pos c] at e
        refine m_T_mask [true, true, true, false] ?_
        exact e
      · have c : ¬ σ.1 3 t 1 = 0 := c
        rw [show q_cn σ (t + 1) = q_cn σ t + 1 from if_neg c] at e
        refine m_T_mask [true, true, true, false] ?_
        exact e
  refine m_T_un 40 (fun y pc => Nat.beq y 41 && Nat.beq pc 4) ?_
  exact key 8 0 rfl
theorem s_mcn {E : m_E} {x : Nat} {σ : m_M} {Q : m_F → Prop} {a : Int32} (hr : ∀ t, t < 8 → (σ.1 3 t 1 = 0 ↔ σ.1 13 0 t < 0)) (hq : Q (0, [], [vI (q_cn σ 8)], σ)) : m_T E 65535 x 156 (60, [some (vR 6 0), some (vI a), some (vI 0), none], [], σ) Q := by
  have key : ∀ n t, t + n = 8 → m_T E 65535 x 156 (62, [some (vR 6 0), some (vI a), some (vI (q_cn σ t)), some (vI (nI t))], [], σ) Q := by
    intro n
    induction n with
    | zero =>
      intro t ht
      refine m_T_un 40 (fun y pc => (Nat.beq y 156 && Nat.beq pc 62)) ?_
      refine ⟨fun _ => ?_, fun c1 => absurd (nI_le (show 8 ≤ t by omega) (by omega)) c1⟩
      obtain rfl : t = 8 := by omega
      exact hq
    | succ n ih =>
      intro t ht
      refine m_T_un 40 (fun y pc => (Nat.beq y 156 && Nat.beq pc 62)) ?_
      refine ⟨fun c1 => absurd c1 (nI_ge (show t < 8 by omega) (by decide)), fun _ => ⟨k_in (n := 8) (show t < 8 by omega) (by decide), ?_⟩⟩
      have e := ih (t + 1) (by omega)
      rw [nI_succ] at e
      refine ⟨fun c => ?_, fun c => ?_⟩
      · have c : σ.1 13 0 (nI t).toNatClampNeg < 0 := c
        rw [k_cl (by omega)] at c
        rw [show q_cn σ (t + 1) = q_cn σ t from if_pos ((hr t (by omega)).mpr c), show q_cn σ t = q_cn σ t + Int32.ofInt 0 from (Int32.add_zero _).symm] at e
        exact e
      · have c : ¬ σ.1 13 0 (nI t).toNatClampNeg < 0 := c
        rw [k_cl (by omega)] at c
        rw [show q_cn σ (t + 1) = q_cn σ t + 1 from if_neg (fun q => c ((hr t (by omega)).mp q))] at e
        exact e
  refine m_T_un 40 (fun y pc => Nat.beq y 156 && Nat.beq pc 62) ?_
  exact key 8 0 rfl
theorem p_count {E : m_E} {D : Nat} {σ : m_M} (hD : D < 512) (hs : q_sim D σ) (a : Int32) : q_pair E D 40 156 [vI a] σ := by
  have hs2 : q_sim (D + 1) (m_up σ 6 0 0 (Int32.ofInt 0)) := z_thr (q_sim_more (Nat.le_succ D) hs)
  obtain ⟨N, m, w, c, d, L, K, R, H, -, c1, -, -⟩ := q_town0 hs.2.2.2.2.2.1
  obtain ⟨L', -, t1, t2, -⟩ := hs.2.2.2.1
  refine m_T_un 60 (fun y pc => Nat.beq y 41) ?_
  by_cases hr : 0 ≤ a.toInt ∧ a.toInt < (9 : Nat)
  · obtain ⟨k, hk, rfl⟩ := k_of hr.1 hr.2
    obtain rfl | rfl | rfl | rfl | rfl | rfl | rfl | rfl | rfl : k = 0 ∨ k = 1 ∨ k = 2 ∨ k = 3 ∨ k = 4 ∨ k = 5 ∨ k = 6 ∨ k = 7 ∨ k = 8 := by omega
    · refine ⟨m_sw_pick _ _ 0 _ rfl (by decide) (s_ccn ⟨_, rfl, ?_⟩), fun q => absurd q (by decide)⟩
      refine m_T_un 60 (fun y pc => Nat.beq y 156 && Nat.beq pc 60) ?_
      refine ⟨m_sw_pick _ _ 0 _ rfl (by decide) (s_mcn (fun t ht => ?_) ⟨z_v (q_cn_eq (fun _ => rfl) 8), hs2⟩), fun q => absurd q (by decide)⟩
      show σ.1 3 t 1 = 0 ↔ σ.1 13 0 t < 0
      obtain ⟨_, _, _, _, e, _⟩ := hs.1 t ht
      rcases e with ⟨e1, e2⟩ | ⟨e1, d, d2, _, e2⟩
      · rw [e1, e2]; decide
      · rw [e1, e2]
        exact ⟨fun q => absurd q (by decide), fun q => absurd q (nI_pos (by omega))⟩
    · refine ⟨m_sw_pick _ _ 1 _ rfl (by decide) ⟨_, rfl, ?_⟩, fun q => absurd q (by decide)⟩
      refine m_T_un 60 m_no ?_
      refine ⟨m_sw_pick _ _ 1 _ rfl (by decide) ⟨k_in (k := 7) (n := 309) (by decide) (by decide), z_v (c1 7 (by omega)).symm, hs2⟩, fun q => absurd q (by decide)⟩
    · refine ⟨m_sw_pick _ _ 2 _ rfl (by decide) ⟨_, rfl, ?_⟩, fun q => absurd q (by decide)⟩
      refine m_T_un 60 m_no ?_
      refine ⟨m_sw_pick _ _ 2 _ rfl (by decide) ⟨k_in (k := 8) (n := 309) (by decide) (by decide), z_v (c1 8 (by omega)).symm, hs2⟩, fun q => absurd q (by decide)⟩
    · refine ⟨m_sw_pick _ _ 3 _ rfl (by decide) ⟨_, rfl, ?_⟩, fun q => absurd q (by decide)⟩
      refine m_T_un 60 m_no ?_
      refine ⟨m_sw_pick _ _ 3 _ rfl (by decide) ⟨k_in (k := 4) (n := 309) (by decide) (by decide), z_v (c1 4 (by omega)).symm, hs2⟩, fun q => absurd q (by decide)⟩
    · refine ⟨m_sw_pick _ _ 4 _ rfl (by decide) ⟨_, rfl, ?_⟩, fun q => absurd q (by decide)⟩
      refine m_T_un 60 m_no ?_
      refine ⟨m_sw_pick _ _ 4 _ rfl (by decide) ⟨k_in (k := 1) (n := 309) (by decide) (by decide), z_v (c1 1 (by omega)).symm, hs2⟩, fun q => absurd q (by decide)⟩
    · refine ⟨m_sw_pick _ _ 5 _ rfl (by decide) ⟨_, rfl, ?_⟩, fun q => absurd q (by decide)⟩
      refine m_T_un 60 m_no ?_
      refine ⟨m_sw_pick _ _ 5 _ rfl (by decide) ⟨k_in (k := 5) (n := 309) (by decide) (by decide), z_v (c1 5 (by omega)).symm, hs2⟩, fun q => absurd q (by decide)⟩
    · refine ⟨m_sw_pick _ _ 6 _ rfl (by decide) ⟨_, rfl, ?_⟩, fun q => absurd q (by decide)⟩
      refine m_T_un 60 m_no ?_
      refine ⟨m_sw_pick _ _ 6 _ rfl (by decide) ⟨k_in (k := 6) (n := 309) (by decide) (by decide), z_v (c1 6 (by omega)).symm, hs2⟩, fun q => absurd q (by decide)⟩
    · refine ⟨m_sw_pick _ _ 7 _ rfl (by decide) ⟨_, rfl, ?_⟩, fun q => absurd q (by decide)⟩
      refine m_T_un 60 m_no ?_
      refine ⟨m_sw_pick _ _ 7 _ rfl (by decide) ⟨k_in (k := 3) (n := 309) (by decide) (by decide), z_v (c1 3 (by omega)).symm, hs2⟩, fun q => absurd q (by decide)⟩
    · refine ⟨m_sw_pick _ _ 8 _ rfl (by decide) ⟨_, rfl, ?_⟩, fun q => absurd q (by decide)⟩
      refine m_T_un 60 m_no ?_
      refine ⟨m_sw_pick _ _ 8 _ rfl (by decide) ⟨z_v (t2.trans t1.symm), hs2⟩, fun q => absurd q (by decide)⟩
  · refine ⟨m_sw_none _ _ (show a.toInt < 0 ∨ (0 : Int) + (9 : Nat) ≤ a.toInt by omega), fun _ => ⟨_, rfl, ?_⟩⟩
    refine m_T_un 60 m_no ?_
    exact ⟨m_sw_none _ _ (show a.toInt < 0 ∨ (0 : Int) + (9 : Nat) ≤ a.toInt by omega), fun _ => ⟨rfl, hs2⟩⟩
