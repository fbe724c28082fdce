/-! soundness -/
theorem m_num_eq : m_num = 169 := rfl
set_option maxHeartbeats 4000000 in
theorem m_step {l : Launch} {G : m_G} {E : m_E} {A : Nat → Prop} (hz : m_hz G) (hD : ∀ σ, va_D A (m_ws G E σ)) : m_closed E (m_Snd l G E A) := by
  intro stop r y fr Q h
  obtain ⟨pc, ls, st, σ⟩ := fr
  intro p e R s m args below meth c cells slots QF hC hr hs H locs la hP hS hl hL hT
  unfold m_wq at h
  dsimp only at h hP hl hL hT ⊢
  cases hst : Nat.beq pc stop with
  | true =>
    rw [hst] at h
    cases h65 : Nat.beq stop 65535 with
    | true => rw [h65] at h; exact h.elim
    | false =>
      rw [h65] at h
      have e := m_beq hst
      subst e
      exact hs (by intro q; rw [q] at h65; cases h65) σ H locs la ls st hP hS hl hL hT h
  | false =>
    rw [hst] at h
    cases hf : m_fetch y pc with
    | none => rw [hf] at h; exact h.elim
    | some e0 =>
      rw [hf] at h
      obtain ⟨i, n, a, b⟩ := e0
      obtain ⟨len, hd, hn, hil, hc2⟩ := m_dec hf
      dsimp only at hd hn hil
      subst hn
      have go : m_Go l G E A y p e R s m args below meth c cells slots QF (fun f => m_Snd l G E A stop r y f Q) := fun {n' ls' st' σ'} h' hL' hT' {H' locs' la'} hP' hS' hl' => h' p e R s m args below meth c cells slots QF hC hr hs H' locs' la' hP' hS' hl' hL' hT'
      obtain ⟨hx, hb, hml, hown, hts, hK, hRO, hfr, hlo, hcc, hss⟩ := id hC
      change m_sem m_oc m_max E (m_rt y) (fun f => m_Snd l G E A stop r y f Q) (m_cl_ok l G E A stop r y σ Q) Q (i, pc + len, a, b) pc ls st σ at h
      have l1 : m_il i = 1 → len = 1 := fun q => by rw [q] at hil; exact m_ln hil (by decide)
      have l2 : m_il i = 2 → len = 2 := fun q => by rw [q] at hil; exact m_ln hil (by decide)
      have l3 : m_il i = 3 → len = 3 := fun q => by rw [q] at hil; exact m_ln hil (by decide)
      cases i
      case iconst k => obtain rfl := l1 rfl; exact lv_iconst hx hb hd rfl (go h hL (m_okS_c rfl hT) hP hS hl)
      case bipush k => obtain rfl := l2 rfl; exact lv_bipush hx hb hd rfl (go h hL (m_okS_c rfl hT) hP hS hl)
      case sipush k => obtain rfl := l3 rfl; exact lv_sipush hx hb hd rfl (go h hL (m_okS_c rfl hT) hP hS hl)
      case lconst k => obtain rfl := l1 rfl; exact lv_lconst hx hb hd rfl (go h hL (m_okS_c rfl hT) hP hS hl)
      case ldc k =>
        obtain rfl := l2 rfl
        have hc2 : cond (Nat.beq a 0) (m_has4 m_cpc (m_oc y) k b) (m_has4 m_cps (m_oc y) k b) = true := hc2
        have h : cond (Nat.beq a 0) (m_Snd l G E A stop r y (pc + 2, ls, vI (m_nth m_kI b 0) :: st, σ) Q) (m_Snd l G E A stop r y (pc + 2, ls, vR 17 b :: st, σ) Q) := h
        cases ha : Nat.beq a 0 with
        | true =>
          rw [ha] at hc2 h
          obtain ⟨q, hm⟩ := m_has4_of hc2
          exact lv_ldc hx hb hown (hts _ (m_in_of (List.all_eq_true.mp m_wc _ hm))) hd (go h hL (m_okS_c rfl hT) hP hS hl)
        | false =>
          rw [ha] at hc2 h
          obtain ⟨q, hm⟩ := m_has4_of hc2
          have hr7 : ∀ e ∈ m_cps, vk_R (m_on e.1) e.2.1 (m_tx e.2.2.1) (G.2.1 17 e.2.2.1) s := hRO.2.2.2.2.2.2.1
          have hz2 : vk_R (m_on (m_oc y)) k (m_tx b) (G.2.1 17 b) s := hr7 (m_oc y, k, b, q) hm
          have hb10 : m_vo (vR 17 b) = true := List.all_eq_true.mp m_cps_lt (m_oc y, k, b, q) hm
          have hgo := go h hL (m_okS_c hb10 hT) hP hS hl
          exact va_ldcS hx hb hown hz2 hd hgo
      case ldc_w k =>
        obtain rfl := l3 rfl
        obtain ⟨q, hm⟩ := m_has4_of hc2
        exact lv_ldcw hx hb hown (hts _ (m_in_of (List.all_eq_true.mp m_wc _ hm))) hd (go h hL (m_okS_c rfl hT) hP hS hl)
      case ldc2_w k =>
        obtain rfl := l3 rfl
        obtain ⟨q, hm⟩ := m_has4_of hc2
        exact lv_ldc2 hx hb hown (hts _ (m_in_of (List.all_eq_true.mp m_wl _ hm))) hd (go h hL (m_okS_c rfl hT) hP hS hl)
      case aconst_null => obtain rfl := l1 rfl; exact lv_null hx hb hd (go h hL (m_okS_c rfl hT) hP hS hl)
      case iload k => obtain rfl := l2 rfl; obtain ⟨x, hk, hh⟩ := m_ldI_el h; clear h; have h := hh; exact lv_iload hx hb hd (m_has_at hl hk) (go h hL (m_okS_c rfl hT) hP hS hl)
      case iload_n k => obtain rfl := l1 rfl; obtain ⟨x, hk, hh⟩ := m_ldI_el h; clear h; have h := hh; exact lv_iload_n hx hb hd rfl (m_has_at hl hk) (go h hL (m_okS_c rfl hT) hP hS hl)
      case lload k => obtain rfl := l2 rfl; obtain ⟨x, hk, hh⟩ := m_ldL_el h; clear h; have h := hh; exact lv_lload hx hb hd (m_has_at hl hk) (go h hL (m_okS_c rfl hT) hP hS hl)
      case lload_n k => obtain rfl := l1 rfl; obtain ⟨x, hk, hh⟩ := m_ldL_el h; clear h; have h := hh; exact lv_lload_n hx hb hd rfl (m_has_at hl hk) (go h hL (m_okS_c rfl hT) hP hS hl)
      case aload k => obtain rfl := l2 rfl; obtain ⟨x, hk, hh⟩ := m_ldR_el h; clear h; have h := hh; exact m_aload hz hx hb hd (m_has_at hl hk) (go h hL (m_okS_c (hL _ _ hk) hT) hP hS hl)
      case aload_n k => obtain rfl := l1 rfl; obtain ⟨x, hk, hh⟩ := m_ldR_el h; clear h; have h := hh; exact m_aload_n hz hx hb hd (m_has_at hl hk) (go h hL (m_okS_c (hL _ _ hk) hT) hP hS hl)
      case istore k => obtain rfl := l2 rfl; obtain ⟨x, t, rfl, hh⟩ := m_i1_el h; clear h; have h := hh; exact lv_istore hx hb hd hl (m_c_lt hc2) rfl (fun la' hl' => go h (m_okL_st hL rfl) (m_okS_t hT) hP hS (m_has_sub hl' (m_st_sub hz)))
      case istore_n k => obtain rfl := l1 rfl; obtain ⟨x, t, rfl, hh⟩ := m_i1_el h; clear h; have h := hh; exact lv_istore_n hx hb hd rfl hl (m_c_lt hc2) rfl (fun la' hl' => go h (m_okL_st hL rfl) (m_okS_t hT) hP hS (m_has_sub hl' (m_st_sub hz)))
      case lstore k => obtain rfl := l2 rfl; obtain ⟨x, t, rfl, hh⟩ := m_l1_el h; clear h; have h := hh; exact lv_lstore hx hb hd hl (m_c_lt hc2) rfl (fun la' hl' => go h (m_okL_stL hL) (m_okS_t hT) hP hS (m_has_sub hl' (m_stL_sub hz)))
      case lstore_n k => obtain rfl := l1 rfl; obtain ⟨x, t, rfl, hh⟩ := m_l1_el h; clear h; have h := hh; exact lv_lstore_n hx hb hd rfl hl (m_c_lt hc2) rfl (fun la' hl' => go h (m_okL_stL hL) (m_okS_t hT) hP hS (m_has_sub hl' (m_stL_sub hz)))
      case astore k => obtain rfl := l2 rfl; obtain ⟨x, t, rfl, hh⟩ := m_rn_el h; clear h; have h := hh; exact m_astore hz hx hb hd hl (m_c_lt hc2) (fun la' hl' => go h (m_okL_st hL (m_okS_h hT)) (m_okS_t hT) hP hS hl')
      case astore_n k => obtain rfl := l1 rfl; obtain ⟨x, t, rfl, hh⟩ := m_rn_el h; clear h; have h := hh; exact m_astore_n hz hx hb hd hl (m_c_lt hc2) (fun la' hl' => go h (m_okL_st hL (m_okS_h hT)) (m_okS_t hT) hP hS hl')
      case iinc k d =>
        obtain rfl := l3 rfl
        obtain ⟨x, hk, hh⟩ := m_ldI_el h; clear h; have h := hh
        have hmem := m_lvp_of (G := G) ls 0 k _ hk
        rw [Nat.zero_add] at hmem
        obtain ⟨j, hj⟩ := List.getElem?_of_mem hmem
        exact lv_iinc hx hb hd hl hj rfl (m_c_lt hc2) rfl (fun la' hl' => go h (m_okL_st hL rfl) hT hP hS (m_has_sub hl' (m_st_sub hz)))
      case iadd => obtain rfl := l1 rfl; obtain ⟨x, x2, t, rfl, hh⟩ := m_i2_el h; clear h; have h := hh; exact lv_iadd hx hb hd (go h hL (m_okS_c rfl (m_okS_t (m_okS_t hT))) hP hS hl)
      case isub => obtain rfl := l1 rfl; obtain ⟨x, x2, t, rfl, hh⟩ := m_i2_el h; clear h; have h := hh; exact lv_isub hx hb hd (go h hL (m_okS_c rfl (m_okS_t (m_okS_t hT))) hP hS hl)
      case imul => obtain rfl := l1 rfl; obtain ⟨x, x2, t, rfl, hh⟩ := m_i2_el h; clear h; have h := hh; exact lv_imul hx hb hd (go h hL (m_okS_c rfl (m_okS_t (m_okS_t hT))) hP hS hl)
      case idiv => obtain rfl := l1 rfl; obtain ⟨x, x2, t, rfl, h0, hh⟩ := m_i2_el h; clear h; have h := hh; exact lv_idiv hx hb hd h0 (go h hL (m_okS_c rfl (m_okS_t (m_okS_t hT))) hP hS hl)
      case irem => obtain rfl := l1 rfl; obtain ⟨x, x2, t, rfl, h0, hh⟩ := m_i2_el h; clear h; have h := hh; exact lv_irem hx hb hd h0 (go h hL (m_okS_c rfl (m_okS_t (m_okS_t hT))) hP hS hl)
      case iand => obtain rfl := l1 rfl; obtain ⟨x, x2, t, rfl, hh⟩ := m_i2_el h; clear h; have h := hh; exact lv_iand hx hb hd (go h hL (m_okS_c rfl (m_okS_t (m_okS_t hT))) hP hS hl)
      case ior => obtain rfl := l1 rfl; obtain ⟨x, x2, t, rfl, hh⟩ := m_i2_el h; clear h; have h := hh; exact lv_ior hx hb hd (go h hL (m_okS_c rfl (m_okS_t (m_okS_t hT))) hP hS hl)
      case ishl => obtain rfl := l1 rfl; obtain ⟨x, x2, t, rfl, hh⟩ := m_i2_el h; clear h; have h := hh; exact lv_ishl hx hb hd (go h hL (m_okS_c rfl (m_okS_t (m_okS_t hT))) hP hS hl)
      case ishr => obtain rfl := l1 rfl; obtain ⟨x, x2, t, rfl, hh⟩ := m_i2_el h; clear h; have h := hh; exact lv_ishr hx hb hd (go h hL (m_okS_c rfl (m_okS_t (m_okS_t hT))) hP hS hl)
      case ineg => obtain rfl := l1 rfl; obtain ⟨x, t, rfl, hh⟩ := m_i1_el h; clear h; have h := hh; exact lv_ineg hx hb hd (go h hL (m_okS_c rfl (m_okS_t hT)) hP hS hl)
      case i2l => obtain rfl := l1 rfl; obtain ⟨x, t, rfl, hh⟩ := m_i1_el h; clear h; have h := hh; exact lv_i2l hx hb hd rfl (go h hL (m_okS_c rfl (m_okS_t hT)) hP hS hl)
      case i2b => obtain rfl := l1 rfl; obtain ⟨x, t, rfl, hh⟩ := m_i1_el h; clear h; have h := hh; exact lv_i2b hx hb hd rfl (go h hL (m_okS_c rfl (m_okS_t hT)) hP hS hl)
      case i2s => obtain rfl := l1 rfl; obtain ⟨x, t, rfl, hh⟩ := m_i1_el h; clear h; have h := hh; exact lv_i2s hx hb hd rfl (go h hL (m_okS_c rfl (m_okS_t hT)) hP hS hl)
      case i2c => obtain rfl := l1 rfl; obtain ⟨x, t, rfl, hh⟩ := m_i1_el h; clear h; have h := hh; exact lv_i2c hx hb hd rfl (go h hL (m_okS_c rfl (m_okS_t hT)) hP hS hl)
      case l2i => obtain rfl := l1 rfl; obtain ⟨x, t, rfl, hh⟩ := m_l1_el h; clear h; have h := hh; exact lv_l2i hx hb hd rfl (go h hL (m_okS_c rfl (m_okS_t hT)) hP hS hl)
      case ladd => obtain rfl := l1 rfl; obtain ⟨x, x2, t, rfl, hh⟩ := m_l2_el h; clear h; have h := hh; exact lv_ladd hx hb hd (go h hL (m_okS_c rfl (m_okS_t (m_okS_t hT))) hP hS hl)
      case land => obtain rfl := l1 rfl; obtain ⟨x, x2, t, rfl, hh⟩ := m_l2_el h; clear h; have h := hh; exact lv_land hx hb hd (go h hL (m_okS_c rfl (m_okS_t (m_okS_t hT))) hP hS hl)
      case lor => obtain rfl := l1 rfl; obtain ⟨x, x2, t, rfl, hh⟩ := m_l2_el h; clear h; have h := hh; exact lv_lor hx hb hd (go h hL (m_okS_c rfl (m_okS_t (m_okS_t hT))) hP hS hl)
      case ldiv => obtain rfl := l1 rfl; obtain ⟨x, x2, t, rfl, h0, hh⟩ := m_l2_el h; clear h; have h := hh; exact lv_ldiv hx hb hd h0 (go h hL (m_okS_c rfl (m_okS_t (m_okS_t hT))) hP hS hl)
      case lrem => obtain rfl := l1 rfl; obtain ⟨x, x2, t, rfl, h0, hh⟩ := m_l2_el h; clear h; have h := hh; exact lv_lrem hx hb hd h0 (go h hL (m_okS_c rfl (m_okS_t (m_okS_t hT))) hP hS hl)
      case lcmp => obtain rfl := l1 rfl; obtain ⟨x, x2, t, rfl, hh⟩ := m_l2_el h; clear h; have h := hh; exact W.lcmp hx hb hd (go h hL (m_okS_c rfl (m_okS_t (m_okS_t hT))) hP hS hl)
      case lshl => obtain rfl := l1 rfl; obtain ⟨x, x2, t, rfl, hh⟩ := m_li_el h; clear h; have h := hh; exact lv_lshl hx hb hd rfl (go h hL (m_okS_c rfl (m_okS_t (m_okS_t hT))) hP hS hl)
      case lshr => obtain rfl := l1 rfl; obtain ⟨x, x2, t, rfl, hh⟩ := m_li_el h; clear h; have h := hh; exact lv_lshr hx hb hd rfl (go h hL (m_okS_c rfl (m_okS_t (m_okS_t hT))) hP hS hl)
      case lushr => obtain rfl := l1 rfl; obtain ⟨x, x2, t, rfl, hh⟩ := m_li_el h; clear h; have h := hh; exact lv_lushr hx hb hd rfl (go h hL (m_okS_c rfl (m_okS_t (m_okS_t hT))) hP hS hl)
      case dup =>
        obtain rfl := l1 rfl
        rcases st with _ | ⟨v, t⟩
        · exact h.elim
        · have h : cond (Nat.beq (m_cat v) 1) (m_Snd l G E A stop r y (pc + 1, ls, v :: v :: t, σ) Q) False := h
          cases hc : Nat.beq (m_cat v) 1 with
          | false => rw [hc] at h; exact h.elim
          | true => rw [hc] at h; exact lv_dup hx hb hd (by rw [m_cv_cat hz]; exact m_beq hc) (go h hL (m_okS_c (m_okS_h hT) hT) hP hS hl)
      case dup2 =>
        obtain rfl := l1 rfl
        rcases st with _ | ⟨v, _ | ⟨w, t⟩⟩
        · exact h.elim
        · exact h.elim
        · have h : cond (Nat.beq (m_cat v) 1 && Nat.beq (m_cat w) 1) (m_Snd l G E A stop r y (pc + 1, ls, v :: w :: v :: w :: t, σ) Q) False := h
          cases hc : (Nat.beq (m_cat v) 1 && Nat.beq (m_cat w) 1) with
          | false => rw [hc] at h; exact h.elim
          | true =>
            rw [hc] at h
            rw [Bool.and_eq_true] at hc
            exact lv_dup2_11 hx hb hd (by rw [m_cv_cat hz]; exact m_beq hc.1) (by rw [m_cv_cat hz]; exact m_beq hc.2) (go h hL (m_okS_c (m_okS_h hT) (m_okS_c (m_okS_h (m_okS_t hT)) hT)) hP hS hl)
      case pop =>
        obtain rfl := l1 rfl
        rcases st with _ | ⟨v, t⟩
        · exact h.elim
        · have h : cond (Nat.beq (m_cat v) 1) (m_Snd l G E A stop r y (pc + 1, ls, t, σ) Q) False := h
          cases hc : Nat.beq (m_cat v) 1 with
          | false => rw [hc] at h; exact h.elim
          | true => rw [hc] at h; exact lv_pop hx hb hd (by rw [m_cv_cat hz]; exact m_beq hc) (go h hL (m_okS_t hT) hP hS hl)
      case goto o => obtain rfl := l3 rfl; exact lv_goto hx hb hd (of_decide_eq_true hc2) (go h hL hT hP hS hl)
      case ifCond cnd o => obtain rfl := l3 rfl; exact m_s_if (K := fun f => m_Snd l G E A stop r y f Q) (b := b) hx hb @go hL hT hP hS hl hd (of_decide_eq_true hc2) h
      case if_icmp cnd o => obtain rfl := l3 rfl; exact m_s_icmp (K := fun f => m_Snd l G E A stop r y f Q) (b := b) hx hb @go hL hT hP hS hl hd (of_decide_eq_true hc2) h
      case ifnull o =>
        obtain rfl := l3 rfl
        obtain ⟨q, t, rfl, hh⟩ := m_rn_el h; clear h; have h := hh
        cases q with
        | none => exact lv_ifnullN hx hb hd (of_decide_eq_true hc2) (go h hL (m_okS_t hT) hP hS hl)
        | some q =>
          obtain ⟨c', v⟩ := q
          have h : cond (Nat.beq c' 20) False (m_Snd l G E A stop r y (pc + 3, ls, t, σ) Q) := h
          cases hc : Nat.beq c' 20 with
          | true => rw [hc] at h; exact h.elim
          | false =>
            rw [hc] at h
            rw [List.map_cons, show m_cv G (.inr (.inr (some (c', v)))) = .ref (G.2.1 c' v) from m_cv_r (m_beqf hc)]
            exact lv_ifnull hx hb hd (go h hL (m_okS_t hT) hP hS hl)
      case ifnonnull o =>
        obtain rfl := l3 rfl
        obtain ⟨q, t, rfl, hh⟩ := m_rn_el h; clear h; have h := hh
        cases q with
        | none => exact lv_ifnonnullN hx hb hd (go h hL (m_okS_t hT) hP hS hl)
        | some q =>
          obtain ⟨c', v⟩ := q
          have h : cond (Nat.beq c' 20) False (m_Snd l G E A stop r y (b, ls, t, σ) Q) := h
          cases hc : Nat.beq c' 20 with
          | true => rw [hc] at h; exact h.elim
          | false =>
            rw [hc] at h
            rw [List.map_cons, show m_cv G (.inr (.inr (some (c', v)))) = .ref (G.2.1 c' v) from m_cv_r (m_beqf hc)]
            exact lv_ifnonnull hx hb hd (of_decide_eq_true hc2) (go h hL (m_okS_t hT) hP hS hl)
      case tableswitch d lo hi os => exact m_s_sw (K := fun f => m_Snd l G E A stop r y f Q) hx hb @go hL hT hP hS hl hd hc2 h
      case getfield k => obtain rfl := l3 rfl; exact m_s_getfield (K := fun f => m_Snd l G E A stop r y f Q) (a := a) (b := b) hz hC @go hL hT hP hS hl hd hc2 h
      case putfield k => obtain rfl := l3 rfl; exact m_s_putfield (K := fun f => m_Snd l G E A stop r y f Q) (a := a) (b := b) hz hD hC @go hL hT hP hS hl hd hc2 h
      case getstatic k => obtain rfl := l3 rfl; exact m_s_getstatic (K := fun f => m_Snd l G E A stop r y f Q) (a := a) (b := b) hz hC @go hL hT hP hS hl hd hc2 h
      case arraylength => obtain rfl := l1 rfl; exact m_s_alen (K := fun f => m_Snd l G E A stop r y f Q) hz hC @go hL hT hP hS hl hd h
      case iaload => obtain rfl := l1 rfl; exact m_s_iald (K := fun f => m_Snd l G E A stop r y f Q) hz hC @go hL hT hP hS hl hd h
      case baload => obtain rfl := l1 rfl; exact m_s_bald (K := fun f => m_Snd l G E A stop r y f Q) hz hC @go hL hT hP hS hl hd h
      case laload => obtain rfl := l1 rfl; exact m_s_lald (K := fun f => m_Snd l G E A stop r y f Q) hz hC @go hL hT hP hS hl hd h
      case aaload => obtain rfl := l1 rfl; exact m_s_aald (K := fun f => m_Snd l G E A stop r y f Q) hz hC @go hL hT hP hS hl hd h
      case iastore => obtain rfl := l1 rfl; exact m_s_iast (K := fun f => m_Snd l G E A stop r y f Q) hz hD hC @go hL hT hP hS hl hd h
      case bastore => obtain rfl := l1 rfl; exact m_s_bast (K := fun f => m_Snd l G E A stop r y f Q) hz hD hC @go hL hT hP hS hl hd h
      case lastore => obtain rfl := l1 rfl; exact m_s_last (K := fun f => m_Snd l G E A stop r y f Q) hz hD hC @go hL hT hP hS hl hd h
      case invokevirtual k =>
        obtain rfl := l3 rfl
        obtain ⟨q1, q2, q3, q4⟩ := m_c2v hc2
        have h : (match (generalizing := false) m_pop b [] st with
          | some (as, .inr (.inr (some (c, v))) :: st) => cond (Nat.ble (m_catS st) 8 && Nat.beq c (m_oc a) && Nat.ble (m_catS as + 1) (m_max a)) (m_cl_ok l G E A stop r y σ Q a (vR c v :: as) fun rs τ => (pc + 3, ls, rs ++ st, τ)) False
          | _ => False) := h
        split at h
        · next as c' v t hpop =>
          obtain ⟨pre, e1, e2, e3⟩ := m_pop_eq _ _ _ _ _ hpop
          rw [List.append_nil] at e2
          cases hc : (Nat.ble (m_catS t) 8 && Nat.beq c' (m_oc a) && Nat.ble (m_catS as + 1) (m_max a)) with
          | false => rw [hc] at h; exact h.elim
          | true =>
            rw [hc] at h
            simp only [Bool.and_eq_true] at hc
            have hstaL : m_sta 168 = true := rfl
            have ha : a < m_num - 1 := by
              rcases Nat.lt_or_ge a (m_num - 1) with z | z
              · exact z
              · exfalso
                have e : a = 168 := by rw [m_num_eq] at q4 z; omega
                rw [e, hstaL] at q3
                cases q3
            have h160 : m_sta 160 = true := rfl
            have h161 : m_sta 161 = true := rfl
            refine m_s_call (virt := true) (as := vR c' v :: as) (st' := t) hz hC hr hs hL hS hP hl ?_ hT hd q1 ha ⟨fun z => ?_, fun z => ?_⟩ ?_ (by rw [q3]; rfl) (fun _ => ⟨c', v, as, rfl, m_beq hc.1.2⟩) (Nat.le_of_ble_eq_true hc.1.1) ?_ h
            · rw [e1, e2, List.reverse_cons, List.reverse_reverse, List.append_assoc]; rfl
            · rw [z, h160] at q3; cases q3
            · rw [z, h161] at q3; cases q3
            · rw [e2]; simp [e3, q2]
            · have := Nat.le_of_ble_eq_true hc.2
              show 1 + m_catS as ≤ _
              omega
        · exact h.elim
      case invokestatic k =>
        obtain rfl := l3 rfl
        have hc2 : (m_hasM (m_oc y) k a && cond (Nat.beq b 98) (Nat.beq a 160) (cond (Nat.beq b 99) (Nat.beq a 161) (Nat.beq b (m_par a) && !Nat.beq a 160 && !Nat.beq a 161)) && m_sta a && Nat.blt a m_num) = true := hc2
        simp only [Bool.and_eq_true] at hc2
        obtain ⟨⟨⟨q1, q2⟩, q3⟩, q4⟩ := hc2
        obtain ⟨pl, pk, ps, nest, pi, hm, hlaw, -⟩ := m_wmat2 q1
        have h : cond (Nat.beq b 98) (m_i2 (fun x z st => cond (Nat.ble (m_catS st) 8) (m_Snd l G E A stop r y (pc + 3, ls, vI (if x < z then z else x) :: st, σ) Q) False) st) (cond (Nat.beq b 99) (m_i2 (fun x z st => cond (Nat.ble (m_catS st) 8) (m_Snd l G E A stop r y (pc + 3, ls, vI (if z < x then z else x) :: st, σ) Q) False) st) (match (generalizing := false) m_pop b [] st with
          | some (as, st) => cond (Nat.ble (m_catS st) 8 && Nat.ble (m_catS as) (m_max a)) (m_cl_ok l G E A stop r y σ Q a as fun rs τ => (pc + 3, ls, rs ++ st, τ)) False
          | _ => False)) := h
        cases h98 : Nat.beq b 98 with
        | true =>
          rw [h98] at h q2
          cases m_beq q2
          obtain ⟨x, x2, t, rfl, hh⟩ := m_i2_el h; clear h; have h := hh
          cases hc : Nat.ble (m_catS t) 8 with
          | false => rw [hc] at h; exact h.elim
          | true => rw [hc] at h; exact m_s_max hz hC hl hd q1 (Nat.le_of_ble_eq_true hc) (go h hL (m_okS_c rfl (m_okS_t (m_okS_t hT))) hP hS hl)
        | false =>
          rw [h98] at h q2
          cases h99 : Nat.beq b 99 with
          | true =>
            rw [h99] at h q2
            cases m_beq q2
            obtain ⟨x, x2, t, rfl, hh⟩ := m_i2_el h; clear h; have h := hh
            cases hc : Nat.ble (m_catS t) 8 with
            | false => rw [hc] at h; exact h.elim
            | true => rw [hc] at h; exact m_s_min hz hC hl hd q1 (Nat.le_of_ble_eq_true hc) (go h hL (m_okS_c rfl (m_okS_t (m_okS_t hT))) hP hS hl)
          | false =>
            rw [h99] at h q2
            have q2 : (Nat.beq b (m_par a) && !Nat.beq a 160 && !Nat.beq a 161) = true := q2
            simp only [Bool.and_eq_true, Bool.not_eq_true'] at q2
            obtain ⟨⟨p1, p2⟩, p3⟩ := q2
            split at h
            · next as t hpop =>
              obtain ⟨pre, e1, e2, e3⟩ := m_pop_eq _ _ _ _ _ hpop
              rw [List.append_nil] at e2
              cases hc : (Nat.ble (m_catS t) 8 && Nat.ble (m_catS as) (m_max a)) with
              | false => rw [hc] at h; exact h.elim
              | true =>
                rw [hc] at h
                simp only [Bool.and_eq_true] at hc
                have ha : a < m_num - 1 := hlaw
                refine m_s_call (virt := false) (as := as) (st' := t) hz hC hr hs hL hS hP hl ?_ hT hd q1 ha ⟨m_beqf p2, m_beqf p3⟩ ?_ (by rw [q3]; rfl) (fun z => by cases z) (Nat.le_of_ble_eq_true hc.1) (Nat.le_of_ble_eq_true hc.2) h
                · rw [e1, e2, List.reverse_reverse]
                · rw [e2, List.length_reverse, e3]
                  exact m_beq p1
            · exact h.elim
      case ireturn =>
        obtain rfl := l1 rfl
        have h2 : (match (generalizing := false) st with | [.inl x] => m_rok (m_rt y) x (Q (0, [], [vI x], σ)) | _ => False) := h
        clear h
        have h := h2
        clear h2
        split at h
        · next x =>
          have key : ∃ ty, m_rt y = some ty ∧ narrow ty (.int x) = .int x ∧ Q (0, [], [vI x], σ) := by
            unfold m_rok at h
            split at h
            · next q => exact ⟨_, q, rfl, h⟩
            · next q => exact ⟨_, q, by rcases h.1 with z | z <;> rw [z] <;> rfl, h.2⟩
            · next q => exact ⟨_, q, h.1, h.2⟩
            · exact h.elim
          obtain ⟨ty, k1, k2, k3⟩ := key
          exact hr σ H locs pc la [vI x] hP hS hT k3 (Or.inl ⟨x, ty, rfl, k1, k2, hd⟩)
        · exact h.elim
      case lreturn =>
        obtain rfl := l1 rfl
        have h2 : (match (generalizing := false) st with | [.inr (.inl x)] => cond (m_rtL (m_rt y)) (Q (0, [], [vL x], σ)) False | _ => False) := h
        clear h
        have h := h2
        clear h2
        split at h
        · next x =>
          cases hc : m_rtL (m_rt y) with
          | false => rw [hc] at h; exact h.elim
          | true =>
            rw [hc] at h
            have k1 : m_rt y = some .long := by
              unfold m_rtL at hc
              split at hc
              · next q => exact q
              · cases hc
            exact hr σ H locs pc la [vL x] hP hS hT h (Or.inr (Or.inl ⟨x, rfl, k1, hd⟩))
        · exact h.elim
      case areturn =>
        obtain rfl := l1 rfl
        have h2 : (match (generalizing := false) st with | [.inr (.inr r)] => cond (m_rtA (m_rt y)) (Q (0, [], [.inr (.inr r)], σ)) False | _ => False) := h
        clear h
        have h := h2
        clear h2
        split at h
        · next x =>
          cases hc : m_rtA (m_rt y) with
          | false => rw [hc] at h; exact h.elim
          | true =>
            rw [hc] at h
            have k1 : ∃ nm, m_rt y = some (.object nm) := by
              unfold m_rtA at hc
              split at hc
              · next q => exact ⟨_, q⟩
              · cases hc
            obtain ⟨nm, k1⟩ := k1
            exact hr σ H locs pc la [.inr (.inr x)] hP hS hT h (Or.inr (Or.inr (Or.inl ⟨x, nm, rfl, k1, hd⟩)))
        · exact h.elim
      case return_ =>
        obtain rfl := l1 rfl
        have h2 : (match (generalizing := false) st with | [] => cond (m_rtV (m_rt y)) (Q (0, [], [], σ)) False | _ => False) := h
        clear h
        have h := h2
        clear h2
        split at h
        · cases hc : m_rtV (m_rt y) with
          | false => rw [hc] at h; exact h.elim
          | true =>
            rw [hc] at h
            have k1 : m_rt y = none := by
              unfold m_rtV at hc
              split at hc
              · next q => exact q
              · cases hc
            exact hr σ H locs pc la [] hP hS (fun v hv => by cases hv) h (Or.inr (Or.inr (Or.inr ⟨rfl, k1, hd⟩)))
        · exact h.elim
      all_goals exact False.elim h
/-- what the machine does, the byte code does -/
theorem m_sound {l : Launch} {G : m_G} {E : m_E} {A : Nat → Prop} (hz : m_hz G) (hD : ∀ σ, va_D A (m_ws G E σ)) {stop r y : Nat} {fr : m_F} {Q : m_F → Prop} (h : m_T E stop r y fr Q) : m_Snd l G E A stop r y fr Q :=
  h _ (m_Snd_mono l G E A) (m_step hz hD) (m_Snd_forget l G E A)
