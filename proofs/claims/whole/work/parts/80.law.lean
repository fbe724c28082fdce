/-! the law: its walk over the machine -/
abbrev z_ls (k : Nat) : m_L := [some (vR 18 0), some (vR 0 0), some (vR 6 0), some (vI (nI (6 * k)))]
theorem z_ix {k L : Nat} (j : Nat) (hL : L ≤ 3072) (hk : 6 * k + 6 ≤ L) (hj : j < 6) : vp_in (nI (6 * k) + nI j) L := by
  rw [nI_add]
  exact vp_in_nI (by omega) (by omega)
theorem z_c0 {E : m_E} {k : Nat} {σ : m_M} {Q : m_F → Prop} (hL : E.1 ≤ 3072) (hk : 6 * k + 6 ≤ E.1) (hs : q_sim k σ) (hn : ∀ τ, q_sim (k + 1) τ → m_T E 65535 20 168 (1114, z_ls k, [], τ) Q) : m_T E 65535 20 168 (160, z_ls k, [], σ) Q := by
  refine m_T_un 90 (fun y pc => Nat.beq y 0 || Nat.beq y 85 || (Nat.beq y 168 && Nat.beq pc 1114)) ?_
  refine ⟨z_ix 1 hL hk (by decide), ⟨z_ix 2 hL hk (by decide), ⟨z_ix 3 hL hk (by decide), ?_⟩⟩⟩
  refine m_T_mono E _ _ _ _ _ _ (fun f hf => ?_) (p_row (show k < 512 by omega) hs _ _ _)
  obtain ⟨f1, f2, f3, f4⟩ := f
  obtain ⟨v, hv, hm⟩ := hf
  have hv : f3 = [vI v] := hv
  subst hv
  refine ⟨z_ix 1 hL hk (by decide), ⟨z_ix 2 hL hk (by decide), ⟨z_ix 3 hL hk (by decide), ?_⟩⟩⟩
  refine m_T_mono E _ _ _ _ _ _ (fun g hg => ?_) hm
  obtain ⟨g1, g2, g3, g4⟩ := g
  obtain ⟨hw, hq⟩ := hg
  have hw : g3 = [vI v] := hw
  subst hw
  exact ⟨fun _ => hn _ hq, fun c => absurd rfl c⟩
theorem z_c1 {E : m_E} {k : Nat} {σ : m_M} {Q : m_F → Prop} (hL : E.1 ≤ 3072) (hk : 6 * k + 6 ≤ E.1) (hs : q_sim k σ) (hn : ∀ τ, q_sim (k + 1) τ → m_T E 65535 20 168 (1114, z_ls k, [], τ) Q) : m_T E 65535 20 168 (203, z_ls k, [], σ) Q := by
  refine m_T_un 90 (fun y pc => Nat.beq y 5 || Nat.beq y 89 || (Nat.beq y 168 && Nat.beq pc 1114)) ?_
  refine ⟨z_ix 1 hL hk (by decide), ⟨z_ix 2 hL hk (by decide), ⟨z_ix 3 hL hk (by decide), ?_⟩⟩⟩
  refine m_T_mono E _ _ _ _ _ _ (fun f hf => ?_) (p_set (show k < 512 by omega) hs _ _ _)
  obtain ⟨f1, f2, f3, f4⟩ := f
  obtain ⟨v, hv, hm⟩ := hf
  have hv : f3 = [vI v] := hv
  subst hv
  refine ⟨z_ix 1 hL hk (by decide), ⟨z_ix 2 hL hk (by decide), ⟨z_ix 3 hL hk (by decide), ?_⟩⟩⟩
  refine m_T_mono E _ _ _ _ _ _ (fun g hg => ?_) hm
  obtain ⟨g1, g2, g3, g4⟩ := g
  obtain ⟨hw, hq⟩ := hg
  have hw : g3 = [vI v] := hw
  subst hw
  exact ⟨fun _ => hn _ hq, fun c => absurd rfl c⟩
theorem z_c2 {E : m_E} {k : Nat} {σ : m_M} {Q : m_F → Prop} (hL : E.1 ≤ 3072) (hk : 6 * k + 6 ≤ E.1) (hs : q_sim k σ) (hn : ∀ τ, q_sim (k + 1) τ → m_T E 65535 20 168 (1114, z_ls k, [], τ) Q) : m_T E 65535 20 168 (246, z_ls k, [], σ) Q := by
  refine m_T_un 90 (fun y pc => Nat.beq y 6 || Nat.beq y 90 || (Nat.beq y 168 && Nat.beq pc 1114)) ?_
  refine ⟨z_ix 1 hL hk (by decide), ⟨z_ix 2 hL hk (by decide), ⟨z_ix 3 hL hk (by decide), ⟨z_ix 4 hL hk (by decide), ⟨z_ix 5 hL hk (by decide), ?_⟩⟩⟩⟩⟩
  refine m_T_mono E _ _ _ _ _ _ (fun f hf => ?_) (p_copy (show k < 512 by omega) hs _ _ _ _ _)
  obtain ⟨f1, f2, f3, f4⟩ := f
  obtain ⟨v, hv, hm⟩ := hf
  have hv : f3 = [vI v] := hv
  subst hv
  refine ⟨z_ix 1 hL hk (by decide), ⟨z_ix 2 hL hk (by decide), ⟨z_ix 3 hL hk (by decide), ⟨z_ix 4 hL hk (by decide), ⟨z_ix 5 hL hk (by decide), ?_⟩⟩⟩⟩⟩
  refine m_T_mono E _ _ _ _ _ _ (fun g hg => ?_) hm
  obtain ⟨g1, g2, g3, g4⟩ := g
  obtain ⟨hw, hq⟩ := hg
  have hw : g3 = [vI v] := hw
  subst hw
  exact ⟨fun _ => hn _ hq, fun c => absurd rfl c⟩
theorem z_c3 {E : m_E} {k : Nat} {σ : m_M} {Q : m_F → Prop} (hL : E.1 ≤ 3072) (hk : 6 * k + 6 ≤ E.1) (hs : q_sim k σ) (hn : ∀ τ, q_sim (k + 1) τ → m_T E 65535 20 168 (1114, z_ls k, [], τ) Q) : m_T E 65535 20 168 (309, z_ls k, [], σ) Q := by
  refine m_T_un 90 (fun y pc => Nat.beq y 7 || Nat.beq y 91 || (Nat.beq y 168 && Nat.beq pc 1114)) ?_
  refine ⟨z_ix 1 hL hk (by decide), ?_⟩
  refine m_T_mono E _ _ _ _ _ _ (fun f hf => ?_) (p_drop (show k < 512 by omega) hs _)
  obtain ⟨f1, f2, f3, f4⟩ := f
  obtain ⟨v, hv, hm⟩ := hf
  have hv : f3 = [vI v] := hv
  subst hv
  refine ⟨z_ix 1 hL hk (by decide), ?_⟩
  refine m_T_mono E _ _ _ _ _ _ (fun g hg => ?_) hm
  obtain ⟨g1, g2, g3, g4⟩ := g
  obtain ⟨hw, hq⟩ := hg
  have hw : g3 = [vI v] := hw
  subst hw
  exact ⟨fun _ => hn _ hq, fun c => absurd rfl c⟩
theorem z_c4 {E : m_E} {k : Nat} {σ : m_M} {Q : m_F → Prop} (hL : E.1 ≤ 3072) (hk : 6 * k + 6 ≤ E.1) (hs : q_sim k σ) (hn : ∀ τ, q_sim (k + 1) τ → m_T E 65535 20 168 (1114, z_ls k, [], τ) Q) : m_T E 65535 20 168 (332, z_ls k, [], σ) Q := by
  refine m_T_un 90 (fun y pc => Nat.beq y 8 || Nat.beq y 92 || (Nat.beq y 168 && Nat.beq pc 1114)) ?_
  refine ⟨z_ix 1 hL hk (by decide), ⟨z_ix 2 hL hk (by decide), ⟨z_ix 3 hL hk (by decide), ?_⟩⟩⟩
  refine m_T_mono E _ _ _ _ _ _ (fun f hf => ?_) (p_feed (show k < 512 by omega) hs _ _)
  obtain ⟨f1, f2, f3, f4⟩ := f
  obtain ⟨v, hv, hm⟩ := hf
  have hv : f3 = [vI v] := hv
  subst hv
  refine ⟨z_ix 1 hL hk (by decide), ⟨z_ix 2 hL hk (by decide), ⟨z_ix 3 hL hk (by decide), ?_⟩⟩⟩
  refine m_T_mono E _ _ _ _ _ _ (fun g hg => ?_) hm
  obtain ⟨g1, g2, g3, g4⟩ := g
  obtain ⟨hw, hq⟩ := hg
  have hw : g3 = [vI v] := hw
  subst hw
  exact ⟨fun _ => hn _ hq, fun c => absurd rfl c⟩
theorem z_c5 {E : m_E} {k : Nat} {σ : m_M} {Q : m_F → Prop} (hL : E.1 ≤ 3072) (hk : 6 * k + 6 ≤ E.1) (hs : q_sim k σ) (hn : ∀ τ, q_sim (k + 1) τ → m_T E 65535 20 168 (1114, z_ls k, [], τ) Q) : m_T E 65535 20 168 (395, z_ls k, [], σ) Q := by
  refine m_T_un 90 (fun y pc => Nat.beq y 9 || Nat.beq y 93 || (Nat.beq y 168 && Nat.beq pc 1114)) ?_
  refine m_T_mono E _ _ _ _ _ _ (fun f hf => ?_) (p_town (show k < 512 by omega) hs)
  obtain ⟨f1, f2, f3, f4⟩ := f
  obtain ⟨v, hv, hm⟩ := hf
  have hv : f3 = [vI v] := hv
  subst hv
  refine m_T_mono E _ _ _ _ _ _ (fun g hg => ?_) hm
  obtain ⟨g1, g2, g3, g4⟩ := g
  obtain ⟨hw, hq⟩ := hg
  have hw : g3 = [vI v] := hw
  subst hw
  exact ⟨fun _ => hn _ hq, fun c => absurd rfl c⟩
theorem z_c6 {E : m_E} {k : Nat} {σ : m_M} {Q : m_F → Prop} (hL : E.1 ≤ 3072) (hk : 6 * k + 6 ≤ E.1) (hs : q_sim k σ) (hn : ∀ τ, q_sim (k + 1) τ → m_T E 65535 20 168 (1114, z_ls k, [], τ) Q) : m_T E 65535 20 168 (408, z_ls k, [], σ) Q := by
  refine m_T_un 90 (fun y pc => Nat.beq y 10 || Nat.beq y 110 || (Nat.beq y 168 && Nat.beq pc 1114)) ?_
  refine m_T_mono E _ _ _ _ _ _ (fun f hf => ?_) (p_fault (show k < 512 by omega) hs)
  obtain ⟨f1, f2, f3, f4⟩ := f
  obtain ⟨v, hv, hm⟩ := hf
  have hv : f3 = [vI v] := hv
  subst hv
  refine m_T_mono E _ _ _ _ _ _ (fun g hg => ?_) hm
  obtain ⟨g1, g2, g3, g4⟩ := g
  obtain ⟨hw, hq⟩ := hg
  have hw : g3 = [vI v] := hw
  subst hw
  exact ⟨fun _ => hn _ hq, fun c => absurd rfl c⟩
theorem z_c7 {E : m_E} {k : Nat} {σ : m_M} {Q : m_F → Prop} (hL : E.1 ≤ 3072) (hk : 6 * k + 6 ≤ E.1) (hs : q_sim k σ) (hn : ∀ τ, q_sim (k + 1) τ → m_T E 65535 20 168 (1114, z_ls k, [], τ) Q) : m_T E 65535 20 168 (421, z_ls k, [], σ) Q := by
  refine m_T_un 90 (fun y pc => Nat.beq y 11 || Nat.beq y 111 || (Nat.beq y 168 && Nat.beq pc 1114)) ?_
  refine ⟨z_ix 1 hL hk (by decide), ⟨z_ix 2 hL hk (by decide), ?_⟩⟩
  refine m_T_mono E _ _ _ _ _ _ (fun f hf => ?_) (p_day (show k < 512 by omega) hs _ _)
  obtain ⟨f1, f2, f3, f4⟩ := f
  obtain ⟨v, hv, hm⟩ := hf
  have hv : f3 = [vI v] := hv
  subst hv
  refine ⟨z_ix 1 hL hk (by decide), ⟨z_ix 2 hL hk (by decide), ?_⟩⟩
  refine m_T_mono E _ _ _ _ _ _ (fun g hg => ?_) hm
  obtain ⟨g1, g2, g3, g4⟩ := g
  obtain ⟨hw, hq⟩ := hg
  have hw : g3 = [vI v] := hw
  subst hw
  exact ⟨fun _ => hn _ hq, fun c => absurd rfl c⟩
theorem z_c8 {E : m_E} {k : Nat} {σ : m_M} {Q : m_F → Prop} (hL : E.1 ≤ 3072) (hk : 6 * k + 6 ≤ E.1) (hs : q_sim k σ) (hn : ∀ τ, q_sim (k + 1) τ → m_T E 65535 20 168 (1114, z_ls k, [], τ) Q) : m_T E 65535 20 168 (454, z_ls k, [], σ) Q := by
  refine m_T_un 90 (fun y pc => Nat.beq y 12 || Nat.beq y 121 || (Nat.beq y 168 && Nat.beq pc 1114)) ?_
  refine m_T_mono E _ _ _ _ _ _ (fun f hf => ?_) (p_born (show k < 512 by omega) hs)
  obtain ⟨f1, f2, f3, f4⟩ := f
  obtain ⟨v, hv, hm⟩ := hf
  have hv : f3 = [vI v] := hv
  subst hv
  refine m_T_mono E _ _ _ _ _ _ (fun g hg => ?_) hm
  obtain ⟨g1, g2, g3, g4⟩ := g
  obtain ⟨hw, hq⟩ := hg
  have hw : g3 = [vI v] := hw
  subst hw
  exact ⟨fun _ => hn _ hq, fun c => absurd rfl c⟩
theorem z_c9 {E : m_E} {k : Nat} {σ : m_M} {Q : m_F → Prop} (hL : E.1 ≤ 3072) (hk : 6 * k + 6 ≤ E.1) (hs : q_sim k σ) (hn : ∀ τ, q_sim (k + 1) τ → m_T E 65535 20 168 (1114, z_ls k, [], τ) Q) : m_T E 65535 20 168 (467, z_ls k, [], σ) Q := by
  refine m_T_un 90 (fun y pc => Nat.beq y 13 || Nat.beq y 122 || (Nat.beq y 168 && Nat.beq pc 1114)) ?_
  refine ⟨z_ix 1 hL hk (by decide), ?_⟩
  refine m_T_mono E _ _ _ _ _ _ (fun f hf => ?_) (p_smuggle (show k < 512 by omega) hs _)
  obtain ⟨f1, f2, f3, f4⟩ := f
  obtain ⟨v, hv, hm⟩ := hf
  have hv : f3 = [vI v] := hv
  subst hv
  refine ⟨z_ix 1 hL hk (by decide), ?_⟩
  refine m_T_mono E _ _ _ _ _ _ (fun g hg => ?_) hm
  obtain ⟨g1, g2, g3, g4⟩ := g
  obtain ⟨hw, hq⟩ := hg
  have hw : g3 = [vI v] := hw
  subst hw
  exact ⟨fun _ => hn _ hq, fun c => absurd rfl c⟩
theorem z_c10 {E : m_E} {k : Nat} {σ : m_M} {Q : m_F → Prop} (hL : E.1 ≤ 3072) (hk : 6 * k + 6 ≤ E.1) (hs : q_sim k σ) (hn : ∀ τ, q_sim (k + 1) τ → m_T E 65535 20 168 (1114, z_ls k, [], τ) Q) : m_T E 65535 20 168 (490, z_ls k, [], σ) Q := by
  refine m_T_un 90 (fun y pc => Nat.beq y 14 || Nat.beq y 125 || (Nat.beq y 168 && Nat.beq pc 1114)) ?_
  refine ⟨z_ix 1 hL hk (by decide), ?_⟩
  refine m_T_mono E _ _ _ _ _ _ (fun f hf => ?_) (p_call (show k < 512 by omega) hs _)
  obtain ⟨f1, f2, f3, f4⟩ := f
  obtain ⟨v, hv, hm⟩ := hf
  have hv : f3 = [vI v] := hv
  subst hv
  refine ⟨z_ix 1 hL hk (by decide), ?_⟩
  refine m_T_mono E _ _ _ _ _ _ (fun g hg => ?_) hm
  obtain ⟨g1, g2, g3, g4⟩ := g
  obtain ⟨hw, hq⟩ := hg
  have hw : g3 = [vI v] := hw
  subst hw
  exact ⟨fun _ => hn _ hq, fun c => absurd rfl c⟩
theorem z_c11 {E : m_E} {k : Nat} {σ : m_M} {Q : m_F → Prop} (hL : E.1 ≤ 3072) (hk : 6 * k + 6 ≤ E.1) (hs : q_sim k σ) (hn : ∀ τ, q_sim (k + 1) τ → m_T E 65535 20 168 (1114, z_ls k, [], τ) Q) : m_T E 65535 20 168 (513, z_ls k, [], σ) Q := by
  refine m_T_un 90 (fun y pc => Nat.beq y 15 || Nat.beq y 126 || (Nat.beq y 168 && Nat.beq pc 1114)) ?_
  refine ⟨z_ix 1 hL hk (by decide), ⟨z_ix 2 hL hk (by decide), ?_⟩⟩
  refine m_T_mono E _ _ _ _ _ _ (fun f hf => ?_) (p_person (show k < 512 by omega) hs _ _)
  obtain ⟨f1, f2, f3, f4⟩ := f
  obtain ⟨v, hv, hm⟩ := hf
  have hv : f3 = [vI v] := hv
  subst hv
  refine ⟨z_ix 1 hL hk (by decide), ⟨z_ix 2 hL hk (by decide), ?_⟩⟩
  refine m_T_mono E _ _ _ _ _ _ (fun g hg => ?_) hm
  obtain ⟨g1, g2, g3, g4⟩ := g
  obtain ⟨hw, hq⟩ := hg
  have hw : g3 = [vI v] := hw
  subst hw
  exact ⟨fun _ => hn _ hq, fun c => absurd rfl c⟩
theorem z_c12 {E : m_E} {k : Nat} {σ : m_M} {Q : m_F → Prop} (hL : E.1 ≤ 3072) (hk : 6 * k + 6 ≤ E.1) (hs : q_sim k σ) (hn : ∀ τ, q_sim (k + 1) τ → m_T E 65535 20 168 (1114, z_ls k, [], τ) Q) : m_T E 65535 20 168 (546, z_ls k, [], σ) Q := by
  refine m_T_un 90 (fun y pc => Nat.beq y 16 || Nat.beq y 127 || (Nat.beq y 168 && Nat.beq pc 1114)) ?_
  refine ⟨z_ix 1 hL hk (by decide), ⟨z_ix 2 hL hk (by decide), ⟨z_ix 3 hL hk (by decide), ?_⟩⟩⟩
  refine m_T_mono E _ _ _ _ _ _ (fun f hf => ?_) (p_out (show k < 512 by omega) hs _ _ _)
  obtain ⟨f1, f2, f3, f4⟩ := f
  obtain ⟨v, hv, hm⟩ := hf
  have hv : f3 = [vI v] := hv
  subst hv
  refine ⟨z_ix 1 hL hk (by decide), ⟨z_ix 2 hL hk (by decide), ⟨z_ix 3 hL hk (by decide), ?_⟩⟩⟩
  refine m_T_mono E _ _ _ _ _ _ (fun g hg => ?_) hm
  obtain ⟨g1, g2, g3, g4⟩ := g
  obtain ⟨hw, hq⟩ := hg
  have hw : g3 = [vI v] := hw
  subst hw
  exact ⟨fun _ => hn _ hq, fun c => absurd rfl c⟩
theorem z_c13 {E : m_E} {k : Nat} {σ : m_M} {Q : m_F → Prop} (hL : E.1 ≤ 3072) (hk : 6 * k + 6 ≤ E.1) (hs : q_sim k σ) (hn : ∀ τ, q_sim (k + 1) τ → m_T E 65535 20 168 (1114, z_ls k, [], τ) Q) : m_T E 65535 20 168 (589, z_ls k, [], σ) Q := by
  refine m_T_un 90 (fun y pc => Nat.beq y 17 || Nat.beq y 132 || (Nat.beq y 168 && Nat.beq pc 1114)) ?_
  refine ⟨z_ix 1 hL hk (by decide), ⟨z_ix 2 hL hk (by decide), ⟨z_ix 3 hL hk (by decide), ⟨z_ix 4 hL hk (by decide), ⟨z_ix 5 hL hk (by decide), ?_⟩⟩⟩⟩⟩
  refine m_T_mono E _ _ _ _ _ _ (fun f hf => ?_) (p_span (show k < 512 by omega) hs _ _ _ _ _)
  obtain ⟨f1, f2, f3, f4⟩ := f
  obtain ⟨v, hv, hm⟩ := hf
  have hv : f3 = [vI v] := hv
  subst hv
  refine ⟨z_ix 1 hL hk (by decide), ⟨z_ix 2 hL hk (by decide), ⟨z_ix 3 hL hk (by decide), ⟨z_ix 4 hL hk (by decide), ⟨z_ix 5 hL hk (by decide), ?_⟩⟩⟩⟩⟩
  refine m_T_mono E _ _ _ _ _ _ (fun g hg => ?_) hm
  obtain ⟨g1, g2, g3, g4⟩ := g
  obtain ⟨hw, hq⟩ := hg
  have hw : g3 = [vI v] := hw
  subst hw
  exact ⟨fun _ => hn _ hq, fun c => absurd rfl c⟩
theorem z_c14 {E : m_E} {k : Nat} {σ : m_M} {Q : m_F → Prop} (hL : E.1 ≤ 3072) (hk : 6 * k + 6 ≤ E.1) (hs : q_sim k σ) (hn : ∀ τ, q_sim (k + 1) τ → m_T E 65535 20 168 (1114, z_ls k, [], τ) Q) : m_T E 65535 20 168 (652, z_ls k, [], σ) Q := by
  refine m_T_un 90 (fun y pc => Nat.beq y 20 || Nat.beq y 134 || (Nat.beq y 168 && Nat.beq pc 1114)) ?_
  refine ⟨z_ix 1 hL hk (by decide), ⟨z_ix 2 hL hk (by decide), ⟨z_ix 3 hL hk (by decide), ⟨z_ix 4 hL hk (by decide), ⟨z_ix 5 hL hk (by decide), ?_⟩⟩⟩⟩⟩
  refine m_T_mono E _ _ _ _ _ _ (fun f hf => ?_) (p_odds (show k < 512 by omega) hs _ _ _ _ _)
  obtain ⟨f1, f2, f3, f4⟩ := f
  obtain ⟨v, hv, hm⟩ := hf
  have hv : f3 = [vI v] := hv
  subst hv
  refine ⟨z_ix 1 hL hk (by decide), ⟨z_ix 2 hL hk (by decide), ⟨z_ix 3 hL hk (by decide), ⟨z_ix 4 hL hk (by decide), ⟨z_ix 5 hL hk (by decide), ?_⟩⟩⟩⟩⟩
  refine m_T_mono E _ _ _ _ _ _ (fun g hg => ?_) hm
  obtain ⟨g1, g2, g3, g4⟩ := g
  obtain ⟨hw, hq⟩ := hg
  have hw : g3 = [vI v] := hw
  subst hw
  exact ⟨fun _ => hn _ hq, fun c => absurd rfl c⟩
theorem z_c15 {E : m_E} {k : Nat} {σ : m_M} {Q : m_F → Prop} (hL : E.1 ≤ 3072) (hk : 6 * k + 6 ≤ E.1) (hs : q_sim k σ) (hn : ∀ τ, q_sim (k + 1) τ → m_T E 65535 20 168 (1114, z_ls k, [], τ) Q) : m_T E 65535 20 168 (715, z_ls k, [], σ) Q := by
  refine m_T_un 90 (fun y pc => Nat.beq y 24 || Nat.beq y 137 || (Nat.beq y 168 && Nat.beq pc 1114)) ?_
  refine ⟨z_ix 1 hL hk (by decide), ⟨z_ix 2 hL hk (by decide), ⟨z_ix 3 hL hk (by decide), ?_⟩⟩⟩
  refine m_T_mono E _ _ _ _ _ _ (fun f hf => ?_) (p_hire (show k < 512 by omega) hs _ _ _)
  obtain ⟨f1, f2, f3, f4⟩ := f
  obtain ⟨v, hv, hm⟩ := hf
  have hv : f3 = [vI v] := hv
  subst hv
  refine ⟨z_ix 1 hL hk (by decide), ⟨z_ix 2 hL hk (by decide), ⟨z_ix 3 hL hk (by decide), ?_⟩⟩⟩
  refine m_T_mono E _ _ _ _ _ _ (fun g hg => ?_) hm
  obtain ⟨g1, g2, g3, g4⟩ := g
  obtain ⟨hw, hq⟩ := hg
  have hw : g3 = [vI v] := hw
  subst hw
  exact ⟨fun _ => hn _ hq, fun c => absurd rfl c⟩
theorem z_c16 {E : m_E} {k : Nat} {σ : m_M} {Q : m_F → Prop} (hL : E.1 ≤ 3072) (hk : 6 * k + 6 ≤ E.1) (hs : q_sim k σ) (hn : ∀ τ, q_sim (k + 1) τ → m_T E 65535 20 168 (1114, z_ls k, [], τ) Q) : m_T E 65535 20 168 (758, z_ls k, [], σ) Q := by
  refine m_T_un 90 (fun y pc => Nat.beq y 27 || Nat.beq y 139 || (Nat.beq y 168 && Nat.beq pc 1114)) ?_
  refine ⟨z_ix 1 hL hk (by decide), ⟨z_ix 2 hL hk (by decide), ?_⟩⟩
  refine m_T_mono E _ _ _ _ _ _ (fun f hf => ?_) (p_swaps (show k < 512 by omega) hs _ _)
  obtain ⟨f1, f2, f3, f4⟩ := f
  obtain ⟨v, hv, hm⟩ := hf
  have hv : f3 = [vI v] := hv
  subst hv
  refine ⟨z_ix 1 hL hk (by decide), ⟨z_ix 2 hL hk (by decide), ?_⟩⟩
  refine m_T_mono E _ _ _ _ _ _ (fun g hg => ?_) hm
  obtain ⟨g1, g2, g3, g4⟩ := g
  obtain ⟨hw, hq⟩ := hg
  have hw : g3 = [vI v] := hw
  subst hw
  exact ⟨fun _ => hn _ hq, fun c => absurd rfl c⟩
theorem z_c17 {E : m_E} {k : Nat} {σ : m_M} {Q : m_F → Prop} (hL : E.1 ≤ 3072) (hk : 6 * k + 6 ≤ E.1) (hs : q_sim k σ) (hn : ∀ τ, q_sim (k + 1) τ → m_T E 65535 20 168 (1114, z_ls k, [], τ) Q) : m_T E 65535 20 168 (791, z_ls k, [], σ) Q := by
  refine m_T_un 90 (fun y pc => Nat.beq y 28 || Nat.beq y 141 || (Nat.beq y 168 && Nat.beq pc 1114)) ?_
  refine ⟨z_ix 1 hL hk (by decide), ⟨z_ix 2 hL hk (by decide), ?_⟩⟩
  refine m_T_mono E _ _ _ _ _ _ (fun f hf => ?_) (p_lasts (show k < 512 by omega) hs _ _)
  obtain ⟨f1, f2, f3, f4⟩ := f
  obtain ⟨v, hv, hm⟩ := hf
  have hv : f3 = [vI v] := hv
  subst hv
  refine ⟨z_ix 1 hL hk (by decide), ⟨z_ix 2 hL hk (by decide), ?_⟩⟩
  refine m_T_mono E _ _ _ _ _ _ (fun g hg => ?_) hm
  obtain ⟨g1, g2, g3, g4⟩ := g
  obtain ⟨hw, hq⟩ := hg
  have hw : g3 = [vI v] := hw
  subst hw
  exact ⟨fun _ => hn _ hq, fun c => absurd rfl c⟩
theorem z_c18 {E : m_E} {k : Nat} {σ : m_M} {Q : m_F → Prop} (hL : E.1 ≤ 3072) (hk : 6 * k + 6 ≤ E.1) (hs : q_sim k σ) (hn : ∀ τ, q_sim (k + 1) τ → m_T E 65535 20 168 (1114, z_ls k, [], τ) Q) : m_T E 65535 20 168 (824, z_ls k, [], σ) Q := by
  refine m_T_un 90 (fun y pc => Nat.beq y 29 || Nat.beq y 142 || (Nat.beq y 168 && Nat.beq pc 1114)) ?_
  refine ⟨z_ix 1 hL hk (by decide), ⟨z_ix 2 hL hk (by decide), ⟨z_ix 3 hL hk (by decide), ?_⟩⟩⟩
  refine m_T_mono E _ _ _ _ _ _ (fun f hf => ?_) (p_unseen (show k < 512 by omega) hs _ _ _)
  obtain ⟨f1, f2, f3, f4⟩ := f
  obtain ⟨v, hv, hm⟩ := hf
  have hv : f3 = [vI v] := hv
  subst hv
  refine ⟨z_ix 1 hL hk (by decide), ⟨z_ix 2 hL hk (by decide), ⟨z_ix 3 hL hk (by decide), ?_⟩⟩⟩
  refine m_T_mono E _ _ _ _ _ _ (fun g hg => ?_) hm
  obtain ⟨g1, g2, g3, g4⟩ := g
  obtain ⟨hw, hq⟩ := hg
  have hw : g3 = [vI v] := hw
  subst hw
  exact ⟨fun _ => hn _ hq, fun c => absurd rfl c⟩
theorem z_c19 {E : m_E} {k : Nat} {σ : m_M} {Q : m_F → Prop} (hL : E.1 ≤ 3072) (hk : 6 * k + 6 ≤ E.1) (hs : q_sim k σ) (hn : ∀ τ, q_sim (k + 1) τ → m_T E 65535 20 168 (1114, z_ls k, [], τ) Q) : m_T E 65535 20 168 (867, z_ls k, [], σ) Q := by
  refine m_T_un 90 (fun y pc => Nat.beq y 31 || Nat.beq y 143 || (Nat.beq y 168 && Nat.beq pc 1114)) ?_
  refine ⟨z_ix 1 hL hk (by decide), ⟨z_ix 2 hL hk (by decide), ⟨z_ix 3 hL hk (by decide), ⟨z_ix 4 hL hk (by decide), ?_⟩⟩⟩⟩
  refine m_T_mono E _ _ _ _ _ _ (fun f hf => ?_) (p_gates (show k < 512 by omega) hs _ _ _ _)
  obtain ⟨f1, f2, f3, f4⟩ := f
  obtain ⟨v, hv, hm⟩ := hf
  have hv : f3 = [vI v] := hv
  subst hv
  refine ⟨z_ix 1 hL hk (by decide), ⟨z_ix 2 hL hk (by decide), ⟨z_ix 3 hL hk (by decide), ⟨z_ix 4 hL hk (by decide), ?_⟩⟩⟩⟩
  refine m_T_mono E _ _ _ _ _ _ (fun g hg => ?_) hm
  obtain ⟨g1, g2, g3, g4⟩ := g
  obtain ⟨hw, hq⟩ := hg
  have hw : g3 = [vI v] := hw
  subst hw
  exact ⟨fun _ => hn _ hq, fun c => absurd rfl c⟩
theorem z_c20 {E : m_E} {k : Nat} {σ : m_M} {Q : m_F → Prop} (hL : E.1 ≤ 3072) (hk : 6 * k + 6 ≤ E.1) (hs : q_sim k σ) (hn : ∀ τ, q_sim (k + 1) τ → m_T E 65535 20 168 (1114, z_ls k, [], τ) Q) : m_T E 65535 20 168 (920, z_ls k, [], σ) Q := by
  refine m_T_un 90 (fun y pc => Nat.beq y 32 || Nat.beq y 144 || (Nat.beq y 168 && Nat.beq pc 1114)) ?_
  refine ⟨z_ix 1 hL hk (by decide), ?_⟩
  refine m_T_mono E _ _ _ _ _ _ (fun f hf => ?_) (p_image (show k < 512 by omega) hs _)
  obtain ⟨f1, f2, f3, f4⟩ := f
  obtain ⟨v, hv, hm⟩ := hf
  have hv : f3 = [vI v] := hv
  subst hv
  refine ⟨z_ix 1 hL hk (by decide), ?_⟩
  refine m_T_mono E _ _ _ _ _ _ (fun g hg => ?_) hm
  obtain ⟨g1, g2, g3, g4⟩ := g
  obtain ⟨hw, hq⟩ := hg
  have hw : g3 = [vI v] := hw
  subst hw
  exact ⟨fun _ => hn _ hq, fun c => absurd rfl c⟩
theorem z_c21 {E : m_E} {k : Nat} {σ : m_M} {Q : m_F → Prop} (hL : E.1 ≤ 3072) (hk : 6 * k + 6 ≤ E.1) (hs : q_sim k σ) (hn : ∀ τ, q_sim (k + 1) τ → m_T E 65535 20 168 (1114, z_ls k, [], τ) Q) : m_T E 65535 20 168 (943, z_ls k, [], σ) Q := by
  refine m_T_un 90 (fun y pc => Nat.beq y 34 || Nat.beq y 145 || (Nat.beq y 168 && Nat.beq pc 1114)) ?_
  refine ⟨z_ix 1 hL hk (by decide), ?_⟩
  refine m_T_mono E _ _ _ _ _ _ (fun f hf => ?_) (p_restore (show k < 512 by omega) hs _)
  obtain ⟨f1, f2, f3, f4⟩ := f
  obtain ⟨v, hv, hm⟩ := hf
  have hv : f3 = [vI v] := hv
  subst hv
  refine ⟨z_ix 1 hL hk (by decide), ?_⟩
  refine m_T_mono E _ _ _ _ _ _ (fun g hg => ?_) hm
  obtain ⟨g1, g2, g3, g4⟩ := g
  obtain ⟨hw, hq⟩ := hg
  have hw : g3 = [vI v] := hw
  subst hw
  exact ⟨fun _ => hn _ hq, fun c => absurd rfl c⟩
theorem z_c22 {E : m_E} {k : Nat} {σ : m_M} {Q : m_F → Prop} (hL : E.1 ≤ 3072) (hk : 6 * k + 6 ≤ E.1) (hs : q_sim k σ) (hn : ∀ τ, q_sim (k + 1) τ → m_T E 65535 20 168 (1114, z_ls k, [], τ) Q) : m_T E 65535 20 168 (966, z_ls k, [], σ) Q := by
  refine m_T_un 90 (fun y pc => Nat.beq y 35 || Nat.beq y 146 || (Nat.beq y 168 && Nat.beq pc 1114)) ?_
  refine ⟨z_ix 1 hL hk (by decide), ?_⟩
  refine m_T_mono E _ _ _ _ _ _ (fun f hf => ?_) (p_kind (show k < 512 by omega) hs _)
  obtain ⟨f1, f2, f3, f4⟩ := f
  obtain ⟨v, hv, hm⟩ := hf
  have hv : f3 = [vI v] := hv
  subst hv
  refine ⟨z_ix 1 hL hk (by decide), ?_⟩
  refine m_T_mono E _ _ _ _ _ _ (fun g hg => ?_) hm
  obtain ⟨g1, g2, g3, g4⟩ := g
  obtain ⟨hw, hq⟩ := hg
  have hw : g3 = [vI v] := hw
  subst hw
  exact ⟨fun _ => hn _ hq, fun c => absurd rfl c⟩
theorem z_c23 {E : m_E} {k : Nat} {σ : m_M} {Q : m_F → Prop} (hL : E.1 ≤ 3072) (hk : 6 * k + 6 ≤ E.1) (hs : q_sim k σ) (hn : ∀ τ, q_sim (k + 1) τ → m_T E 65535 20 168 (1114, z_ls k, [], τ) Q) : m_T E 65535 20 168 (989, z_ls k, [], σ) Q := by
  refine m_T_un 90 (fun y pc => Nat.beq y 36 || Nat.beq y 147 || (Nat.beq y 168 && Nat.beq pc 1114)) ?_
  refine ⟨z_ix 1 hL hk (by decide), ⟨z_ix 2 hL hk (by decide), ?_⟩⟩
  refine m_T_mono E _ _ _ _ _ _ (fun f hf => ?_) (p_as (show k < 512 by omega) hs _ _)
  obtain ⟨f1, f2, f3, f4⟩ := f
  obtain ⟨v, hv, hm⟩ := hf
  have hv : f3 = [vI v] := hv
  subst hv
  refine ⟨z_ix 1 hL hk (by decide), ⟨z_ix 2 hL hk (by decide), ?_⟩⟩
  refine m_T_mono E _ _ _ _ _ _ (fun g hg => ?_) hm
  obtain ⟨g1, g2, g3, g4⟩ := g
  obtain ⟨hw, hq⟩ := hg
  have hw : g3 = [vI v] := hw
  subst hw
  exact ⟨fun _ => hn _ hq, fun c => absurd rfl c⟩
theorem z_c24 {E : m_E} {k : Nat} {σ : m_M} {Q : m_F → Prop} (hL : E.1 ≤ 3072) (hk : 6 * k + 6 ≤ E.1) (hs : q_sim k σ) (hn : ∀ τ, q_sim (k + 1) τ → m_T E 65535 20 168 (1114, z_ls k, [], τ) Q) : m_T E 65535 20 168 (1022, z_ls k, [], σ) Q := by
  refine m_T_un 90 (fun y pc => Nat.beq y 38 || Nat.beq y 149 || (Nat.beq y 168 && Nat.beq pc 1114)) ?_
  refine ⟨z_ix 1 hL hk (by decide), ⟨z_ix 2 hL hk (by decide), ?_⟩⟩
  refine m_T_mono E _ _ _ _ _ _ (fun f hf => ?_) (p_ask (show k < 512 by omega) hs _ _)
  obtain ⟨f1, f2, f3, f4⟩ := f
  obtain ⟨v, hv, hm⟩ := hf
  have hv : f3 = [vI v] := hv
  subst hv
  refine ⟨z_ix 1 hL hk (by decide), ⟨z_ix 2 hL hk (by decide), ?_⟩⟩
  refine m_T_mono E _ _ _ _ _ _ (fun g hg => ?_) hm
  obtain ⟨g1, g2, g3, g4⟩ := g
  obtain ⟨hw, hq⟩ := hg
  have hw : g3 = [vI v] := hw
  subst hw
  exact ⟨fun _ => hn _ hq, fun c => absurd rfl c⟩
theorem z_c25 {E : m_E} {k : Nat} {σ : m_M} {Q : m_F → Prop} (hL : E.1 ≤ 3072) (hk : 6 * k + 6 ≤ E.1) (hs : q_sim k σ) (hn : ∀ τ, q_sim (k + 1) τ → m_T E 65535 20 168 (1114, z_ls k, [], τ) Q) : m_T E 65535 20 168 (1055, z_ls k, [], σ) Q := by
  refine m_T_un 90 (fun y pc => Nat.beq y 39 || Nat.beq y 155 || (Nat.beq y 168 && Nat.beq pc 1114)) ?_
  refine ⟨z_ix 1 hL hk (by decide), ?_⟩
  refine m_T_mono E _ _ _ _ _ _ (fun f hf => ?_) (p_trace (show k < 512 by omega) hs _)
  obtain ⟨f1, f2, f3, f4⟩ := f
  obtain ⟨v, hv, hm⟩ := hf
  have hv : f3 = [vI v] := hv
  subst hv
  refine ⟨z_ix 1 hL hk (by decide), ?_⟩
  refine m_T_mono E _ _ _ _ _ _ (fun g hg => ?_) hm
  obtain ⟨g1, g2, g3, g4⟩ := g
  obtain ⟨hw, hq⟩ := hg
  have hw : g3 = [vI v] := hw
  subst hw
  exact ⟨fun _ => hn _ hq, fun c => absurd rfl c⟩
theorem z_c26 {E : m_E} {k : Nat} {σ : m_M} {Q : m_F → Prop} (hL : E.1 ≤ 3072) (hk : 6 * k + 6 ≤ E.1) (hs : q_sim k σ) (hn : ∀ τ, q_sim (k + 1) τ → m_T E 65535 20 168 (1114, z_ls k, [], τ) Q) : m_T E 65535 20 168 (1078, z_ls k, [], σ) Q := by
  refine m_T_un 90 (fun y pc => Nat.beq y 40 || Nat.beq y 156 || (Nat.beq y 168 && Nat.beq pc 1114)) ?_
  refine ⟨z_ix 1 hL hk (by decide), ?_⟩
  refine m_T_mono E _ _ _ _ _ _ (fun f hf => ?_) (p_count (show k < 512 by omega) hs _)
  obtain ⟨f1, f2, f3, f4⟩ := f
  obtain ⟨v, hv, hm⟩ := hf
  have hv : f3 = [vI v] := hv
  subst hv
  refine ⟨z_ix 1 hL hk (by decide), ?_⟩
  refine m_T_mono E _ _ _ _ _ _ (fun g hg => ?_) hm
  obtain ⟨g1, g2, g3, g4⟩ := g
  obtain ⟨hw, hq⟩ := hg
  have hw : g3 = [vI v] := hw
  subst hw
  exact ⟨fun _ => hn _ hq, fun c => absurd rfl c⟩
theorem z_c27 {E : m_E} {k : Nat} {σ : m_M} {Q : m_F → Prop} (hL : E.1 ≤ 3072) (hk : 6 * k + 6 ≤ E.1) (hs : q_sim k σ) (hn : ∀ τ, q_sim (k + 1) τ → m_T E 65535 20 168 (1114, z_ls k, [], τ) Q) : m_T E 65535 20 168 (1101, z_ls k, [], σ) Q := by
  refine m_T_un 90 (fun y pc => Nat.beq y 42 || Nat.beq y 157 || (Nat.beq y 168 && Nat.beq pc 1114)) ?_
  refine m_T_mono E _ _ _ _ _ _ (fun f hf => ?_) (p_status (show k < 512 by omega) hs)
  obtain ⟨f1, f2, f3, f4⟩ := f
  obtain ⟨v, hv, hm⟩ := hf
  have hv : f3 = [vI v] := hv
  subst hv
  refine m_T_mono E _ _ _ _ _ _ (fun g hg => ?_) hm
  obtain ⟨g1, g2, g3, g4⟩ := g
  obtain ⟨hw, hq⟩ := hg
  have hw : g3 = [vI v] := hw
  subst hw
  exact ⟨fun _ => hn _ hq, fun c => absurd rfl c⟩
theorem z_loop {E : m_E} (hL : E.1 ≤ 3072) : ∀ (n k : Nat) (σ : m_M), k + n = 513 → q_sim k σ → m_T E 65535 20 168 (18, z_ls k, [], σ) (fun f => f.2.2.1 = [vI 1]) := by
  intro n
  induction n with
  | zero =>
    intro k σ hk hs
    refine m_T_un 60 (fun y pc => Nat.beq y 168 && Nat.beq pc 33) ?_
    refine ⟨fun c => ⟨Or.inr rfl, rfl⟩, fun c => ?_⟩
    exfalso
    refine c ?_
    have e : Int32.ofNat E.1 - (Int8.ofInt 6).toInt32 = nI E.1 - nI 6 := rfl
    show Int32.ofNat E.1 - (Int8.ofInt 6).toInt32 < nI (6 * k)
    rw [e]
    rcases Nat.lt_or_ge E.1 6 with q | q
    · rcases Nat.eq_zero_or_pos k with z | z
      · omega
      · exact Int32.lt_trans (pk_sneg (by omega) q) (nI_lt (a := 0) (by omega) (by omega))
    · rw [pk_sub q]
      exact nI_lt (by omega) (by omega)
  | succ n ih =>
    intro k σ hk hs
    refine m_T_un 60 (fun y pc => Nat.beq y 168 && (Nat.beq pc 1114 || Nat.beq pc 160 || Nat.beq pc 203 || Nat.beq pc 246 || Nat.beq pc 309 || Nat.beq pc 332 || Nat.beq pc 395 || Nat.beq pc 408 || Nat.beq pc 421 || Nat.beq pc 454 || Nat.beq pc 467 || Nat.beq pc 490 || Nat.beq pc 513 || Nat.beq pc 546 || Nat.beq pc 589 || Nat.beq pc 652 || Nat.beq pc 715 || Nat.beq pc 758 || Nat.beq pc 791 || Nat.beq pc 824 || Nat.beq pc 867 || Nat.beq pc 920 || Nat.beq pc 943 || Nat.beq pc 966 || Nat.beq pc 989 || Nat.beq pc 1022 || Nat.beq pc 1055 || Nat.beq pc 1078 || Nat.beq pc 1101)) ?_
    refine ⟨fun c => ⟨Or.inr rfl, rfl⟩, fun c => ?_⟩
    have hk6 : 6 * k + 6 ≤ E.1 := by
      have e : Int32.ofNat E.1 - (Int8.ofInt 6).toInt32 = nI E.1 - nI 6 := rfl
      have c : ¬ Int32.ofNat E.1 - (Int8.ofInt 6).toInt32 < nI (6 * k) := c
      rw [e] at c
      rcases Nat.lt_or_ge E.1 6 with q | q
      · exfalso
        have h0 := pk_sneg (a := E.1) (b := 6) (by omega) q
        rcases Nat.eq_zero_or_pos k with z | z
        · subst z
          exact c h0
        · exact c (Int32.lt_trans h0 (nI_lt (a := 0) (by omega) (by omega)))
      · rw [pk_sub q] at c
        rcases Nat.lt_or_ge (E.1 - 6) (6 * k) with z | z
        · exact absurd (nI_lt z (by omega)) c
        · omega
    have hn : ∀ τ, q_sim (k + 1) τ → m_T E 65535 20 168 (1114, z_ls k, [], τ) (fun f => f.2.2.1 = [vI 1]) := by
      intro τ hq
      refine m_T_un 60 (fun y pc => Nat.beq y 168 && Nat.beq pc 18) ?_
      have h := ih (k + 1) τ (by omega) hq
      unfold z_ls at h
      rw [show nI (6 * (k + 1)) = nI (6 * k) + Int32.ofInt 6 from (nI_add (6 * k) 6).symm] at h
      exact h
    have hd : m_T E 65535 20 168 (1114, z_ls k, [], σ) (fun f => f.2.2.1 = [vI 1]) := by
      exact hn σ (q_sim_more (Nat.le_succ k) hs)
    refine ⟨by have h := z_ix 0 hL hk6 (by decide); rw [nI_add] at h; exact h, ?_⟩
    exact ⟨⟨fun _ => z_c0 hL hk6 hs hn, ⟨fun _ => z_c1 hL hk6 hs hn, ⟨fun _ => z_c2 hL hk6 hs hn, ⟨fun _ => z_c3 hL hk6 hs hn, ⟨fun _ => z_c4 hL hk6 hs hn, ⟨fun _ => z_c5 hL hk6 hs hn, ⟨fun _ => z_c6 hL hk6 hs hn, ⟨fun _ => z_c7 hL hk6 hs hn, ⟨fun _ => z_c8 hL hk6 hs hn, ⟨fun _ => z_c9 hL hk6 hs hn, ⟨fun _ => z_c10 hL hk6 hs hn, ⟨fun _ => z_c11 hL hk6 hs hn, ⟨fun _ => z_c12 hL hk6 hs hn, ⟨fun _ => z_c13 hL hk6 hs hn, ⟨fun _ => z_c14 hL hk6 hs hn, ⟨fun _ => z_c15 hL hk6 hs hn, ⟨fun _ => z_c16 hL hk6 hs hn, ⟨fun _ => z_c17 hL hk6 hs hn, ⟨fun _ => z_c18 hL hk6 hs hn, ⟨fun _ => z_c19 hL hk6 hs hn, ⟨fun _ => z_c20 hL hk6 hs hn, ⟨fun _ => z_c21 hL hk6 hs hn, ⟨fun _ => z_c22 hL hk6 hs hn, ⟨fun _ => z_c23 hL hk6 hs hn, ⟨fun _ => z_c24 hL hk6 hs hn, ⟨fun _ => z_c25 hL hk6 hs hn, ⟨fun _ => z_c26 hL hk6 hs hn, ⟨fun _ => z_c27 hL hk6 hs hn, trivial⟩⟩⟩⟩⟩⟩⟩⟩⟩⟩⟩⟩⟩⟩⟩⟩⟩⟩⟩⟩⟩⟩⟩⟩⟩⟩⟩⟩, fun _ => hd⟩
