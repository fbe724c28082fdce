/-! day: the town afterwards -/
theorem z_day {σ μ ρ : m_M} {D0 D N m s w a a' d d0 n h : Nat} {L L0 K R H : Nat → Nat} {GG : Nat → Bool} (hT : q_T σ D0 N m w a' d0 L0 K R H) (M : q_wf (μ.1 13 3) D N s w a d L K R H) (hn : n ≤ 20) (hN : N + n ≤ 60) (hd : 1 ≤ d ∧ d < 1000)
    (went : ∀ q, q < N → μ.1 13 3 (72 + 4 * q) = if GG q = true then nI d else σ.1 13 3 (72 + 4 * q))
    (kk : ∀ j, j < 9 → ρ.1 5 0 (1 + j) = ρ.1 13 3 j)
    (kq : ∀ q, q < N → ρ.1 12 0 q = σ.1 12 0 q ∧ ρ.1 12 1 q = σ.1 12 1 q ∧ ρ.1 12 2 q = σ.1 12 2 q ∧ ρ.1 12 3 q = if GG q = true then nI d else σ.1 12 3 q)
    (ku : ∀ u, u < n → ρ.1 12 0 (N + u) = nI (d_k n h u) ∧ ρ.1 12 1 (N + u) = 0 ∧ ρ.1 12 2 (N + u) = 0 ∧ ρ.1 12 3 (N + u) = 0)
    (kl : ∀ i, i < s → ρ.1 12 4 i = nI (L i)) (kl2 : ∀ u, u < n → ρ.1 12 4 (s + u) = nI (N + u))
    (m0 : ρ.1 13 3 0 = μ.1 13 3 0) (m3 : ρ.1 13 3 3 = nI n) (m4 : ρ.1 13 3 4 = μ.1 13 3 4) (m7 : ρ.1 13 3 7 = nI (N + n)) (m8 : ρ.1 13 3 8 = nI (s + n))
    (ml : ∀ i, i < s → ρ.1 13 3 (9 + i) = μ.1 13 3 (9 + i)) (ml2 : ∀ u, u < n → ρ.1 13 3 (9 + (s + u)) = nI (N + u))
    (mq : ∀ q k, q < N → k < 4 → ρ.1 13 3 (69 + k + 4 * q) = μ.1 13 3 (69 + k + 4 * q))
    (mu : ∀ u, u < n → ρ.1 13 3 (69 + 4 * (N + u)) = nI (d_k n h u) ∧ ρ.1 13 3 (70 + 4 * (N + u)) = 0 ∧ ρ.1 13 3 (71 + 4 * (N + u)) = 0 ∧ ρ.1 13 3 (72 + 4 * (N + u)) = -1000000) :
    q_T ρ D (N + n) (s + n) w n d (fun i => if i < s then L i else N + (i - s)) (fun q => if q < N then K q else d_k n h (q - N)) (fun q => if q < N then R q else 0) (fun q => if q < N then H q else 0) := by
  obtain ⟨⟨v0, v1, v2, v3, v4, v5, v6, v7, v8, v9, va, vb, vc⟩, c1, c2, c3⟩ := hT
  obtain ⟨w0, w1, w2, w3, w4, w5, w6, w7, w8, w9, wa, wb, wc⟩ := M
  have ml3 : ∀ i, ¬ i < s → i < s + n → ρ.1 13 3 (9 + i) = nI (N + (i - s)) := fun i h1 h2 => by
    have e := ml2 (i - s) (by omega)
    rw [show s + (i - s) = i by omega] at e
    exact e
  have kl3 : ∀ i, ¬ i < s → i < s + n → ρ.1 12 4 i = nI (N + (i - s)) := fun i h1 h2 => by
    have e := kl2 (i - s) (by omega)
    rw [show s + (i - s) = i by omega] at e
    exact e
  have mu3 : ∀ q, ¬ q < N → q < N + n → ρ.1 13 3 (69 + 4 * q) = nI (d_k n h (q - N)) ∧ ρ.1 13 3 (70 + 4 * q) = 0 ∧ ρ.1 13 3 (71 + 4 * q) = 0 ∧ ρ.1 13 3 (72 + 4 * q) = -1000000 := fun q h1 h2 => by
    have e := mu (q - N) (by omega)
    rw [show N + (q - N) = q by omega] at e
    exact e
  have ku3 : ∀ q, ¬ q < N → q < N + n → ρ.1 12 0 q = nI (d_k n h (q - N)) ∧ ρ.1 12 1 q = 0 ∧ ρ.1 12 2 q = 0 ∧ ρ.1 12 3 q = 0 := fun q h1 h2 => by
    have e := ku (q - N) (by omega)
    rw [show N + (q - N) = q by omega] at e
    exact e
  refine ⟨⟨m0.trans w0, w1, m3, hn, m4.trans w4, w5, m7, hN, m8, by omega, fun i hi => ⟨?_, ?_⟩, fun i j hi hj q => ?_, fun q hq => ?_⟩, kk, fun i hi => ?_, fun q hq => ?_⟩
  · show ρ.1 13 3 (9 + i) = nI (if i < s then L i else N + (i - s))
    by_cases e : i < s
    · rw [if_pos e, ml i e]
      exact (wa i e).1
    · rw [if_neg e]
      exact ml3 i e hi
  · show (if i < s then L i else N + (i - s)) < N + n
    by_cases e : i < s
    · rw [if_pos e]
      have := (wa i e).2
      omega
    · rw [if_neg e]
      omega
  · have q : (if i < s then L i else N + (i - s)) = (if j < s then L j else N + (j - s)) := q
    by_cases e : i < s <;> by_cases e' : j < s
    · rw [if_pos e, if_pos e'] at q
      exact wb i j e e' q
    · rw [if_pos e, if_neg e'] at q
      have := (wa i e).2
      omega
    · rw [if_neg e, if_pos e'] at q
      have := (wa j e').2
      omega
    · rw [if_neg e, if_neg e'] at q
      omega
  · show ρ.1 13 3 (69 + 4 * q) = nI (if q < N then K q else d_k n h (q - N)) ∧ 1 ≤ (if q < N then K q else d_k n h (q - N)) ∧ (if q < N then K q else d_k n h (q - N)) ≤ 5 ∧ ρ.1 13 3 (70 + 4 * q) = nI (if q < N then R q else 0) ∧ (if q < N then R q else 0) ≤ 9 ∧ ρ.1 13 3 (71 + 4 * q) = nI (if q < N then H q else 0) ∧ (if q < N then H q else 0) ≤ 99 ∧ ((∃ i, i < s + n ∧ (if i < s then L i else N + (i - s)) = q) → ρ.1 13 3 (72 + 4 * q) = -1000000)
    by_cases e : q < N
    · rw [if_pos e, if_pos e, if_pos e]
      obtain ⟨x1, x2, x3, x4, x5, x6, x7, x8⟩ := wc q e
      refine ⟨(mq q 0 e (by omega)).trans x1, x2, x3, (mq q 1 e (by omega)).trans x4, x5, (mq q 2 e (by omega)).trans x6, x7, fun hh => ?_⟩
      obtain ⟨i, hi, hl⟩ := hh
      by_cases e2 : i < s
      · rw [if_pos e2] at hl
        exact (mq q 3 e (by omega)).trans (x8 ⟨i, e2, hl⟩)
      · rw [if_neg e2] at hl
        omega
    · rw [if_neg e, if_neg e, if_neg e]
      obtain ⟨x1, x2, x3, x4⟩ := mu3 q e hq
      have b := d_k1 (n := n) (h := h) (u := q - N)
      exact ⟨x1, b.1, by omega, x2, by omega, x3, by omega, fun _ => x4⟩
  · show ρ.1 12 4 i = ρ.1 13 3 (9 + i)
    by_cases e : i < s
    · rw [kl i e, ml i e]
      exact (wa i e).1.symm
    · rw [kl3 i e hi, ml3 i e hi]
  · show ρ.1 12 0 q = ρ.1 13 3 (69 + 4 * q) ∧ ρ.1 12 1 q = ρ.1 13 3 (70 + 4 * q) ∧ ρ.1 12 2 q = ρ.1 13 3 (71 + 4 * q) ∧ ((ρ.1 12 3 q = 0 ∧ ρ.1 13 3 (72 + 4 * q) = -1000000) ∨ (0 < ρ.1 12 3 q ∧ ρ.1 13 3 (72 + 4 * q) = ρ.1 12 3 q))
    by_cases e : q < N
    · obtain ⟨x1, x2, x3, x4, x5, x6, x7, x8⟩ := wc q e
      obtain ⟨z1, z2, z3, z4, z5, z6, z7, z8⟩ := vc q e
      obtain ⟨y1, y2, y3, y4⟩ := c3 q e
      obtain ⟨b1, b2, b3, b4⟩ := kq q e
      have g0 := mq q 0 e (by omega)
      have g1 := mq q 1 e (by omega)
      have g2 := mq q 2 e (by omega)
      have g3 := (mq q 3 e (by omega)).trans (went q e)
      refine ⟨b1.trans (y1.trans (z1.trans (x1.symm.trans g0.symm))), b2.trans (y2.trans (z4.trans (x4.symm.trans g1.symm))), b3.trans (y3.trans (z6.trans (x6.symm.trans g2.symm))), ?_⟩
      have g3 : ρ.1 13 3 (72 + 4 * q) = if GG q = true then nI d else σ.1 13 3 (72 + 4 * q) := g3
      rw [b4, g3]
      by_cases e3 : GG q = true
      · rw [if_pos e3, if_pos e3]
        refine Or.inr ⟨?_, rfl⟩
        rw [show (0 : Int32) = nI 0 from rfl]
        exact nI_lt (by omega) (by omega)
      · rw [if_neg e3, if_neg e3]
        exact y4
    · obtain ⟨x1, x2, x3, x4⟩ := mu3 q e hq
      obtain ⟨b1, b2, b3, b4⟩ := ku3 q e hq
      exact ⟨b1.trans x1.symm, b2.trans x2.symm, b3.trans x3.symm, Or.inl ⟨b4, x4⟩⟩
/-- what the class has done -/
def e_C (σ ρ : m_M) (N s n h d : Nat) (L : Nat → Nat) (GG : Nat → Bool) : Prop :=
  (ρ.1 5 0 0 = σ.1 5 0 0 ∧ ρ.1 5 0 1 = σ.1 5 0 1 ∧ ρ.1 5 0 3 = σ.1 5 0 3 ∧ ρ.1 5 0 4 = nI n ∧ ρ.1 5 0 5 = nI d ∧ ρ.1 5 0 6 = σ.1 5 0 6 + σ.1 5 0 3 * nI h ∧ ρ.1 5 0 8 = nI (N + n) ∧ ρ.1 5 0 9 = nI (s + n)) ∧
  (ρ.1 5 0 2 = (if nI (s + n) ≤ σ.1 5 0 2 then σ.1 5 0 2 - nI (s + n) else σ.1 5 0 2) ∧ ρ.1 5 0 7 = (if nI (s + n) ≤ σ.1 5 0 2 then σ.1 5 0 7 else σ.1 5 0 7 + Int32.ofInt 1)) ∧
  (∀ q, q < N → ρ.1 12 0 q = σ.1 12 0 q ∧ ρ.1 12 1 q = σ.1 12 1 q ∧ ρ.1 12 2 q = σ.1 12 2 q ∧ ρ.1 12 3 q = if GG q = true then nI d else σ.1 12 3 q) ∧
  (∀ u, u < n → ρ.1 12 0 (N + u) = nI (d_k n h u) ∧ ρ.1 12 1 (N + u) = 0 ∧ ρ.1 12 2 (N + u) = 0 ∧ ρ.1 12 3 (N + u) = 0) ∧
  (∀ i, i < s → ρ.1 12 4 i = nI (L i)) ∧ (∀ u, u < n → ρ.1 12 4 (s + u) = nI (N + u)) ∧ (∀ c v, ¬ (c = 5 ∧ v = 0) → ¬ (c = 12 ∧ v < 5) → ρ.1 c v = σ.1 c v)
theorem z_cday {σ τ1 τ2 ρ : m_M} {U L : Nat → Nat} {N m n h d g : Nat} {x2 x7 : Int32} (hC : d_C (m_up σ 5 0 5 (nI d)) U L m g (nI d) τ1) (hJ : d_J τ1 N (m - g) n h n τ2)
    (hr : ∀ j, ρ.1 5 0 j = if j = 4 then nI n else if j = 2 then x2 else if j = 7 then x7 else if j = 6 then σ.1 5 0 6 + σ.1 5 0 3 * nI h else τ2.1 5 0 j) (ho : ∀ c v, ¬ (c = 5 ∧ v = 0) → ρ.1 c v = τ2.1 c v)
    (h2 : x2 = (if nI (m - g + n) ≤ σ.1 5 0 2 then σ.1 5 0 2 - nI (m - g + n) else σ.1 5 0 2)) (h7 : x7 = (if nI (m - g + n) ≤ σ.1 5 0 2 then σ.1 5 0 7 else σ.1 5 0 7 + Int32.ofInt 1)) : e_C σ ρ N (m - g) n h d (q_LL U g m L) (q_GG U g m L) := by
  obtain ⟨a1, a2, a3, a4, a5⟩ := hC
  obtain ⟨b1, b2, b3, b4, b5, b6, b7, b8⟩ := hJ
  have old : ∀ j, ¬ j = 8 → ¬ j = 9 → ¬ j = 5 → τ2.1 5 0 j = σ.1 5 0 j := fun j h8 h9 h5 => by
    rw [b3 j h8 h9, a4 j h9, m_up_ne h5]
  have row : ∀ c v, ¬ (c = 5 ∧ v = 0) → ¬ (c = 12 ∧ (v = 3 ∨ v = 4)) → τ1.1 c v = σ.1 c v := fun c v h1 h2 => by
    rw [a5 c v h1 h2, m_up_other h1]
  refine ⟨⟨?_, ?_, ?_, ?_, ?_, ?_, ?_, ?_⟩, ⟨?_, ?_⟩, fun q hq => ?_, fun u hu => ?_, fun i hi => ?_, fun u hu => ?_, fun c v h1 h2 => ?_⟩
  · rw [hr, if_neg (by omega), if_neg (by omega), if_neg (by omega), if_neg (by omega)]
    exact old 0 (by omega) (by omega) (by omega)
  · rw [hr, if_neg (by omega), if_neg (by omega), if_neg (by omega), if_neg (by omega)]
    exact old 1 (by omega) (by omega) (by omega)
  · rw [hr, if_neg (by omega), if_neg (by omega), if_neg (by omega), if_neg (by omega)]
    exact old 3 (by omega) (by omega) (by omega)
  · rw [hr, if_pos rfl]
  · rw [hr, if_neg (by omega), if_neg (by omega), if_neg (by omega), if_neg (by omega), b3 5 (by omega) (by omega), a4 5 (by omega), m_up_eq rfl]
  · rw [hr, if_neg (by omega), if_neg (by omega), if_neg (by omega), if_pos rfl]
  · rw [hr, if_neg (by omega), if_neg (by omega), if_neg (by omega), if_neg (by omega)]
    exact b1
  · rw [hr, if_neg (by omega), if_neg (by omega), if_neg (by omega), if_neg (by omega)]
    exact b2
  · rw [hr, if_neg (by omega), if_pos rfl]
    exact h2
  · rw [hr, if_neg (by omega), if_neg (by omega), if_pos rfl]
    exact h7
  · rw [ho 12 0 (by omega), ho 12 1 (by omega), ho 12 2 (by omega), ho 12 3 (by omega)]
    obtain ⟨z0, z1, z2, z3⟩ := b4 q hq
    refine ⟨?_, ?_, ?_, ?_⟩
    · rw [z0, row 12 0 (by omega) (by omega)]
    · rw [z1, row 12 1 (by omega) (by omega)]
    · rw [z2, row 12 2 (by omega) (by omega)]
    · rw [z3, a3 q, m_up_other (by omega)]
  · rw [ho 12 0 (by omega), ho 12 1 (by omega), ho 12 2 (by omega), ho 12 3 (by omega)]
    exact b5 u hu
  · rw [ho 12 4 (by omega), b6 i hi]
    exact a2 i hi
  · rw [ho 12 4 (by omega)]
    exact b7 u hu
  · rw [ho c v h1, b8 c v h1 h2, row c v h1 (by omega)]
/-- what the model has done -/
def e_M (μ μ' : m_M) (D N s w a n h d : Nat) (L K R H : Nat → Nat) (GG : Nat → Bool) : Prop := ∃ μ1 : m_M, q_wf (μ1.1 13 3) D N s w a d L K R H ∧ (∀ q, q < N → μ1.1 13 3 (72 + 4 * q) = if GG q = true then nI d else μ.1 13 3 (72 + 4 * q)) ∧
  (μ'.1 13 3 0 = μ1.1 13 3 0 ∧ μ'.1 13 3 2 = μ.1 13 3 2 ∧ μ'.1 13 3 3 = nI n ∧ μ'.1 13 3 4 = nI d ∧ μ'.1 13 3 5 = μ.1 13 3 5 + nI h * μ.1 13 3 2 ∧ μ'.1 13 3 7 = nI (N + n) ∧ μ'.1 13 3 8 = nI (s + n)) ∧
  (μ'.1 13 3 1 = (if nI (s + n) ≤ μ.1 13 3 1 then μ.1 13 3 1 - nI (s + n) else μ.1 13 3 1) ∧ μ'.1 13 3 6 = (if nI (s + n) ≤ μ.1 13 3 1 then μ.1 13 3 6 else μ.1 13 3 6 + Int32.ofInt 1)) ∧
  (∀ i, i < s → μ'.1 13 3 (9 + i) = μ1.1 13 3 (9 + i)) ∧ (∀ u, u < n → μ'.1 13 3 (9 + (s + u)) = nI (N + u)) ∧
  (∀ q k, q < N → k < 4 → μ'.1 13 3 (69 + k + 4 * q) = μ1.1 13 3 (69 + k + 4 * q)) ∧
  (∀ u, u < n → μ'.1 13 3 (69 + 4 * (N + u)) = nI (d_k n h u) ∧ μ'.1 13 3 (70 + 4 * (N + u)) = 0 ∧ μ'.1 13 3 (71 + 4 * (N + u)) = 0 ∧ μ'.1 13 3 (72 + 4 * (N + u)) = -1000000) ∧ (∀ c v, ¬ (c = 13 ∧ v = 3) → μ'.1 c v = μ.1 c v)
theorem z_mday {μ μ1 μ2 ρ : m_M} {D N m w a n h d g : Nat} {L K R H : Nat → Nat} {x1 x6 : Int32} (hM : d_M (m_up μ 13 3 4 (nI d)) D N m w a d L K R H g μ1) (hJ : e_J μ1 N (m - g) n h n μ2)
    (hr : ∀ j, ρ.1 13 3 j = if j = 3 then nI n else if j = 6 then x6 else if j = 1 then x1 else if j = 5 then μ.1 13 3 5 + nI h * μ.1 13 3 2 else μ2.1 13 3 j) (ho : ∀ c v, ¬ (c = 13 ∧ v = 3) → ρ.1 c v = μ2.1 c v)
    (h1 : x1 = (if nI (m - g + n) ≤ μ.1 13 3 1 then μ.1 13 3 1 - nI (m - g + n) else μ.1 13 3 1)) (h6 : x6 = (if nI (m - g + n) ≤ μ.1 13 3 1 then μ.1 13 3 6 else μ.1 13 3 6 + Int32.ofInt 1)) : e_M μ ρ D N (m - g) w a n h d (q_LL (q_tu w K R) g m L) K R H (q_GG (q_tu w K R) g m L) := by
  obtain ⟨a1, a2, a3, a4⟩ := hM
  obtain ⟨b1, b2, b3, b4, b5, b6, b7, b8⟩ := hJ
  have hi : ∀ j, 7 ≤ j → ρ.1 13 3 j = μ2.1 13 3 j := fun j hj => by
    rw [hr, if_neg (by omega), if_neg (by omega), if_neg (by omega), if_neg (by omega)]
  refine ⟨μ1, a1, fun q hq => ?_, ⟨?_, ?_, ?_, ?_, ?_, ?_, ?_⟩, ⟨?_, ?_⟩, fun i hi' => ?_, fun u hu => ?_, fun q k hq hk => ?_, fun u hu => ?_, fun c v h => ?_⟩
  · rw [a2 q hq, m_up_ne (by omega)]
  · rw [hr, if_neg (by omega), if_neg (by omega), if_neg (by omega), if_neg (by omega)]
    exact b3 0 (by omega)
  · rw [hr, if_neg (by omega), if_neg (by omega), if_neg (by omega), if_neg (by omega), b3 2 (by omega), a3 2 (by omega), m_up_ne (by omega)]
  · rw [hr, if_pos rfl]
  · rw [hr, if_neg (by omega), if_neg (by omega), if_neg (by omega), if_neg (by omega), b3 4 (by omega), a3 4 (by omega), m_up_eq rfl]
  · rw [hr, if_neg (by omega), if_neg (by omega), if_neg (by omega), if_pos rfl]
  · rw [hi 7 (by omega)]
    exact b1
  · rw [hi 8 (by omega)]
    exact b2
  · rw [hr, if_neg (by omega), if_neg (by omega), if_pos rfl]
    exact h1
  · rw [hr, if_neg (by omega), if_pos rfl]
    exact h6
  · rw [hi _ (by omega)]
    exact b4 i hi'
  · rw [hi _ (by omega)]
    exact b5 u hu
  · rw [hi _ (by omega)]
    exact b6 q k hq hk
  · rw [hi _ (by omega), hi _ (by omega), hi _ (by omega), hi _ (by omega)]
    exact b7 u hu
  · rw [ho c v h, b8 c v h, a4 c v h, m_up_other h]
