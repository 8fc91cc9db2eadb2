/-! own words: pure part: levels read on both sides, whole -/
theorem x10_95 {k9 : Mem → Int64 → Option (Int32 × Mem × Int64)} {σ : Mem} {w : Int64} {k : Nat} (hk : k < 4) (h10 : σ 0 10 = nI k) : X10_readLevels_95 k9 (nI k) 0 σ w = X10_readLevels_112 k9 (up σ 5 k 0) w ∧ X10_readLevels_95 k9 (nI k) 1 σ w = bd (X10_next (up σ 5 k 1) w) fun r => X10_readLevels_112 k9 r.1 r.2 := by
  have e10 : ∀ v, up σ 5 k v 0 10 = nI k := fun _ => h10
  have e5 : ∀ v, up σ 5 k v 5 k = v := fun v => by
    unfold up
    rw [upc_s, pk_us]
  constructor
  · unfold X10_readLevels_95
    rw [gd_i (vp_in_nI (by omega) (by omega)), nI_clamp (by omega)]
    show gd (up σ 5 k 0 0 10) 4 (if up σ 5 k 0 5 (Int32.toNatClampNeg (up σ 5 k 0 0 10)) = 0 then _ else _) = _
    rw [e10, gd_i (vp_in_nI (by omega) (by omega)), nI_clamp (by omega), e5, if_pos rfl]
    rfl
  · unfold X10_readLevels_95
    rw [gd_i (vp_in_nI (by omega) (by omega)), nI_clamp (by omega)]
    show gd (up σ 5 k 1 0 10) 4 (if up σ 5 k 1 5 (Int32.toNatClampNeg (up σ 5 k 1 0 10)) = 0 then _ else bd (X10_next (up σ 5 k 1) w) fun r => X10_readLevels_112 k9 r.1 r.2) = _
    rw [e10, gd_i (vp_in_nI (by omega) (by omega)), nI_clamp (by omega), e5, if_neg (by decide)]
theorem form_none {τ : Mem} : X10_formOf τ 0 = some (-1) ∧ X10_formOf τ 59 = some (-1) ∧ X10_formOf τ (-1) = some (-1) := ⟨rfl, rfl, rfl⟩
theorem x10_25 {k9 : Mem → Int64 → Option (Int32 × Mem × Int64)} {σ : Mem} {w : Int64} (h : X10_formOf σ w = some (-1)) : X10_readLevels_25 k9 σ w = bd (X10_cant σ w) fun r6 => lt (r6.2.1) fun σ7 => lt (r6.2.2) fun w8 => gp (r6.1 = 0 ∨ r6.1 = 1) <| some (r6.1, σ7, w8) := by
  unfold X10_readLevels_25
  rw [h, bd_s]
  exact if_neg (by decide)
theorem x10_25f {k9 : Mem → Int64 → Option (Int32 × Mem × Int64)} {σ : Mem} {w : Int64} {f : Nat} (hf : f < 4) (h : X10_formOf σ w = some (nI f)) : X10_readLevels_25 k9 σ w = if σ 0 10 = 4 then some (0, up (up σ 0 12 (nI 3)) 0 13 (σ 0 15), w) else bd (X10_next σ w) fun r20 => gd (r20.1 0 10) 4 <| if lg_cmp r20.2 32765938003961704 = 0 then X10_readLevels_95 k9 (up r20.1 3 (Int32.toNatClampNeg (r20.1 0 10)) (nI f) 0 10) 1 (up r20.1 3 (Int32.toNatClampNeg (r20.1 0 10)) (nI f)) r20.2 else X10_readLevels_95 k9 (up r20.1 3 (Int32.toNatClampNeg (r20.1 0 10)) (nI f) 0 10) 0 (up r20.1 3 (Int32.toNatClampNeg (r20.1 0 10)) (nI f)) r20.2 := by
  have e3 : (bd (X10_wrong 3 (σ 0 15) σ) fun r26 => lt (r26.2) fun σ27 => gp (r26.1 = 0 ∨ r26.1 = 1) <| some (r26.1, σ27, w)) = some (0, up (up σ 0 12 (nI 3)) 0 13 (σ 0 15), w) := by
    show (gp ((0 : Int32) = 0 ∨ (0 : Int32) = 1) _ : Option (Int32 × Mem × Int64)) = _
    exact if_pos (Or.inl rfl)
  unfold X10_readLevels_25
  rw [h, bd_s, if_pos (nI_pos' (by omega)), e3]
  rfl
/-- a level's form is read: what comes after it -/
theorem lv_form {T : List Nat} {e k f m m2 : Nat} {μ τ : Mem} {w : Int64} (hT : TXT T (mp μ [4, 5])) (he : e ≤ T.length) (hm : T.length - e < m) (hm2 : T.length - e ≤ m2) (h0 : μ 0 0 = 0) (h2 : μ 0 2 = nI 1) (hc : μ 1 2 = nI (k + 1)) (hk : k < 4) (hf : f < 4) (hb : BTS T e τ) (h10 : τ 0 10 = nI k) (hc2 : μ 2 k = nI f) (hc3 : μ 3 k = nI 0) (hC : LVC k μ τ) (hJ : ∀ q, e < q → q ≤ T.length → JP T q) :
    LRES μ τ (X7_readInto_22 m (nI e) μ) (bd (X10_next τ w) fun r20 => gd (r20.1 0 10) 4 <| if lg_cmp r20.2 32765938003961704 = 0 then X10_readLevels_95 (X10_readLevels_9 m2) (up r20.1 3 (Int32.toNatClampNeg (r20.1 0 10)) (nI f) 0 10) 1 (up r20.1 3 (Int32.toNatClampNeg (r20.1 0 10)) (nI f)) r20.2 else X10_readLevels_95 (X10_readLevels_9 m2) (up r20.1 3 (Int32.toNatClampNeg (r20.1 0 10)) (nI f) 0 10) 0 (up r20.1 3 (Int32.toNatClampNeg (r20.1 0 10)) (nI f)) r20.2) := by
  have h200 := hT.1
  obtain ⟨τ2, w2, j1, j2, j3, j4, j5, j6, j7⟩ := x10_next (w := w) hT.1 hT.2.2.2 he hb
  have j10 : τ2 0 10 = nI k := (j2.2 10 (by decide)).trans h10
  have u : (bd (X10_next τ w) fun r20 => gd (r20.1 0 10) 4 <| if lg_cmp r20.2 32765938003961704 = 0 then X10_readLevels_95 (X10_readLevels_9 m2) (up r20.1 3 (Int32.toNatClampNeg (r20.1 0 10)) (nI f) 0 10) 1 (up r20.1 3 (Int32.toNatClampNeg (r20.1 0 10)) (nI f)) r20.2 else X10_readLevels_95 (X10_readLevels_9 m2) (up r20.1 3 (Int32.toNatClampNeg (r20.1 0 10)) (nI f) 0 10) 0 (up r20.1 3 (Int32.toNatClampNeg (r20.1 0 10)) (nI f)) r20.2) = if lg_cmp w2 32765938003961704 = 0 then X10_readLevels_95 (X10_readLevels_9 m2) (nI k) 1 (up τ2 3 k (nI f)) w2 else X10_readLevels_95 (X10_readLevels_9 m2) (nI k) 0 (up τ2 3 k (nI f)) w2 := by
    rw [j1, bd_s]
    show gd (τ2 0 10) 4 (if lg_cmp w2 32765938003961704 = 0 then X10_readLevels_95 (X10_readLevels_9 m2) (up τ2 3 (Int32.toNatClampNeg (τ2 0 10)) (nI f) 0 10) 1 (up τ2 3 (Int32.toNatClampNeg (τ2 0 10)) (nI f)) w2 else X10_readLevels_95 (X10_readLevels_9 m2) (up τ2 3 (Int32.toNatClampNeg (τ2 0 10)) (nI f) 0 10) 0 (up τ2 3 (Int32.toNatClampNeg (τ2 0 10)) (nI f)) w2) = _
    rw [j10, gd_i (vp_in_nI (by omega) (by omega)), nI_clamp (by omega)]
    have : up τ2 3 k (nI f) 0 10 = nI k := j10
    rw [this]
  rw [u]
  clear u j1
  have t3 : up τ2 3 k (nI f) 3 = upd (τ2 3) k (nI f) := upc_s _ _ _
  have t5 : up τ2 3 k (nI f) 5 = τ2 5 := upc_n _ _ (by decide)
  have fr3 : FR [3] [] τ2 (up τ2 3 k (nI f)) := FR.rf.cel (by decide) (by decide)
  have j10' : up τ2 3 k (nI f) 0 10 = nI k := j10
  have j15 : up τ2 3 k (nI f) 0 15 = nI (sk T e) := j3
  have e23 : τ2 3 = τ 3 := j2.1 3 (by decide) (by decide)
  have e25 : τ2 5 = τ 5 := j2.1 5 (by decide) (by decide)
  generalize up τ2 3 k (nI f) = τ3 at t3 t5 fr3 j10' j15 ⊢
  have f2 : FR [3, 5] [4, 10, 15] τ τ3 := (j2.mono (by decide) (by decide)).tr (fr3.mono (by decide) (by decide))
  have hLC : ∀ (t : Nat) (μ3 τ4 : Mem), t < 2 → μ3 2 = μ 2 → μ3 3 k = nI t → (∀ j, j ≠ k → μ3 3 j = μ 3 j) → τ4 3 = τ3 3 → τ4 5 = upd (τ3 5) k (nI t) → LVC (k + 1) μ3 τ4 := fun t μ3 τ4 ht y1 y2 y2' y3 y4 j hj => by
    rw [y1, y3, y4, t3, t5]
    by_cases z : j = k
    · rw [z, y2, pk_us, pk_us, hc2]
      exact ⟨f, t, hf, ht, rfl, rfl, rfl, rfl⟩
    · rw [pk_un z, pk_un z, y2' j z, e23, e25]
      exact hC j (by omega)
  obtain ⟨x95a, x95b⟩ := x10_95 (k9 := X10_readLevels_9 m2) (σ := τ3) (w := w2) (k := k) hk j10'
  rw [x95a, x95b]
  clear x95a x95b
  have close1 : (sk T e < T.length → isS (T.getD (sk T e) 0) = true → X8_isWord (nI (sk T e)) (nI (ew T (sk T e))) 0 (mp μ [4, 5]) = some 0) → LRES μ τ (X7_readInto_22 m (nI e) μ) (X10_readLevels_112 (X10_readLevels_9 m2) (up τ3 5 k 0) w2) := fun hnt => by
    have fx : FR [5] [] τ3 (up τ3 5 k 0) := FR.rf.cel (by decide) (by decide)
    have hl : LVC (k + 1) μ (up τ3 5 k 0) := hLC 0 μ _ (by omega) rfl hc3 (fun _ _ => rfl) (upc_n _ _ (by decide)) (upc_s _ _ _)
    have fe : FR [3, 5] [4, 10, 15] τ (up τ3 5 k 0) := f2.cel (by decide) (by decide)
    have k10 : up τ3 5 k 0 0 10 = nI k := j10'
    have k15 : up τ3 5 k 0 0 15 = nI (sk T e) := j15
    generalize up τ3 5 k 0 = τ4 at fx hl fe k10 k15 ⊢
    exact (lv_close hT he hm hm2 h0 (Or.inl rfl) h2 hk hc hl k10 k15 j4 (fun a b => ⟨(j5 a b).1, ((j5 a b).2.fr fr3 (by decide) (by decide)).fr fx (by decide) (by decide)⟩) j6 (fun a b => (j7 a b).1) (fun _ => hnt) hJ).step rfl rfl rfl fe
  obtain ⟨q1, q2, q3⟩ := sk_ok he
  rcases Nat.lt_or_ge (sk T e) T.length with hlt2 | hge2
  · by_cases h592 : T.getD (sk T e) 0 = 59
    · have nS : ¬ isS (T.getD (sk T e) 0) = true := by rw [h592]; decide
      rw [if_neg (show ¬ lg_cmp w2 32765938003961704 = 0 by rw [(j5 hlt2 h592).1]; decide)]
      exact close1 (fun _ z => absurd z nS)
    · by_cases hS2 : isS (T.getD (sk T e) 0) = true
      · obtain ⟨hw2, hb2⟩ := j7 hlt2 hS2
        obtain ⟨y1, y2, y3⟩ := ew_ok hlt2 hS2
        have hwb := word_both (i := 0) hT (by omega) y2 (by omega) y3
        rw [← hw2] at hwb
        change (_ ∧ lg_cmp w2 32765938003961704 = 0) ∨ (_ ∧ ¬ lg_cmp w2 32765938003961704 = 0) at hwb
        rcases hwb with ⟨z1, z2⟩ | ⟨z1, z2⟩
        · rw [if_pos z2]
          -- through
          have fx : FR [5] [] τ3 (up τ3 5 k 1) := FR.rf.cel (by decide) (by decide)
          have k5 : up τ3 5 k 1 5 = upd (τ3 5) k (nI 1) := upc_s _ _ _
          generalize up τ3 5 k 1 = τ4 at fx k5 ⊢
          obtain ⟨τ5, w5, l1, l2, l3, l4, l5, l6, l7⟩ := x10_next (w := w2) hT.1 hT.2.2.2 y2 ((hb2.fr fr3 (by decide) (by decide)).fr fx (by decide) (by decide))
          obtain ⟨m3, hm3, -, -, -, d4⟩ := x7_tok hT h0 he hm
          have hm12' : mp μ [1, 2, 3] 0 2 = nI (k + 1) := hc
          have etw : X7_takeWord (nI (sk T e)) (nI (ew T (sk T e))) μ = some (up (mg μ [1, 2, 3] (up (mp μ [1, 2, 3]) 2 k 1)) 0 2 2) := by
            unfold X7_takeWord
            rw [if_pos (show μ 0 2 = 1 from h2), z1, bd_s, if_neg (show ¬ (1 : Int32) = 0 by decide), x6_last hm12' hk, bd_s]
            rfl
          rw [d4 hlt2 hS2, etw, bd_s, l1, bd_s]
          have l10 : τ5 0 10 = nI k := (l2.2 10 (by decide)).trans ((fx.2 10 (by decide)).trans j10')
          have g0 : up (mg μ [1, 2, 3] (up (mp μ [1, 2, 3]) 2 k 1)) 0 2 2 0 0 = 0 := h0
          have g2 : up (mg μ [1, 2, 3] (up (mp μ [1, 2, 3]) 2 k 1)) 0 2 2 0 2 = nI 2 := rfl
          have g12 : up (mg μ [1, 2, 3] (up (mp μ [1, 2, 3]) 2 k 1)) 0 2 2 1 2 = nI (k + 1) := hc
          have gT : TXT T (mp (up (mg μ [1, 2, 3] (up (mp μ [1, 2, 3]) 2 k 1)) 0 2 2) [4, 5]) := hT
          have g4 : up (mg μ [1, 2, 3] (up (mp μ [1, 2, 3]) 2 k 1)) 0 2 2 4 = μ 4 := rfl
          have g5 : up (mg μ [1, 2, 3] (up (mp μ [1, 2, 3]) 2 k 1)) 0 2 2 5 = μ 5 := rfl
          have g01 : up (mg μ [1, 2, 3] (up (mp μ [1, 2, 3]) 2 k 1)) 0 2 2 0 1 = μ 0 1 := rfl
          have g2c : up (mg μ [1, 2, 3] (up (mp μ [1, 2, 3]) 2 k 1)) 0 2 2 2 = μ 2 := rfl
          have g3c : up (mg μ [1, 2, 3] (up (mp μ [1, 2, 3]) 2 k 1)) 0 2 2 3 = upd (μ 3) k (nI 1) := rfl
          generalize up (mg μ [1, 2, 3] (up (mp μ [1, 2, 3]) 2 k 1)) 0 2 2 = μ3 at g0 g2 g12 gT g4 g5 g01 g2c g3c ⊢
          have hl : LVC (k + 1) μ3 τ5 := hLC 1 μ3 τ5 (by omega) g2c (by rw [g3c, pk_us]) (fun j hj => by rw [g3c, pk_un hj]) ((l2.1 3 (by decide) (by decide)).trans (fx.1 3 (by decide) (by decide))) ((l2.1 5 (by decide) (by decide)).trans k5)
          have fe : FR [3, 5] [4, 10, 15] τ τ5 := (f2.tr (fx.mono (by decide) (by decide))).tr (l2.mono (by decide) (by decide))
          exact (lv_close gT y2 (by omega) (by omega) g0 (Or.inr rfl) g2 hk g12 hl l10 l3 l4 l5 l6 (fun a b => (l7 a b).1) (fun z => absurd z (by decide)) (fun q h1 h2 => hJ q (by omega) h2)).step g4 g5 g01 fe
        · rw [if_neg z2]
          exact close1 (fun _ _ => z1)
      · rw [if_neg (show ¬ lg_cmp w2 32765938003961704 = 0 by rw [j6 hlt2 h592 hS2]; decide)]
        exact close1 (fun _ z => absurd z hS2)
  · rw [if_neg (show ¬ lg_cmp w2 32765938003961704 = 0 by rw [j4 (by omega)]; decide)]
    exact close1 (fun z => absurd z (by omega))
theorem jp {T : List Nat} : ∀ (n p : Nat), T.length - p ≤ n → p ≤ T.length → JP T p := by
  intro n
  induction n with
  | zero =>
    intro p hn hp m m2 k μ τ w hm hm2 hk hT h0 h2 hc hb h10 hC
    have h200 := hT.1
    obtain ⟨k1, k2, k3⟩ := sk_ok hp
    have hsl : sk T p = T.length := by omega
    obtain ⟨m', hm', c1, -⟩ := x7_tok hT h0 hp hm
    obtain ⟨τ1, w1, n1, n2, n3, n4, -⟩ := x10_next (w := w) hT.1 hT.2.2.2 hp hb
    have hw := n4 hsl
    subst hw
    have h10' : τ1 0 10 = nI k := (n2.2 10 (by decide)).trans h10
    obtain ⟨m2, rfl⟩ : ∃ z, m2 = z + 1 := ⟨m2 - 1, by omega⟩
    rw [c1 hsl, n1, bd_s]
    show LRES μ τ _ (if lg_cmp 0 0 = 0 then if τ1 0 10 = 0 then X10_readLevels_25 (X10_readLevels_9 m2) τ1 0 else some (1, τ1, 0) else X10_readLevels_25 (X10_readLevels_9 m2) τ1 0)
    unfold X7_readInto_121
    rw [if_pos (show lg_cmp 0 0 = 0 from (lg_cmp_eq _ _).mpr rfl), h10', if_pos h0, if_pos h2, hc]
    by_cases hk0 : k = 0
    · rw [if_pos (show nI k = 0 by rw [hk0]; rfl), if_pos (show nI k = 0 by rw [hk0]; rfl), x10_25 form_none.1, cantb2 (by decide)]
      have hlen : μ 4 1 = nI (sk T p) := by rw [hsl]; exact hT.2.1
      exact lres_bad (μ1 := mg μ [0] (up (up (mp μ [0]) 0 0 2) 0 1 (μ 4 1))) (kd := 2) (s := sk T p) rfl rfl rfl rfl hlen rfl (n2.mono (by decide) (by decide)) n3 (by omega) (by omega)
    · rw [if_neg (nI_ne0 (by omega) (by omega)), if_neg (nI_ne0 (by omega) (by omega))]
      refine ⟨μ, 1, τ1, 0, rfl, rfl, rfl, rfl, n2.mono (by decide) (by decide), Or.inl ⟨rfl, h0, rfl, n2.2 12 (by decide), n2.2 13 (by decide), k, by omega, hk, hc, h10', fun j hj => ?_⟩⟩
      rw [n2.1 3 (by decide) (by decide), n2.1 5 (by decide) (by decide)]
      exact hC j hj
  | succ n ih =>
    intro p hn hp m m2 k μ τ w hm hm2 hk hT h0 h2 hc hb h10 hC
    have h200 := hT.1
    obtain ⟨k1, k2, k3⟩ := sk_ok hp
    obtain ⟨m', hm', c1, c2, c3, c4⟩ := x7_tok hT h0 hp hm
    obtain ⟨τ1, w1, n1, n2, n3, n4, n5, n6, n7⟩ := x10_next (w := w) hT.1 hT.2.2.2 hp hb
    have h10' : τ1 0 10 = nI k := (n2.2 10 (by decide)).trans h10
    have f1 : FR [3, 5] [4, 10, 15] τ τ1 := n2.mono (by decide) (by decide)
    have hC1 : LVC k μ τ1 := fun j hj => by
      rw [n2.1 3 (by decide) (by decide), n2.1 5 (by decide) (by decide)]
      exact hC j hj
    obtain ⟨m2, rfl⟩ : ∃ z, m2 = z + 1 := ⟨m2 - 1, by omega⟩
    rw [n1, bd_s]
    have u9 : X10_readLevels_9 (m2 + 1) τ1 w1 = if lg_cmp w1 0 = 0 then if τ1 0 10 = 0 then X10_readLevels_25 (X10_readLevels_9 m2) τ1 w1 else some (1, τ1, w1) else X10_readLevels_25 (X10_readLevels_9 m2) τ1 w1 := rfl
    show LRES μ τ _ (X10_readLevels_9 (m2 + 1) τ1 w1)
    rw [u9]
    rcases Nat.lt_or_ge (sk T p) T.length with hlt | hge
    · by_cases h59 : T.getD (sk T p) 0 = 59
      · obtain ⟨hw, -⟩ := n5 hlt h59
        obtain ⟨m', rfl⟩ : ∃ z, m' = z + 1 := ⟨m' - 1, by omega⟩
        rw [hw, if_neg (show ¬ lg_cmp 59 0 = 0 by decide), x10_25 form_none.2.1, cantb2 (by decide), c2 hlt h59]
        have e1 : X7_takeSemicolon (nI (sk T p)) (mp μ [0]) = some (up (up (up (mp μ [0]) 0 0 2) 0 1 (nI (sk T p))) 0 2 0) := if_pos h2
        rw [e1, bd_s]
        exact lres_bad (kd := 2) (s := sk T p) (x7_flt (show ¬ (2 : Int32) = 0 by decide)) rfl rfl rfl rfl rfl f1 n3 (by omega) (by omega)
      · by_cases hS : isS (T.getD (sk T p) 0) = true
        · obtain ⟨hw, hb1⟩ := n7 hlt hS
          obtain ⟨e1, e2, e3⟩ := ew_ok hlt hS
          have hne := cdw_ne e3
          obtain ⟨r, g1, g2, g3⟩ := form_both (τ := τ1) hT e2 (by omega) e3
          rw [← hw] at g2 hne
          rw [if_neg (fun z => hne.1 ((lg_cmp_eq _ _).mp z)), c4 hlt hS]
          obtain ⟨m', rfl⟩ : ∃ z, m' = z + 1 := ⟨m' - 1, by omega⟩
          have e30 : X7_takeWord (nI (sk T p)) (nI (ew T (sk T p))) μ = if r = -1 then X7_takeWord_52 (nI (sk T p)) (nI (ew T (sk T p))) μ else if μ 1 2 = 4 then some (mg μ [0] (up (up (mp μ [0]) 0 0 3) 0 1 (nI (sk T p)))) else bd (X6_append r (mp μ [1, 2, 3])) fun r7 => some (up (mg μ [1, 2, 3] r7) 0 2 1) := by
            unfold X7_takeWord X7_takeWord_30
            rw [if_neg (show ¬ μ 0 2 = 1 by rw [h2]; decide), g1, bd_s, if_pos h2]
            rfl
          rw [e30]
          rcases g3 with rfl | ⟨f, hf, rfl⟩
          · rw [if_pos rfl, x10_25 g2, cantb2 hne.2.2]
            show LRES μ τ (X7_readInto_22 (m' + 1) (nI (ew T (sk T p))) (mg μ [0] (up (up (mp μ [0]) 0 0 2) 0 1 (nI (sk T p))))) _
            exact lres_bad (kd := 2) (s := sk T p) (x7_flt (show ¬ (2 : Int32) = 0 by decide)) rfl rfl rfl rfl rfl f1 n3 (by omega) (by omega)
          · have hfn : ¬ nI f = -1 := fun z => nI_pos (n := f) (by omega) (by rw [z]; decide)
            rw [if_neg hfn, hc, x10_25f hf g2, h10']
            by_cases hk4 : k = 4
            · rw [if_pos (show nI k = 4 by rw [hk4]; rfl), if_pos (show nI k = 4 by rw [hk4]; rfl), bd_s]
              exact lres_bad (kd := 3) (s := sk T p) (x7_flt (show ¬ (3 : Int32) = 0 by decide)) rfl rfl rfl rfl rfl f1 n3 (by omega) (by omega)
            · have hk4' : ¬ nI k = 4 := fun z => hk4 ((nI_eq (b := 4) (by omega) (by omega)).mp z)
              have hc' : mp μ [1, 2, 3] 0 2 = nI k := hc
              rw [if_neg hk4', if_neg hk4', x6_app hc' (by omega), bd_s, bd_s]
              have hform := lv_form (T := T) (e := ew T (sk T p)) (k := k) (f := f) (m := m' + 1) (m2 := m2) (μ := up (mg μ [1, 2, 3] (up (up (up (mp μ [1, 2, 3]) 1 k (nI f)) 2 k 0) 0 2 (nI (k + 1)))) 0 2 1) (τ := τ1) (w := w1) hT e2 (by omega) (by omega) h0 rfl rfl (by omega) hf hb1 h10' pk_us pk_us (fun j hj => by
                have hc2 : up (mg μ [1, 2, 3] (up (up (up (mp μ [1, 2, 3]) 1 k (nI f)) 2 k 0) 0 2 (nI (k + 1)))) 0 2 1 2 = upd (μ 2) k (nI f) := rfl
                have hc3 : up (mg μ [1, 2, 3] (up (up (up (mp μ [1, 2, 3]) 1 k (nI f)) 2 k 0) 0 2 (nI (k + 1)))) 0 2 1 3 = upd (μ 3) k 0 := rfl
                rw [hc2, hc3, pk_un (show j ≠ k by omega), pk_un (show j ≠ k by omega)]
                exact hC1 j hj) (fun q z1 z2 => ih q (by omega) z2)
              exact hform.step rfl rfl rfl f1
        · have hw := n6 hlt h59 hS
          rw [hw, if_neg (show ¬ lg_cmp (-1) 0 = 0 by decide), x10_25 form_none.2.2, cantb1 rfl, c3 hlt h59 hS]
          exact lres_bad (kd := 1) (s := sk T p) rfl rfl rfl rfl rfl rfl f1 n3 (by omega) (by omega)
    · have hsl : sk T p = T.length := by omega
      have hw := n4 hsl
      subst hw
      rw [c1 hsl]
      unfold X7_readInto_121
      rw [if_pos (show lg_cmp 0 0 = 0 from (lg_cmp_eq _ _).mpr rfl), h10', if_pos h0, if_pos h2, hc]
      by_cases hk0 : k = 0
      · rw [if_pos (show nI k = 0 by rw [hk0]; rfl), if_pos (show nI k = 0 by rw [hk0]; rfl), x10_25 form_none.1, cantb2 (by decide)]
        have hlen : μ 4 1 = nI (sk T p) := by rw [hsl]; exact hT.2.1
        exact lres_bad (μ1 := mg μ [0] (up (up (mp μ [0]) 0 0 2) 0 1 (μ 4 1))) (kd := 2) (s := sk T p) rfl rfl rfl rfl hlen rfl f1 n3 (by omega) (by omega)
      · rw [if_neg (nI_ne0 (by omega) (by omega)), if_neg (nI_ne0 (by omega) (by omega))]
        exact ⟨μ, 1, τ1, 0, rfl, rfl, rfl, rfl, n2.mono (by decide) (by decide), Or.inl ⟨rfl, h0, rfl, n2.2 12 (by decide), n2.2 13 (by decide), k, by omega, hk, hc, h10', hC1⟩⟩
