/-! own words: pure part: levels -/
theorem bool_tab : ∀ t, t < 2 → vp_nar .boolean (nI t) = nI t := by decide +kernel
theorem x6_bec : ∀ (d x m : Nat) (μ : Mem), x + d = 4 → d < m → (∀ j, j < x → μ 1 j = μ 4 j ∧ μ 2 j = vp_nar .boolean (μ 5 j)) → ∃ μ1, X6_become_2 m (nI x) μ = some μ1 ∧ μ1 0 2 = μ 3 2 ∧ (∀ j, j < 4 → μ1 1 j = μ 4 j ∧ μ1 2 j = vp_nar .boolean (μ 5 j)) := by
  intro d
  induction d with
  | zero =>
    intro x m μ hx hm h
    obtain ⟨m, rfl⟩ : ∃ z, m = z + 1 := ⟨m - 1, by omega⟩
    refine ⟨up μ 0 2 (μ 3 2), ?_, rfl, fun j hj => h j (by omega)⟩
    unfold X6_become_2
    rw [if_pos (show (4 : Int32) ≤ nI x from nI_le (a := 4) (by omega) (by omega))]
    rfl
  | succ d ih =>
    intro x m μ hx hm h
    obtain ⟨m, rfl⟩ : ∃ z, m = z + 1 := ⟨m - 1, by omega⟩
    have u : X6_become_2 (m + 1) (nI x) μ = X6_become_2 m (nI (x + 1)) (up (up μ 1 x (μ 4 x)) 2 x (vp_nar .boolean (μ 5 x))) := by
      conv => lhs; unfold X6_become_2
      rw [if_neg (show ¬ (4 : Int32) ≤ nI x from nI_ge (b := 4) (by omega) (by omega)), gd_i (vp_in_nI (by omega) (by omega)), gd_i (vp_in_nI (by omega) (by omega)), nI_clamp (by omega)]
      simp only [lt]
      rw [gd_i (vp_in_nI (by omega) (by omega)), gd_i (vp_in_nI (by omega) (by omega)), nI_1]
      rfl
    obtain ⟨μ1, g1, g2, g3⟩ := ih (x + 1) m (up (up μ 1 x (μ 4 x)) 2 x (vp_nar .boolean (μ 5 x))) (by omega) (by omega) (fun j hj => by
      show upd (μ 1) x (μ 4 x) j = μ 4 j ∧ upd (μ 2) x (vp_nar .boolean (μ 5 x)) j = vp_nar .boolean (μ 5 j)
      by_cases z : j = x
      · rw [z, pk_us, pk_us]
        exact ⟨rfl, rfl⟩
      · rw [pk_un z, pk_un z]
        exact h j (by omega))
    exact ⟨μ1, u.trans g1, g2, g3⟩
theorem x10_43 {k : Nat} {w : Int64} (hk : k ≤ 4) : ∀ (d x m : Nat) (τ : Mem), x + d = k → d < m → τ 0 9 = nI k → (∀ j, j < k → ∃ f t, f < 4 ∧ t < 2 ∧ τ 3 j = nI f ∧ τ 5 j = nI t) → (∀ j, j < x → τ 2 j = τ 3 j ∧ τ 4 j = τ 5 j) → ∃ τ1, X10_levels_43 m (nI x) τ w = some (nI k, τ1, w) ∧ FR [2, 4] [11, 21, 25, 29] τ τ1 ∧ τ1 0 21 = 0 ∧ τ1 0 25 = 0 ∧ τ1 0 29 = 0 ∧ τ1 0 11 = 0 ∧ ∀ j, j < k → τ1 2 j = τ 3 j ∧ τ1 4 j = τ 5 j := by
  intro d
  induction d with
  | zero =>
    intro x m τ hx hm h9 hc h
    obtain ⟨m, rfl⟩ : ∃ z, m = z + 1 := ⟨m - 1, by omega⟩
    refine ⟨up (up (up (up τ 0 21 0) 0 25 0) 0 29 0) 0 11 0, ?_, (((FR.rf.fld (by decide)).fld (by decide)).fld (by decide)).fld (by decide), rfl, rfl, rfl, rfl, fun j hj => h j (by omega)⟩
    unfold X10_levels_43
    rw [h9, if_pos (nI_le (by omega) (by omega))]
    show some (τ 0 9, _) = _
    rw [h9]
  | succ d ih =>
    intro x m τ hx hm h9 hc h
    obtain ⟨m, rfl⟩ : ∃ z, m = z + 1 := ⟨m - 1, by omega⟩
    obtain ⟨f, t, hf, ht, hc3, hc5⟩ := hc x (by omega)
    have u : X10_levels_43 (m + 1) (nI x) τ w = X10_levels_43 m (nI (x + 1)) (up (up τ 2 x (τ 3 x)) 4 x (τ 5 x)) w := by
      conv => lhs; unfold X10_levels_43
      rw [h9, if_neg (nI_ge (by omega) (by omega)), gd_i (vp_in_nI (by omega) (by omega)), gd_i (vp_in_nI (by omega) (by omega)), nI_clamp (by omega)]
      simp only [lt]
      rw [gd_i (vp_in_nI (by omega) (by omega)), gd_i (vp_in_nI (by omega) (by omega)), nI_1]
      show X10_levels_43 m (nI (x + 1)) (up (up τ 2 x (τ 3 x)) 4 x (vp_nar .boolean (τ 5 x))) w = _
      rw [hc5, bool_tab t ht]
    obtain ⟨τ1, g1, g2, g3, g4, g5, g6, g7⟩ := ih (x + 1) m (up (up τ 2 x (τ 3 x)) 4 x (τ 5 x)) (by omega) (by omega) h9 hc (fun j hj => by
      show upd (τ 2) x (τ 3 x) j = τ 3 j ∧ upd (τ 4) x (τ 5 x) j = τ 5 j
      by_cases z : j = x
      · rw [z, pk_us, pk_us]
        exact ⟨rfl, rfl⟩
      · rw [pk_un z, pk_un z]
        exact h j (by omega))
    exact ⟨τ1, u.trans g1, ((FR.rf.cel (by decide) (by decide)).cel (by decide) (by decide)).tr g2, g3, g4, g5, g6, g7⟩
def L5 (σ μ1 : Mem) : Mem := up (up (up (mg σ [11, 8, 9, 10, 1, 2] μ1) 1 1 0) 0 11 (μ1 0 0)) 0 12 (μ1 0 1)
def L10 (σ ρ : Mem) : Mem := mg (mg σ [5, 6, 7, 8, 9, 10] ρ) [15, 16, 17, 18, 19, 20] (up (up (mp (mg σ [5, 6, 7, 8, 9, 10] ρ) [15, 16, 17, 18, 19, 20]) 0 5 0) 0 6 0)
def C2 (μ : Mem) : Mem := up (mg μ [5] (upc (mp μ [5]) 0 (fillF (mp μ [5] 0) (-1) 0 80))) 0 5 0
def L12 (σ : Mem) : Mem := mg σ [21, 22, 23, 24, 25, 26, 32] (C2 (mp σ [21, 22, 23, 24, 25, 26, 32]))
def L15 (σ : Mem) : Mem := up (mg σ [27, 28, 29, 30] (up (up (mp σ [27, 28, 29, 30]) 0 3 0) 0 4 0)) 0 10 0
theorem x2_clear (μ : Mem) : X2_clear μ = some (C2 μ) := by
  unfold X2_clear
  rw [fill_all, bd_s]
  rfl
set_option maxRecDepth 20000 in
theorem x9_levels (σ : Mem) : X9_levels σ = bd (X7_readInto_22 FU 0 (up (up (up (up (mp σ [11, 8, 9, 10, 1, 2]) 1 2 0) 0 0 0) 0 1 (-1)) 0 2 0)) fun r1 => if r1 0 0 = 0 then bd (X6_become_2 FU 0 (mp (L5 σ r1) [5, 6, 7, 8, 9, 10])) fun r7 => some (L10 (L5 σ r1) r7 5 2, L15 (L12 (L10 (L5 σ r1) r7))) else some (-1 - r1 0 1, L5 σ r1) := by
  have e : X9_levels σ = bd (X7_readInto_22 FU 0 (up (up (up (up (mp σ [11, 8, 9, 10, 1, 2]) 1 2 0) 0 0 0) 0 1 (-1)) 0 2 0)) fun r1 => if r1 0 0 = 0 then bd (X6_become_2 FU 0 (mp (L5 σ r1) [5, 6, 7, 8, 9, 10])) fun r7 => bd (X2_clear (mp (L10 (L5 σ r1) r7) [21, 22, 23, 24, 25, 26, 32])) fun r11 => some (L15 (mg (L10 (L5 σ r1) r7) [21, 22, 23, 24, 25, 26, 32] r11) 5 2, L15 (mg (L10 (L5 σ r1) r7) [21, 22, 23, 24, 25, 26, 32] r11)) else some (-1 - r1 0 1, L5 σ r1) := rfl
  rw [e]
  congr 1
  funext r1
  congr 1
  congr 1
  funext r7
  rw [x2_clear, bd_s]
  rfl
theorem Rel0.rd2 {T O : List Nat} {L : Nat} {fm th : Nat → Nat} {dy n : Nat} {lv ur cm st od : Nat → Nat} {H : List C4} {R : Nat} {A : List A3} {σ σ1 τ τ1 : Mem} {i κ : Nat} {w : Int64}
    (c : RC T O L fm th dy n lv ur cm st od H R A σ) (r : RR T O L fm th dy n lv ur cm st od H A τ) (hw : RW L fm th dy n lv ur st od H R A i κ)
    (f : FR [1, 2, 8, 9, 10, 11] [11, 12] σ σ1) (h0 : σ1 1 1 = 0) (g : FR [3, 5] [0, 2, 3, 4, 10, 12, 13, 15] τ τ1) (h2 : τ1 0 2 = 0) (s4 : RS4 σ1 τ1) : Rel0 (i + 6) σ1 τ1 w κ := by
  obtain ⟨c1, c2, c3, c4, c5, c6, c7⟩ := c
  obtain ⟨b1, b2, b3, b4, b5, b6, b7, b8⟩ := r
  refine ⟨[], O, L, fm, th, dy, n, lv, ur, cm, st, od, H, R, A, ⟨TXT.nil h0, c2.eq (f.1 3 (by decide) (by decide)) (f.1 4 (by decide) (by decide)), c3.eq (f.1 5 (by decide) (by decide)) (f.1 6 (by decide) (by decide)) (f.1 7 (by decide) (by decide)), c4.eq (f.1 15 (by decide) (by decide)) (f.1 16 (by decide) (by decide)) (f.1 17 (by decide) (by decide)) (f.1 18 (by decide) (by decide)) (f.1 19 (by decide) (by decide)) (f.1 20 (by decide) (by decide)), c5.eq (congrFun (f.1 21 (by decide) (by decide)) 5) (f.1 22 (by decide) (by decide)) (f.1 23 (by decide) (by decide)) (f.1 24 (by decide) (by decide)) (f.1 25 (by decide) (by decide)) (f.1 26 (by decide) (by decide)) (congrFun (f.1 32 (by decide) (by decide)) 0), c6.eq (f.1 27 (by decide) (by decide)) (f.1 28 (by decide) (by decide)) (f.1 29 (by decide) (by decide)) (f.1 30 (by decide) (by decide)), (f.2 10 (by decide)).trans c7⟩, ?_, s4, hw.skip⟩
  exact ⟨⟨h2, fun i hi => absurd hi (by simp)⟩, b2.fr g (by decide) (by decide), b3.fr g (by decide) (by decide), b4.fr g (by decide) (by decide), b5.fr g (by decide) (by decide), b6.fr g (by decide) (by decide), (g.2 11 (by decide)).trans b7, b8.fr g (by decide)⟩
theorem pu_levels : PU_levels Rel0 := by
  intro i σ τ w κ hi h
  obtain ⟨T, O, L, fm, th, dy, n, lv, ur, cm, st, od, H, R, A, c, r, s4, hw⟩ := h
  have c1 := c.1
  have c2 := c.2.1
  have b1 := r.1
  have b2 := r.2.1
  generalize hτ : up (up (up (TK (Mem0 τ 0)) 0 12 0) 0 13 (-1)) 0 10 0 = τ0
  have ft : FR [] [0, 2, 3, 4, 10, 12, 13] τ τ0 := by rw [← hτ]; exact (((TK.fr.mono (by decide) (by decide)).fld (by decide)).fld (by decide)).fld (by decide)
  have t12 : τ0 0 12 = 0 := by rw [← hτ]; rfl
  have t13 : τ0 0 13 = -1 := by rw [← hτ]; rfl
  have t02 : τ0 0 2 = 0 := by rw [← hτ]; rfl
  have t10 : τ0 0 10 = nI 0 := by rw [← hτ]; rfl
  have hb : BTS T 0 τ0 := by
    have := TK.bts (τ := Mem0 τ 0) b1
    rw [← hτ]
    exact ⟨this.1, this.2.1, this.2.2⟩
  have u10 : X10_levels τ w = bd (bd (X10_next τ0 w) fun r => X10_readLevels_9 FU r.1 r.2) fun r18 => if r18.1 = 0 then some (-1 - r18.2.1 0 13, r18.2.1, r18.2.2) else X10_levels_43 FU 0 (up r18.2.1 0 9 (r18.2.1 0 10)) r18.2.2 := by
    rw [← hτ]
    rfl
  obtain ⟨μ1, v, τ1, w1, e1, e2, e3, e4, e5, e6⟩ := jp (T := T) (T.length - 0) 0 (Nat.le_refl _) (Nat.zero_le _) FU FU 0 (up (up (up (up (mp σ [11, 8, 9, 10, 1, 2]) 1 2 0) 0 0 0) 0 1 (-1)) 0 2 0) τ0 w (by have := c1.1; unfold FU; omega) (by have := c1.1; unfold FU; omega) (by omega) c1 rfl rfl rfl hb t10 (fun j hj => absurd hj (by omega))
  have e1' : X7_readInto_22 FU 0 (up (up (up (up (mp σ [11, 8, 9, 10, 1, 2]) 1 2 0) 0 0 0) 0 1 (-1)) 0 2 0) = some μ1 := e1
  rw [x9_levels, u10, e1', bd_s, e2, bd_s]
  dsimp only
  clear e1 e1' e2 u10
  have f5 : FR [1, 2, 8, 9, 10, 11] [11, 12] σ (L5 σ μ1) := ((((FR.mg (C := [1, 2, 8, 9, 10, 11]) (by decide) (by decide)).mono (fun _ z => z) (by decide)).cel (by decide) (by decide)).fld (by decide)).fld (by decide)
  have t02' : τ1 0 2 = 0 := (e5.2 2 (by decide)).trans t02
  have ft1 : FR [3, 5] [0, 2, 3, 4, 10, 12, 13, 15] τ τ1 := (ft.mono (by decide) (by decide)).tr (e5.mono (fun _ z => z) (by decide))
  rcases e6 with ⟨hv, g2, g3, g4, g5, k, hk1, hk4, hk, hk', hC⟩ | ⟨hv, kd, z, hk1, hk3, hz, g1, g2, g3, g4⟩
  · rw [if_pos g2, if_neg (show ¬ v = 0 by rw [hv]; decide)]
    obtain ⟨ρ, p1, p2, p3⟩ := x6_bec 4 0 FU (mp (L5 σ μ1) [5, 6, 7, 8, 9, 10]) (by omega) (by unfold FU; omega) (fun j hj => absurd hj (by omega))
    have p1' : X6_become_2 FU 0 (mp (L5 σ μ1) [5, 6, 7, 8, 9, 10]) = some ρ := p1
    obtain ⟨τ2, q1, q2, q3, q4, q5, q6, q7⟩ := x10_43 (w := w1) hk4 k 0 FU (up τ1 0 9 (τ1 0 10)) (by omega) (by unfold FU; omega) hk' (fun j hj => by
      obtain ⟨f, t, x1, x2, -, -, x5, x6⟩ := hC j hj
      exact ⟨f, t, x1, x2, x5, x6⟩) (fun j hj => absurd hj (by omega))
    have q1' : X10_levels_43 FU 0 (up τ1 0 9 (τ1 0 10)) w1 = some (nI k, τ2, w1) := q1
    rw [p1', bd_s, q1']
    have a52 : L10 (L5 σ μ1) ρ 5 2 = nI k := by
      show ρ 0 2 = nI k
      rw [p2]
      exact hk
    rw [a52]
    have fq : FR [2, 4] [9, 11, 21, 25, 29] τ1 τ2 := (FR.rf.fld (by decide)).tr (q2.mono (fun _ z => z) (by decide))
    have ft2 : FR [2, 3, 4, 5] [0, 2, 3, 4, 9, 10, 11, 12, 13, 15, 21, 25, 29] τ τ2 := (ft1.mono (by decide) (by decide)).tr (fq.mono (by decide) (by decide))
    have hf : ∀ j, j < k → ∃ f t, f < 4 ∧ t < 2 ∧ (τ1 3 j).toNatClampNeg = f ∧ (τ1 5 j).toNatClampNeg = t ∧ ρ 1 j = nI f ∧ ρ 2 j = nI t ∧ τ2 2 j = nI f ∧ τ2 4 j = nI t := fun j hj => by
      obtain ⟨f, t, x1, x2, x3, x4, x5, x6⟩ := hC j hj
      refine ⟨f, t, x1, x2, by rw [x5, nI_clamp (by omega)], by rw [x6, nI_clamp (by omega)], ?_, ?_, ?_, ?_⟩
      · rw [(p3 j (by omega)).1]
        exact x3
      · rw [(p3 j (by omega)).2]
        show vp_nar .boolean (μ1 3 j) = nI t
        rw [x4, bool_tab t x2]
      · rw [(q7 j hj).1]
        exact x5
      · rw [(q7 j hj).2]
        exact x6
    refine ⟨nI k, _, τ2, w1, rfl, rfl, [], O, k, fun j => (τ1 3 j).toNatClampNeg, fun j => (τ1 5 j).toNatClampNeg, 0, 0, lv, ur, cm, st, od, [], R, [], ⟨TXT.nil rfl, c2, ⟨a52, fun j hj => ?_⟩, ⟨rfl, rfl, fun j hj => absurd hj (by omega), fun j hj => absurd hj (by omega)⟩, ⟨rfl, c.2.2.2.2.1.2.1, c.2.2.2.2.1.2.2.1, c.2.2.2.2.1.2.2.2.1, Nat.zero_le _, trivial, fun j hj => ?_⟩, ⟨0, by omega, rfl, rfl, Nat.zero_le _, fun j hj => absurd hj (by simp)⟩, rfl⟩, ⟨⟨(fq.2 2 (by decide)).trans t02', fun j hj => absurd hj (by simp)⟩, b2.fr ft2 (by decide) (by decide), ⟨?_, fun j hj => ?_⟩, ⟨q3, fun j hj => absurd hj (by omega), fun j hj => absurd hj (by omega)⟩, ⟨q4, trivial⟩, ⟨q5, fun j hj => absurd hj (by simp)⟩, q6, r.2.2.2.2.2.2.2.fr ft2 (by decide)⟩, ⟨?_, ?_, ?_, ?_⟩, ⟨⟨hk1, hk4, fun j hj => ?_⟩, ⟨by omega, fun j hj => absurd hj (by omega), fun j hj => absurd hj (by omega), fun j _ hj => absurd hj (by omega), fun j hj => absurd hj (by omega), fun j hj => absurd hj (by omega)⟩, trivial, by omega, trivial, by simp, hw.2.2.2.2.2.2⟩⟩
    · obtain ⟨f, t, x1, x2, x3, x4, x5, x6, -⟩ := hf j hj
      show ρ 1 j = nI (τ1 3 j).toNatClampNeg ∧ ρ 2 j = nI (τ1 5 j).toNatClampNeg
      rw [x3, x4]
      exact ⟨x5, x6⟩
    · show fillF _ (-1) 0 80 j = -1
      exact if_pos ⟨Nat.zero_le _, hj⟩
    · exact (q2.2 9 (by decide)).trans hk'
    · obtain ⟨f, t, x1, x2, x3, x4, -, -, x7, x8⟩ := hf j hj
      show τ2 2 j = nI (τ1 3 j).toNatClampNeg ∧ τ2 4 j = nI (τ1 5 j).toNatClampNeg
      rw [x3, x4]
      exact ⟨x7, x8⟩
    · rw [fq.2 12 (by decide), g4, t12]
      exact g2
    · rw [fq.2 13 (by decide), g5, t13]
      exact g3
    · rw [ft2.2 40 (by decide)]
      exact s4.2.2.1
    · rw [ft2.2 41 (by decide)]
      exact s4.2.2.2
    · obtain ⟨f, t, x1, x2, x3, x4, -⟩ := hf j hj
      show (τ1 3 j).toNatClampNeg < 4 ∧ (τ1 5 j).toNatClampNeg < 2
      rw [x3, x4]
      exact ⟨x1, x2⟩
  · rw [if_neg (show ¬ μ1 0 0 = 0 by rw [g1]; exact nI_ne0 (by omega) (by omega)), if_pos hv, g2, g4]
    refine ⟨_, _, τ1, w1, rfl, rfl, Rel0.rd2 c r hw f5 rfl ft1 t02' ⟨?_, ?_, ?_, ?_⟩⟩
    · show μ1 0 0 = _
      rw [g1, g3]
    · show μ1 0 1 = _
      rw [g2, g4]
    · rw [ft1.2 40 (by decide)]
      exact s4.2.2.1
    · rw [ft1.2 41 (by decide)]
      exact s4.2.2.2
