/-! own words: pure part: label, cited -/
theorem x6_form {L : Nat} {fm th : Nat → Nat} {μ : Mem} (h : CLV L fm th μ) (hw : WLV L fm th) {k : Nat} (hk : k < L) : X6_formOf (nI k) μ = some (nI (fm k)) := by
  have hL := hw.2.1
  unfold X6_formOf
  rw [if_neg (nI_pos (by omega)), h.1, if_neg (nI_ge hk (by omega)), gd_i (vp_in_nI (by omega) (by omega)), nI_clamp (by omega), (h.2 k hk).1]
theorem asOf_some {G : List C4} {R : Nat} {μ : Mem} (h : CHI G R μ) (a on : Int32) : ∃ v, X2_asOf a on μ = some v := by
  by_cases h0 : a < 0
  · exact ⟨0, x2_asOf_no (Or.inl h0)⟩
  · by_cases h1 : nI 80 ≤ a
    · exact ⟨0, x2_asOf_no (Or.inr h1)⟩
    · obtain ⟨k, hk, rfl⟩ := i32_ix h0 h1 (by omega)
      exact ⟨_, x2_asOf h hk on⟩
theorem rl_neg {k : Nat} {on : Int32} (hon : on < 0) : ∀ {H : List C4} {D : Nat}, D < 2 ^ 31 → WH H D → rlA H k on = 0 := by
  intro H
  induction H with
  | nil => exact fun _ _ => rfl
  | cons a H ih =>
    obtain ⟨k', d, x, y⟩ := a
    intro D hD h
    have hd : d < 2 ^ 31 := Nat.lt_of_le_of_lt h.2.1 hD
    unfold rlA
    rw [if_neg (fun z => by
      have h1 := Int32.lt_of_le_of_lt z.2 hon
      exact nI_pos hd h1)]
    exact ih hd h.2.2.2
/-- a label of an item as of a day, on both sides -/
theorem asOf_both {H : List C4} {R dy k : Nat} {μ τ : Mem} (c5 : CHI (cmpH H) R μ) (b5 : BHI H τ) (wh : WH H dy) (hd : dy ≤ 9999) (hl : H.length ≤ 50000) (hk : k < 80) (on : Int32) : ∃ x y, LRN x y ∧ X2_asOf (nI k) on μ = some (nI x) ∧ X10_labelOf (nI k) on τ = some (nI y) ∧ (on < 0 → x = 0) := by
  refine ⟨rlA H k on, rlB H k on, rl_LRN wh, ?_, x10_labelOf b5 wh.k80 hl hk on, fun h => rl_neg h (show dy < 2 ^ 31 by omega) wh⟩
  rw [x2_asOf c5 hk on, cmp_rl (show dy < 2 ^ 31 by omega) wh]
theorem TXT.nil {μ : Mem} (h : μ 0 1 = 0) : TXT [] μ := ⟨by simp, h, fun i hi => absurd hi (by simp), fun i hi => absurd hi (by simp)⟩
theorem BOUT.nil {τ : Mem} (h : τ 0 32 = 0) : BOUT [] τ := ⟨by simp, h, fun i hi => absurd hi (by simp), fun i hi => absurd hi (by simp)⟩
theorem pu_label : PU_label Rel0 := by
  intro i σ τ w κ a1 a2 hi h
  have h' := h
  obtain ⟨T, O, L, fm, th, dy, n, lv, ur, cm, st, od, H, R, A, c, r, s4, hw⟩ := h
  obtain ⟨c1, c2, c3, c4, c5, c6, c7⟩ := c
  obtain ⟨b1, b2, b3, b4, b5, b6, b7, b8⟩ := r.th (v := 0)
  obtain ⟨wl, wi, wh, wd, wa, wn, wk⟩ := hw
  have h80 := wi.1
  have hL := wl.2.1
  have u10 : X10_label a1 a2 τ = bd (X10_isItem a1 (Mem0 τ 0)) fun r8 => if r8 = 0 then X10_label_27 a1 a2 0 (Mem0 τ 0) else if a2 < 0 then X10_label_27 a1 a2 0 (Mem0 τ 0) else bd (X10_labelOf a1 a2 (Mem0 τ 0)) fun r11 => X10_label_27 a1 a2 r11 (Mem0 τ 0) := rfl
  have z27 : X10_label_27 a1 a2 0 (Mem0 τ 0) = some (-1, Mem0 τ 0) := if_pos rfl
  rcases has_both c4 b4 h80 a1 with ⟨e1, e2, k, hk, rfl⟩ | ⟨e1, e2, -⟩
  · obtain ⟨x, y, hxy, g1, g2, g3⟩ := asOf_both c5 b5 wh wd (by omega) (show k < 80 by omega) a2
    have hz := hxy.z
    have hb := hxy.b
    have hlk := (wi.2.1 k hk).1
    have hfm := (wl.2.2 _ hlk).1
    by_cases hx : x = 0
    · have hy := hz.mp hx
      refine ⟨-1, σ, Mem0 τ 0, ?_, ?_, h'.th⟩
      · unfold X9_label
        rw [g1, bd_s, e1, bd_s, if_neg (show ¬ (1 : Int32) = 0 by decide), if_pos (show nI x = 0 by rw [hx]; rfl)]
      · rw [u10, e2, bd_s, if_neg (show ¬ (1 : Int32) = 0 by decide)]
        by_cases h0 : a2 < 0
        · rw [if_pos h0, z27]
        · rw [if_neg h0, g2, bd_s, show nI y = 0 by rw [hy]; rfl, z27]
    · have hy : y ≠ 0 := fun z => hx (hz.mpr z)
      have h0 : ¬ a2 < 0 := fun z => hx (g3 z)
      obtain ⟨m, g, hLO, rfl, rfl⟩ : ∃ m g, LOK m g ∧ x = cA m g ∧ y = cB m g := by
        rcases hxy with ⟨z, -⟩ | z
        · exact absurd z hx
        · exact z
      have hs1 : σ 16 k = nI (lv k) := (c4.2.2.1 k hk).1
      obtain ⟨μ1, p1, p2⟩ := x1_write (T := []) (μ := mp (up σ 3 1 0) [3, 4]) hLO hfm (TXT.nil rfl) (by simp)
      have f1 : FR [] [32] (Mem0 τ 0) (up (Mem0 τ 0) 0 32 0) := FR.rf.fld (by decide)
      obtain ⟨τ1, q1, q2, q3⟩ := x10_write (O := []) (τ := up (Mem0 τ 0) 0 32 0) hLO hfm (BOUT.nil rfl) (b8.fr f1 (by decide)) (by simp)
      rw [List.nil_append] at p2 q2
      have f2 : FR [18] [32] (Mem0 τ 0) τ1 := (f1.mono (by decide) (by decide)).tr q3
      refine ⟨μ1 0 1, mg (up σ 3 1 0) [3, 4] μ1, τ1, ?_, ?_, T, wlab (fm (lv k)) m g, L, fm, th, dy, n, lv, ur, cm, st, od, H, R, A, ⟨c1, p2, c3, c4, c5.eq rfl rfl rfl rfl rfl rfl rfl, c6, c7⟩, ?_, ?_, RW.skip ⟨wl, wi, wh, wd, wa, wn, wk⟩⟩
      · have c3' : CLV L fm th (mp (up σ 3 1 0) [5, 6, 7]) := c3
        have hs1' : up σ 3 1 0 16 k = nI (lv k) := hs1
        unfold X9_label
        rw [g1, bd_s, e1, bd_s, if_neg (show ¬ (1 : Int32) = 0 by decide), if_neg (nI_ne0 (by omega) (by omega))]
        simp only [lt]
        rw [gd_i (vp_in_nI (by omega) (by omega)), nI_clamp (by omega), hs1', x6_form c3' wl hlk, bd_s, p1, bd_s]
        rfl
      · rw [u10, e2, bd_s, if_neg (show ¬ (1 : Int32) = 0 by decide), if_neg h0, g2, bd_s]
        unfold X10_label_27
        rw [if_neg (nI_ne0 (by omega) (by omega))]
        simp only [lt]
        have t6 : up (Mem0 τ 0) 0 32 0 6 k = nI (lv k) := (b4.2.1 k hk).1
        have t2 : up (Mem0 τ 0) 0 32 0 2 (lv k) = nI (fm (lv k)) := (b3.2 _ hlk).1
        rw [gd_i (vp_in_nI (by omega) (by omega)), nI_clamp (by omega), t6, gd_i (vp_in_nI (by omega) (by omega)), nI_clamp (show lv k < 2 ^ 31 by omega), t2, q1, bd_s, q2.2.1, p2.2.1]
      · exact ⟨b1.fr f2 (by decide) (by decide), q2, b3.fr f2 (by decide) (by decide), b4.fr f2 (by decide) (by decide), b5.fr f2 (by decide) (by decide), b6.fr f2 (by decide) (by decide), (f2.2 11 (by decide)).trans b7, b8.fr f2 (by decide)⟩
      · exact ⟨s4.1.trans (f2.2 12 (by decide)).symm, s4.2.1.trans (f2.2 13 (by decide)).symm, s4.2.2.1.trans (f2.2 40 (by decide)).symm, s4.2.2.2.trans (f2.2 41 (by decide)).symm⟩
  · obtain ⟨v, ev⟩ := asOf_some c5 a1 a2
    refine ⟨-1, σ, Mem0 τ 0, ?_, ?_, h'.th⟩
    · unfold X9_label
      rw [ev, bd_s, e1, bd_s, if_pos rfl]
    · rw [u10, e2, bd_s, if_pos rfl, z27]
-- what an item lies under, step by step
def an (ur : Nat → Nat) (k : Nat) : Nat → Nat
  | 0 => k
  | d + 1 => ur (an ur k d) - 1
theorem an_ok {L n : Nat} {lv ur st od : Nat → Nat} (hw : WIT L n lv ur st od) {k : Nat} (hk : k < n) : ∀ d, d ≤ lv k → an ur k d < n ∧ lv (an ur k d) + d = lv k ∧ (d < lv k → ur (an ur k d) = an ur k (d + 1) + 1) := by
  intro d
  induction d with
  | zero =>
    intro _
    refine ⟨hk, rfl, fun h => ?_⟩
    obtain ⟨-, -, h0, -⟩ := hw.2.1 k hk
    show ur k = ur k - 1 + 1
    have : ur k ≠ 0 := fun z => by have := h0 z; omega
    omega
  | succ d ih =>
    intro hd
    obtain ⟨i1, i2, i3⟩ := ih (by omega)
    have e := i3 (by omega)
    obtain ⟨j1, j2⟩ := (hw.2.1 _ i1).2.2.2 _ e
    refine ⟨by omega, by omega, fun h => ?_⟩
    obtain ⟨-, -, h0, -⟩ := hw.2.1 (an ur k (d + 1)) (by omega)
    show ur (an ur k (d + 1)) = ur (an ur k (d + 1)) - 1 + 1
    have : ur (an ur k (d + 1)) ≠ 0 := fun z => by have := h0 z; omega
    omega
theorem x10_over {n L : Nat} {lv ur cm st od : Nat → Nat} {τ : Mem} (h : BIT n lv ur cm st od τ) (hw : WIT L n lv ur st od) (hL : L ≤ 4) {k l : Nat} (hk : k < n) (hl : l ≤ lv k) : X10_over (nI k) (nI l) τ = some (nI (an ur k (lv k - l))) := by
  have h80 := hw.1
  have key : ∀ (e d m : Nat), d + e = lv k - l → e < m → X10_over_2 (nI k) (nI l) τ m (nI (an ur k d)) = some (nI (an ur k (lv k - l))) := by
    intro e
    induction e with
    | zero =>
      intro d m hd hm
      obtain ⟨m, rfl⟩ : ∃ z, m = z + 1 := ⟨m - 1, by omega⟩
      obtain ⟨i1, i2, -⟩ := an_ok hw hk d (by omega)
      have hlv := (hw.2.1 _ i1).1
      unfold X10_over_2
      rw [gd_i (vp_in_nI (by omega) (by omega)), nI_clamp (by omega), (h.2.1 _ i1).1, if_pos (nI_le (by omega) (by omega)), show d = lv k - l by omega]
    | succ e ih =>
      intro d m hd hm
      obtain ⟨m, rfl⟩ : ∃ z, m = z + 1 := ⟨m - 1, by omega⟩
      obtain ⟨i1, i2, i3⟩ := an_ok hw hk d (by omega)
      have hlv := (hw.2.1 _ i1).1
      have e4 : τ 7 (an ur k d) = nI (an ur k (d + 1)) := by
        rw [(h.2.1 _ i1).2.1, i3 (by omega)]
        rfl
      unfold X10_over_2
      rw [gd_i (vp_in_nI (by omega) (by omega)), gd_i (vp_in_nI (by omega) (by omega)), nI_clamp (by omega), (h.2.1 _ i1).1, if_neg (nI_ge (by omega) (by omega)), e4]
      exact ih (d + 1) m (by omega) (by omega)
  exact key (lv k - l) 0 FU (by omega) (by have := (hw.2.1 k hk).1; unfold FU; omega)
theorem cit_loops {L n : Nat} {fm th lv ur cm st od : Nat → Nat} {H : List C4} {dy k : Nat} {on : Int32} (wl : WLV L fm th) (wi : WIT L n lv ur st od) (wh : WH H dy) (wd : dy ≤ 9999) (hHl : H.length ≤ 50000) (hk : k < n) (hall : ∀ l, l ≤ lv k → rlA H (an ur k (lv k - l)) on ≠ 0) :
    ∀ (d l m m' : Nat) (O : List Nat) (σ τ τ0 : Mem), l + d = lv k + 1 → d < m → d < m' → TXT O (mp σ [3, 4]) → BOUT O τ → O.length + 18 * d ≤ 90 → CLV L fm th (mp σ [5, 6, 7]) → CIT n lv ur cm st od (mp σ [15, 16, 17, 18, 19, 20]) → (∀ j, j ≤ lv k → σ 31 j = nI (rlA H (an ur k (lv k - j)) on)) → BLV L fm th τ → BIT n lv ur cm st od τ → BHI H τ → BCO τ → FR [18] [32] τ0 τ →
    ∃ O' σ1 τ1, X9_cited_97 (nI k) on m (nI l) σ = some (nI O'.length, σ1) ∧ X10_cited_60 (nI k) on m' (nI l) τ = some (nI O'.length, τ1) ∧ TXT O' (mp σ1 [3, 4]) ∧ BOUT O' τ1 ∧ (∀ c, c ≠ 3 → c ≠ 4 → σ1 c = σ c) ∧ FR [18] [32] τ0 τ1 := by
  have h80 := wi.1
  have hL := wl.2.1
  have hlk := (wi.2.1 k hk).1
  intro d
  induction d with
  | zero =>
    intro l m m' O σ τ τ0 hl hm hm' hT hO hlen c3 c4 hp b3 b4 b5 b8 hF
    obtain ⟨m, rfl⟩ : ∃ z, m = z + 1 := ⟨m - 1, by omega⟩
    obtain ⟨m', rfl⟩ : ∃ z, m' = z + 1 := ⟨m' - 1, by omega⟩
    have hs1 : σ 16 k = nI (lv k) := (c4.2.2.1 k hk).1
    have hO1 : σ 3 1 = nI O.length := hT.2.1
    refine ⟨O, σ, τ, ?_, ?_, hT, hO, fun _ _ _ => rfl, hF⟩
    · unfold X9_cited_97
      rw [gd_i (vp_in_nI (by omega) (by omega)), nI_clamp (by omega), hs1, if_pos (nI_lt (by omega) (by omega)), hO1]
    · unfold X10_cited_60
      rw [gd_i (vp_in_nI (by omega) (by omega)), nI_clamp (by omega), (b4.2.1 k hk).1, if_pos (nI_lt (by omega) (by omega)), hO.2.1]
  | succ d ih =>
    intro l m m' O σ τ τ0 hl hm hm' hT hO hlen c3 c4 hp b3 b4 b5 b8 hF
    obtain ⟨m, rfl⟩ : ∃ z, m = z + 1 := ⟨m - 1, by omega⟩
    obtain ⟨m', rfl⟩ : ∃ z, m' = z + 1 := ⟨m' - 1, by omega⟩
    have hs1 : σ 16 k = nI (lv k) := (c4.2.2.1 k hk).1
    have hanc := (an_ok wi hk (lv k - l) (by omega)).1
    have hfm := (wl.2.2 l (by omega)).1
    have hLR := rl_LRN (k := an ur k (lv k - l)) (on := on) wh
    have hlab := x10_labelOf b5 wh.k80 hHl (k := an ur k (lv k - l)) (by omega) on
    obtain ⟨nn, g, hLO, ex, ey⟩ : ∃ nn g, LOK nn g ∧ rlA H (an ur k (lv k - l)) on = cA nn g ∧ rlB H (an ur k (lv k - l)) on = cB nn g := by
      rcases hLR with ⟨z, -⟩ | z
      · exact absurd z (hall l (by omega))
      · exact z
    -- one label written
    have one : ∀ (O1 : List Nat) (σ1 τ1 : Mem), TXT O1 (mp σ1 [3, 4]) → BOUT O1 τ1 → O1.length ≤ O.length + 1 → (∀ c, c ≠ 3 → c ≠ 4 → σ1 c = σ c) → FR [18] [32] τ τ1 → ∃ O' σ2 τ2, X9_cited_125 (nI k) on (X9_cited_97 (nI k) on m) (nI l) σ1 = some (nI O'.length, σ2) ∧ X10_cited_80 (nI k) on (X10_cited_60 (nI k) on m') (nI l) τ1 = some (nI O'.length, τ2) ∧ TXT O' (mp σ2 [3, 4]) ∧ BOUT O' τ2 ∧ (∀ c, c ≠ 3 → c ≠ 4 → σ2 c = σ c) ∧ FR [18] [32] τ0 τ2 := fun O1 σ1 τ1 h1 h2 h3 h4 h5 => by
      have c3' : CLV L fm th (mp σ1 [5, 6, 7]) := c3.eq (h4 5 (by decide) (by decide)) (h4 6 (by decide) (by decide)) (h4 7 (by decide) (by decide))
      have c4' : CIT n lv ur cm st od (mp σ1 [15, 16, 17, 18, 19, 20]) := c4.eq (h4 15 (by decide) (by decide)) (h4 16 (by decide) (by decide)) (h4 17 (by decide) (by decide)) (h4 18 (by decide) (by decide)) (h4 19 (by decide) (by decide)) (h4 20 (by decide) (by decide))
      have hp' : ∀ j, j ≤ lv k → σ1 31 j = nI (rlA H (an ur k (lv k - j)) on) := fun j hj => by rw [h4 31 (by decide) (by decide)]; exact hp j hj
      have hwl := wlab_len (f := fm l) (n := nn) (g := g) hLO.2.1
      obtain ⟨μ2, p1, p2⟩ := x1_write (f := fm l) hLO hfm h1 (by omega)
      obtain ⟨τ2, q1, q2, q3⟩ := x10_write (f := fm l) hLO hfm h2 (b8.fr h5 (by decide)) (by omega)
      have hF2 := (hF.tr h5).tr q3
      have h52 := h5.tr q3
      obtain ⟨O', σ3, τ3, r1, r2, r3, r4, r5, r6⟩ := ih (l + 1) m m' (O1 ++ wlab (fm l) nn g) (mg σ1 [3, 4] μ2) τ2 τ0 (by omega) (by omega) (by omega) p2 q2 (by rw [List.length_append]; omega) c3' c4' hp' (b3.fr h52 (by decide) (by decide)) (b4.fr h52 (by decide) (by decide)) (b5.fr h52 (by decide) (by decide)) (b8.fr h52 (by decide)) hF2
      refine ⟨O', σ3, τ3, ?_, ?_, r3, r4, fun c hc3 hc4 => (r5 c hc3 hc4).trans ((mgA_n _ _ _ _ _ (by simp [hc3, hc4])).trans (h4 c hc3 hc4)), r6⟩
      · unfold X9_cited_125
        rw [x6_form c3' wl (by omega), bd_s, gd_i (vp_in_nI (by omega) (by omega)), nI_clamp (by omega), hp' l (by omega), ex, p1, bd_s]
        simp only [lt]
        rw [nI_1]
        exact r1
      · have b4' := b4.fr h5 (by decide) (by decide)
        have b3' := b3.fr h5 (by decide) (by decide)
        have hlab' := x10_labelOf (b5.fr h5 (by decide) (by decide)) wh.k80 hHl (k := an ur k (lv k - l)) (by omega) on
        unfold X10_cited_80
        rw [x10_over b4' wi hL hk (by omega), bd_s, hlab', bd_s, gd_i (vp_in_nI (by omega) (by omega)), nI_clamp (by omega), (b3'.2 l (by omega)).1, ey, q1, bd_s]
        simp only [lt]
        rw [nI_1]
        exact r2
    have u9 : X9_cited_97 (nI k) on (m + 1) (nI l) σ = if nI l ≤ 0 then X9_cited_125 (nI k) on (X9_cited_97 (nI k) on m) (nI l) σ else bd (X8_put 46 (mp σ [3, 4])) fun r9 => X9_cited_125 (nI k) on (X9_cited_97 (nI k) on m) (nI l) (mg σ [3, 4] r9) := by
      conv => lhs; unfold X9_cited_97
      rw [gd_i (vp_in_nI (by omega) (by omega)), nI_clamp (by omega), hs1, if_neg (nI_nlt (by omega) (by omega))]
      rfl
    have u10 : X10_cited_60 (nI k) on (m' + 1) (nI l) τ = if nI l ≤ 0 then X10_cited_80 (nI k) on (X10_cited_60 (nI k) on m') (nI l) τ else bd (X10_put 46 τ) fun r9 => X10_cited_80 (nI k) on (X10_cited_60 (nI k) on m') (nI l) r9 := by
      conv => lhs; unfold X10_cited_60
      rw [gd_i (vp_in_nI (by omega) (by omega)), nI_clamp (by omega), (b4.2.1 k hk).1, if_neg (nI_nlt (by omega) (by omega))]
      rfl
    rw [u9, u10]
    by_cases hl0 : l = 0
    · rw [if_pos (show nI l ≤ 0 by rw [hl0]; decide), if_pos (show nI l ≤ 0 by rw [hl0]; decide)]
      exact one O σ τ hT hO (by omega) (fun _ _ _ => rfl) FR.rf
    · obtain ⟨μ1, p1, p2⟩ := x8_puts hT (b := 46) (by omega) (by omega)
      obtain ⟨τ1, q1, q2, q3⟩ := x10_put hO (b := 46) (by omega) (by omega)
      have p1' : X8_put 46 (mp σ [3, 4]) = some μ1 := p1
      have q1' : X10_put 46 τ = some τ1 := q1
      rw [if_neg (nI_nle (by omega) (by omega)), if_neg (nI_nle (by omega) (by omega)), p1', bd_s, q1', bd_s]
      exact one (O ++ [46]) _ τ1 p2 q2 (by rw [app_len]; omega) (fun c h3 h4 => mgA_n _ _ _ _ _ (by simp [h3, h4])) q3
theorem pu_cited : PU_cited Rel0 := by
  intro i σ τ w κ a1 a2 hi h
  have h' := h
  obtain ⟨T, O, L, fm, th, dy, n, lv, ur, cm, st, od, H, R, A, c, r, s4, hw⟩ := h
  obtain ⟨c1, c2, c3, c4, c5, c6, c7⟩ := c
  obtain ⟨b1, b2, b3, b4, b5, b6, b7, b8⟩ := r.th (v := 0)
  obtain ⟨wl, wi, wh, wd, wa, wn, wk⟩ := hw
  have h80 := wi.1
  have hL := wl.2.1
  have hHl : H.length ≤ 50000 := by omega
  have u10 : X10_cited a1 a2 τ = bd (X10_isItem a1 (Mem0 τ 0)) fun r20 => if r20 = 0 then some (-1, Mem0 τ 0) else if 0 ≤ a2 then X10_cited_21 a1 a2 FU 0 (Mem0 τ 0) else some (-1, Mem0 τ 0) := rfl
  rcases has_both c4 b4 h80 a1 with ⟨e1, e2, k, hk, rfl⟩ | ⟨e1, e2, -⟩
  · have hlk := (wi.2.1 k hk).1
    have hs1 : σ 16 k = nI (lv k) := (c4.2.2.1 k hk).1
    -- the class, from the item up
    have up9 : ∀ (l m : Nat) (σ1 : Mem), l ≤ lv k + 1 → l < m → (∀ c, c ≠ 31 → σ1 c = σ c) → (∀ j, l ≤ j → j ≤ lv k → σ1 31 j = nI (rlA H (an ur k (lv k - j)) a2) ∧ rlA H (an ur k (lv k - j)) a2 ≠ 0) → ∀ (x3 : Int32), (0 < l → x3 = nI (an ur k (lv k + 1 - l))) → ((∃ j, j < l ∧ rlA H (an ur k (lv k - j)) a2 = 0) ∧ ∃ σ2, X9_cited_26 (nI k) a2 m x3 (nI l - 1) σ1 = some (-1, σ2) ∧ ∀ c, c ≠ 31 → σ2 c = σ c) ∨ ((∀ j, j ≤ lv k → rlA H (an ur k (lv k - j)) a2 ≠ 0) ∧ ∃ σ2, X9_cited_26 (nI k) a2 m x3 (nI l - 1) σ1 = X9_cited_86 (nI k) a2 σ2 ∧ (∀ c, c ≠ 31 → σ2 c = σ c) ∧ ∀ j, j ≤ lv k → σ2 31 j = nI (rlA H (an ur k (lv k - j)) a2)) := by
      intro l
      induction l with
      | zero =>
        intro m σ1 hl hm hs hp x3 hx
        obtain ⟨m, rfl⟩ : ∃ z, m = z + 1 := ⟨m - 1, by omega⟩
        refine Or.inr ⟨fun j hj => (hp j (by omega) hj).2, σ1, ?_, hs, fun j hj => (hp j (by omega) hj).1⟩
        unfold X9_cited_26
        rw [if_pos (by decide)]
      | succ l ih =>
        intro m σ1 hl hm hs hp x3 hx
        obtain ⟨m, rfl⟩ : ∃ z, m = z + 1 := ⟨m - 1, by omega⟩
        have hx3 := hx (by omega)
        rw [show lv k + 1 - (l + 1) = lv k - l by omega] at hx3
        subst hx3
        obtain ⟨i1, i2, i3⟩ := an_ok wi hk (lv k - l) (by omega)
        have c4' : CIT n lv ur cm st od (mp σ1 [15, 16, 17, 18, 19, 20]) := c4.eq (hs 15 (by decide)) (hs 16 (by decide)) (hs 17 (by decide)) (hs 18 (by decide)) (hs 19 (by decide)) (hs 20 (by decide))
        have hs0 : ∀ c, c ≠ 31 → σ1 c = σ c := hs
        have c5' : CHI (cmpH H) R (mp σ1 [21, 22, 23, 24, 25, 26, 32]) := by
          refine c5.eq ?_ (hs 22 (by decide)) (hs 23 (by decide)) (hs 24 (by decide)) (hs 25 (by decide)) (hs 26 (by decide)) ?_
          · show σ1 21 5 = σ 21 5
            rw [hs 21 (by decide)]
          · show σ1 32 0 = σ 32 0
            rw [hs 32 (by decide)]
        have has := has_k c4' h80 i1
        have hao : X2_asOf (nI (an ur k (lv k - l))) a2 (mp σ1 [21, 22, 23, 24, 25, 26, 32]) = some (nI (rlA H (an ur k (lv k - l)) a2)) := by
          rw [x2_asOf c5' (by omega) a2, cmp_rl (show dy < 2 ^ 31 by omega) wh]
        have hxb := (rl_LRN (k := an ur k (lv k - l)) (on := a2) wh).b.1
        have hun : σ1 17 (an ur k (lv k - l)) = eU (ur (an ur k (lv k - l))) := (c4'.2.2.1 _ i1).2.1
        have u26 : X9_cited_26 (nI k) a2 (m + 1) (nI (an ur k (lv k - l))) (nI l) σ1 = if nI (rlA H (an ur k (lv k - l)) a2) = 0 then some (-1, up σ1 31 l (nI (rlA H (an ur k (lv k - l)) a2))) else X9_cited_26 (nI k) a2 m (eU (ur (an ur k (lv k - l)))) (nI l - 1) (up σ1 31 l (nI (rlA H (an ur k (lv k - l)) a2))) := by
          conv => lhs; unfold X9_cited_26
          rw [if_neg (nI_pos (by omega)), has, bd_s, if_neg (show ¬ (1 : Int32) = 0 by decide), hao, bd_s, gd_i (vp_in_nI (by omega) (by omega)), nI_clamp (by omega)]
          show gd (nI l) 4 (if upd (σ1 31) l (nI (rlA H (an ur k (lv k - l)) a2)) l = 0 then _ else gd (nI (an ur k (lv k - l))) 80 (X9_cited_26 (nI k) a2 m (σ1 17 (Int32.toNatClampNeg (nI (an ur k (lv k - l))))) (nI l + (-1)) (up σ1 31 l (nI (rlA H (an ur k (lv k - l)) a2))))) = _
          rw [gd_i (vp_in_nI (by omega) (by omega)), gd_i (vp_in_nI (by omega) (by omega)), nI_clamp (by omega), pk_us, hun, i32_sub]
        rw [nI_pred, u26]
        by_cases hz : rlA H (an ur k (lv k - l)) a2 = 0
        · rw [if_pos (show nI (rlA H (an ur k (lv k - l)) a2) = 0 by rw [hz]; rfl)]
          exact Or.inl ⟨⟨l, by omega, hz⟩, _, rfl, fun c hc => (upc_n _ _ hc).trans (hs c hc)⟩
        · rw [if_neg (nI_ne0 (by omega) hxb)]
          have := ih m (up σ1 31 l (nI (rlA H (an ur k (lv k - l)) a2))) (by omega) (by omega) (fun c hc => (upc_n _ _ hc).trans (hs c hc)) (fun j hj1 hj2 => by
            have e31 : up σ1 31 l (nI (rlA H (an ur k (lv k - l)) a2)) 31 = upd (σ1 31) l (nI (rlA H (an ur k (lv k - l)) a2)) := upc_s _ _ _
            rw [e31]
            by_cases hjl : j = l
            · rw [hjl, pk_us]
              exact ⟨rfl, hz⟩
            · rw [pk_un hjl]
              exact hp j (by omega) hj2) (eU (ur (an ur k (lv k - l)))) (fun hl0 => by
            rw [i3 (by omega), show lv k + 1 - l = lv k - l + 1 by omega]
            rfl)
          rcases this with ⟨⟨j, j1, j2⟩, t⟩ | t
          · exact Or.inl ⟨⟨j, by omega, j2⟩, t⟩
          · exact Or.inr t
    have u9 : X9_cited (nI k) a2 σ = X9_cited_26 (nI k) a2 FU (nI k) (nI (lv k + 1) - 1) σ := by
      unfold X9_cited
      rw [e1, bd_s, if_neg (show ¬ (1 : Int32) = 0 by decide), gd_i (vp_in_nI (by omega) (by omega)), nI_clamp (by omega), hs1, nI_pred]
      rfl
    have hup := up9 (lv k + 1) FU σ (by omega) (by unfold FU; omega) (fun _ _ => rfl) (fun j h1 h2 => by omega) (nI k) (fun _ => by rw [Nat.sub_self]; rfl)
    rw [← u9] at hup
    -- the reference, from the top down
    have dn10 : ∀ (d l m : Nat), l + d = lv k + 1 → d < m → (∀ j, j < l → rlA H (an ur k (lv k - j)) a2 ≠ 0) → ((∃ j, j ≤ lv k ∧ rlA H (an ur k (lv k - j)) a2 = 0) → X10_cited_21 (nI k) a2 m (nI l) (Mem0 τ 0) = some (-1, Mem0 τ 0)) ∧ ((∀ j, j ≤ lv k → rlA H (an ur k (lv k - j)) a2 ≠ 0) → X10_cited_21 (nI k) a2 m (nI l) (Mem0 τ 0) = X10_cited_60 (nI k) a2 FU 0 (up (Mem0 τ 0) 0 32 0)) := by
      intro d
      induction d with
      | zero =>
        intro l m hl hm hj
        obtain ⟨m, rfl⟩ : ∃ z, m = z + 1 := ⟨m - 1, by omega⟩
        refine ⟨fun ⟨j, j1, j2⟩ => absurd j2 (hj j (by omega)), fun _ => ?_⟩
        unfold X10_cited_21
        rw [gd_i (vp_in_nI (by omega) (by omega)), nI_clamp (by omega), (b4.2.1 k hk).1, if_pos (nI_lt (by omega) (by omega))]
        rfl
      | succ d ih =>
        intro l m hl hm hj
        obtain ⟨m, rfl⟩ : ∃ z, m = z + 1 := ⟨m - 1, by omega⟩
        have i1 := (an_ok wi hk (lv k - l) (by omega)).1
        have hlab := x10_labelOf b5 wh.k80 hHl (k := an ur k (lv k - l)) (by omega) a2
        have hLR := rl_LRN (k := an ur k (lv k - l)) (on := a2) wh
        have hz := hLR.z
        have u21 : X10_cited_21 (nI k) a2 (m + 1) (nI l) (Mem0 τ 0) = if nI (rlB H (an ur k (lv k - l)) a2) = 0 then some (-1, Mem0 τ 0) else X10_cited_21 (nI k) a2 m (nI (l + 1)) (Mem0 τ 0) := by
          conv => lhs; unfold X10_cited_21
          rw [gd_i (vp_in_nI (by omega) (by omega)), nI_clamp (by omega), (b4.2.1 k hk).1, if_neg (nI_nlt (by omega) (by omega)), x10_over b4 wi hL hk (by omega), bd_s, hlab, bd_s]
          simp only [lt]
          rw [nI_1]
        rw [u21]
        by_cases h0 : rlA H (an ur k (lv k - l)) a2 = 0
        · rw [if_pos (show nI (rlB H (an ur k (lv k - l)) a2) = 0 by rw [hz.mp h0]; rfl)]
          exact ⟨fun _ => rfl, fun t => absurd h0 (t l (by omega))⟩
        · rw [if_neg (nI_ne0 (by have := mt hz.mpr h0; omega) (by have := hLR.b.2; omega))]
          exact ih (l + 1) m (by omega) (by omega) (fun j hj' => by
            rcases Nat.lt_or_ge j l with z | z
            · exact hj j z
            · rw [show j = l by omega]
              exact h0)
    obtain ⟨d1, d2⟩ := dn10 (lv k + 1) 0 FU (by omega) (by unfold FU; omega) (fun j hj => absurd hj (by omega))
    rw [nI_0] at d1 d2
    have hfrm : ∀ σ2 : Mem, (∀ c, c ≠ 31 → σ2 c = σ c) → RC T O L fm th dy n lv ur cm st od H R A σ2 := fun σ2 hs => by
      refine ⟨c1.eq (hs 1 (by decide)) (hs 2 (by decide)), c2.eq (hs 3 (by decide)) (hs 4 (by decide)), c3.eq (hs 5 (by decide)) (hs 6 (by decide)) (hs 7 (by decide)), c4.eq (hs 15 (by decide)) (hs 16 (by decide)) (hs 17 (by decide)) (hs 18 (by decide)) (hs 19 (by decide)) (hs 20 (by decide)), c5.eq ?_ (hs 22 (by decide)) (hs 23 (by decide)) (hs 24 (by decide)) (hs 25 (by decide)) (hs 26 (by decide)) ?_, c6.eq (hs 27 (by decide)) (hs 28 (by decide)) (hs 29 (by decide)) (hs 30 (by decide)), by rw [hs 0 (by decide)]; exact c7⟩
      · show σ2 21 5 = σ 21 5
        rw [hs 21 (by decide)]
      · show σ2 32 0 = σ 32 0
        rw [hs 32 (by decide)]
    rcases hup with ⟨⟨j, j1, j2⟩, σ2, g1, g2⟩ | ⟨hall, σ2, g1, g2, g3⟩
    · refine ⟨-1, σ2, Mem0 τ 0, g1, ?_, T, O, L, fm, th, dy, n, lv, ur, cm, st, od, H, R, A, hfrm σ2 g2, ⟨b1, b2, b3, b4, b5, b6, b7, b8⟩, ?_, RW.skip ⟨wl, wi, wh, wd, wa, wn, wk⟩⟩
      · rw [u10, e2, bd_s, if_neg (show ¬ (1 : Int32) = 0 by decide)]
        by_cases h0 : 0 ≤ a2
        · rw [if_pos h0]
          exact d1 ⟨j, by omega, j2⟩
        · rw [if_neg h0]
      · unfold RS4
        rw [g2 0 (by decide)]
        exact s4
    · have h0 : (0 : Int32) ≤ a2 := by
        refine Int32.not_lt.mp fun z => ?_
        exact hall 0 (by omega) (rl_neg z (show dy < 2 ^ 31 by omega) wh)
      have c3' : CLV L fm th (mp (up σ2 3 1 0) [5, 6, 7]) := (hfrm σ2 g2).2.2.1
      have c4' : CIT n lv ur cm st od (mp (up σ2 3 1 0) [15, 16, 17, 18, 19, 20]) := (hfrm σ2 g2).2.2.2.1
      have f1 : FR [18] [32] (Mem0 τ 0) (up (Mem0 τ 0) 0 32 0) := FR.rf.fld (by decide)
      obtain ⟨O', σ3, τ1, r1, r2, r3, r4, r5, r6⟩ := cit_loops (cm := cm) (on := a2) wl wi wh wd hHl hk hall (lv k + 1) 0 FU FU [] (up σ2 3 1 0) (up (Mem0 τ 0) 0 32 0) (Mem0 τ 0) (by omega) (by unfold FU; omega) (by unfold FU; omega) (TXT.nil rfl) (BOUT.nil rfl) (by simp; omega) c3' c4' (fun j hj => g3 j hj) (b3.fr f1 (by decide) (by decide)) (b4.fr f1 (by decide) (by decide)) (b5.fr f1 (by decide) (by decide)) (b8.fr f1 (by decide)) f1
      have r5' : ∀ c, c ≠ 3 → c ≠ 4 → c ≠ 31 → σ3 c = σ c := fun c h3 h4 h31 => (r5 c h3 h4).trans ((upc_n _ _ h3).trans (g2 c h31))
      refine ⟨nI O'.length, σ3, τ1, ?_, ?_, T, O', L, fm, th, dy, n, lv, ur, cm, st, od, H, R, A, ⟨?_, r3, ?_, ?_, ?_, ?_, ?_⟩, ?_, ?_, RW.skip ⟨wl, wi, wh, wd, wa, wn, wk⟩⟩
      · rw [g1]
        exact r1
      · rw [u10, e2, bd_s, if_neg (show ¬ (1 : Int32) = 0 by decide), if_pos h0, d2 hall]
        exact r2
      · exact c1.eq (r5' 1 (by decide) (by decide) (by decide)) (r5' 2 (by decide) (by decide) (by decide))
      · exact c3.eq (r5' 5 (by decide) (by decide) (by decide)) (r5' 6 (by decide) (by decide) (by decide)) (r5' 7 (by decide) (by decide) (by decide))
      · exact c4.eq (r5' 15 (by decide) (by decide) (by decide)) (r5' 16 (by decide) (by decide) (by decide)) (r5' 17 (by decide) (by decide) (by decide)) (r5' 18 (by decide) (by decide) (by decide)) (r5' 19 (by decide) (by decide) (by decide)) (r5' 20 (by decide) (by decide) (by decide))
      · refine c5.eq ?_ (r5' 22 (by decide) (by decide) (by decide)) (r5' 23 (by decide) (by decide) (by decide)) (r5' 24 (by decide) (by decide) (by decide)) (r5' 25 (by decide) (by decide) (by decide)) (r5' 26 (by decide) (by decide) (by decide)) ?_
        · show σ3 21 5 = σ 21 5
          rw [r5' 21 (by decide) (by decide) (by decide)]
        · show σ3 32 0 = σ 32 0
          rw [r5' 32 (by decide) (by decide) (by decide)]
      · exact c6.eq (r5' 27 (by decide) (by decide) (by decide)) (r5' 28 (by decide) (by decide) (by decide)) (r5' 29 (by decide) (by decide) (by decide)) (r5' 30 (by decide) (by decide) (by decide))
      · rw [r5' 0 (by decide) (by decide) (by decide)]
        exact c7
      · exact ⟨b1.fr r6 (by decide) (by decide), r4, b3.fr r6 (by decide) (by decide), b4.fr r6 (by decide) (by decide), b5.fr r6 (by decide) (by decide), b6.fr r6 (by decide) (by decide), (r6.2 11 (by decide)).trans b7, b8.fr r6 (by decide)⟩
      · unfold RS4
        rw [r5' 0 (by decide) (by decide) (by decide)]
        exact ⟨s4.1.trans (r6.2 12 (by decide)).symm, s4.2.1.trans (r6.2 13 (by decide)).symm, s4.2.2.1.trans (r6.2 40 (by decide)).symm, s4.2.2.2.trans (r6.2 41 (by decide)).symm⟩
  · refine ⟨-1, σ, Mem0 τ 0, ?_, ?_, h'.th⟩
    · unfold X9_cited
      rw [e1, bd_s, if_pos rfl]
    · rw [u10, e2, bd_s, if_pos rfl]
