/-! own words: pure part: error, renumber -/
theorem TXT.eq {T : List Nat} {μ μ1 : Mem} (h : TXT T μ) (e0 : μ1 0 = μ 0) (e1 : μ1 1 = μ 1) : TXT T μ1 := by
  obtain ⟨a, b, c, d⟩ := h
  exact ⟨a, by rw [e0]; exact b, by rw [e1]; exact c, d⟩
theorem CLV.eq {L : Nat} {fm th : Nat → Nat} {μ μ1 : Mem} (h : CLV L fm th μ) (e0 : μ1 0 = μ 0) (e1 : μ1 1 = μ 1) (e2 : μ1 2 = μ 2) : CLV L fm th μ1 := by
  obtain ⟨a, b⟩ := h
  exact ⟨by rw [e0]; exact a, by rw [e1, e2]; exact b⟩
theorem CIT.eq {n : Nat} {lv ur cm st od : Nat → Nat} {μ μ1 : Mem} (h : CIT n lv ur cm st od μ) (e0 : μ1 0 = μ 0) (e1 : μ1 1 = μ 1) (e2 : μ1 2 = μ 2) (e3 : μ1 3 = μ 3) (e4 : μ1 4 = μ 4) (e5 : μ1 5 = μ 5) : CIT n lv ur cm st od μ1 := by
  obtain ⟨a, b, c, d⟩ := h
  exact ⟨by rw [e0]; exact a, by rw [e0]; exact b, by rw [e1, e2, e3, e4]; exact c, by rw [e5]; exact d⟩
theorem CAC.eq {A : List A3} {μ μ1 : Mem} (h : CAC A μ) (e0 : μ1 0 = μ 0) (e1 : μ1 1 = μ 1) (e2 : μ1 2 = μ 2) (e3 : μ1 3 = μ 3) : CAC A μ1 := by
  obtain ⟨q, h⟩ := h
  exact ⟨q, by rw [e0, e1, e2, e3]; exact h⟩
/-- all of the class but the history's cells the same -/
def SMH (σ σ1 : Mem) : Prop := ∀ c, c ∉ [21, 22, 23, 24, 25, 26, 32] → σ1 c = σ c
theorem mgA_n {α : Type} : ∀ (l : List Nat) (i : Nat) (τ : Nat → α) (d : α) (c : Nat), c ∉ l → mgA l i τ d c = d := by
  intro l
  induction l with
  | nil => exact fun _ _ _ _ _ => rfl
  | cons a l ih =>
    intro i τ d c hc
    have h1 : c ≠ a := fun e => hc (by rw [e]; exact List.mem_cons_self)
    have h2 : c ∉ l := fun e => hc (List.mem_cons_of_mem _ e)
    show cond (Nat.beq c a) (τ i) (mgA l (i + 1) τ d c) = d
    cases hb : Nat.beq c a with
    | true => exact absurd (Nat.eq_of_beq_eq_true hb) h1
    | false => exact ih _ _ _ _ h2
theorem SMH.mg {σ μ : Mem} : SMH σ (mg σ [21, 22, 23, 24, 25, 26, 32] μ) := fun c hc => mgA_n _ _ _ _ _ hc
theorem SMH.tr {σ σ1 σ2 : Mem} (h : SMH σ σ1) (h2 : SMH σ1 σ2) : SMH σ σ2 := fun c hc => (h2 c hc).trans (h c hc)
theorem S17.fr {τ τ1 : Mem} (h : S17 τ τ1) : FR [17] [] τ τ1 := ⟨fun c hc _ => h c (fun e => hc (by rw [e]; exact List.mem_singleton_self _)), fun k _ => by rw [h 0 (by decide)]⟩
theorem lat_lt {H : List C4} {D k : Nat} (hD : D < 2 ^ 31) (h : WH H D) : LRN (latA H k) (rlB H k (nI D)) := by
  have e := rl_lat (k := k) hD (Int32.le_refl _) (Nat.le_refl D) h
  rw [← e]
  exact rl_LRN h
theorem pu_error : PU_error Rel0 := by
  intro i σ τ w κ a1 a2 a3 hi h
  have h' := h
  obtain ⟨T, O, L, fm, th, dy, n, lv, ur, cm, st, od, H, R, A, c, r, s4, hw⟩ := h
  obtain ⟨c1, c2, c3, c4, c5, c6, c7⟩ := c
  obtain ⟨b1, b2, b3, b4, b5, b6, b7, b8⟩ := r.th (v := 0)
  obtain ⟨wl, wi, wh, wd, wa, wn, wk⟩ := hw
  have h80 := wi.1
  have hc6 := c6
  obtain ⟨q, -, -, -, hA, -⟩ := hc6
  have hGl := cmp_len H
  have u10 : X10_error a1 a2 a3 τ = bd (X10_isItem a1 (Mem0 τ 0)) fun r22 => if r22 = 0 then some (0, Mem0 τ 0) else if a2 < 1 then some (0, Mem0 τ 0) else if a2 ≤ 999 then X10_error_33 a1 a2 a3 FU 0 0 (Mem0 τ 0) else some (0, Mem0 τ 0) := rfl
  -- the label of the class
  have lab : (X5_plain a2 = some 0 ∧ (a2 < 1 ∨ ¬ a2 ≤ 999)) ∨ ∃ m, 1 ≤ m ∧ m ≤ 999 ∧ a2 = nI m ∧ X5_plain a2 = some (nI (m * 1048576)) := by
    by_cases h1 : a2 < 1
    · exact Or.inl ⟨x5_plain_lo h1, Or.inl h1⟩
    · by_cases h2 : a2 ≤ 999
      · have h0 : ¬ a2 < 0 := fun z => h1 (Int32.lt_trans z (by decide))
        obtain ⟨m, hm, rfl⟩ := i32_le_nI (n := 999) h0 h2 (by omega)
        have hm1 : 1 ≤ m := by
          rcases Nat.eq_zero_or_pos m with z | z
          · exact absurd (by rw [z]; decide) h1
          · exact z
        refine Or.inr ⟨m, hm1, hm, rfl, ?_⟩
        rw [x5_plainN m (by omega), if_pos ⟨hm1, hm⟩]
      · exact Or.inl ⟨x5_plain_hi (Int32.not_le.mp h2), Or.inr h2⟩
  rcases lab with ⟨e1, e2⟩ | ⟨m, hm1, hm9, rfl, e1⟩
  · -- no such label
    have e9 : X9_error a1 a2 a3 σ = some ((0, σ), 0) := by
      have z : X5_withSuffix 0 a3 = some 0 := if_pos rfl
      unfold X9_error
      rw [e1, bd_s, z, bd_s]
      rcases has_both c4 b4 h80 a1 with ⟨f1, -⟩ | ⟨f1, -⟩
      · rw [f1, bd_s, if_neg (show ¬ (1 : Int32) = 0 by decide), if_pos rfl]
      · rw [f1, bd_s, if_pos rfl]
    refine ⟨0, σ, 0, Mem0 τ 0, e9, ?_, h'.th⟩
    rw [u10]
    rcases has_both c4 b4 h80 a1 with ⟨-, f1, -⟩ | ⟨-, f1, -⟩
    · rw [f1, bd_s, if_neg (show ¬ (1 : Int32) = 0 by decide)]
      rcases e2 with e2 | e2
      · rw [if_pos e2]
      · by_cases h1 : a2 < 1
        · rw [if_pos h1]
        · rw [if_neg h1, if_neg e2]
    · rw [f1, bd_s, if_pos rfl]
  · have nl1 : ¬ nI m < 1 := nI_nlt (b := 1) hm1 (by omega)
    have nl2 : nI m ≤ 999 := nI_le (b := 999) hm9 (by omega)
    rcases has_both c4 b4 h80 a1 with ⟨f1, f2, k, hk, rfl⟩ | ⟨f1, f2, -⟩
    · rw [u10, f2, bd_s, if_neg (show ¬ (1 : Int32) = 0 by decide), if_neg nl1, if_pos nl2]
      rcases err_ex hm1 hm9 a3 with ⟨g1, g2⟩ | ⟨g, hL, g1, g2⟩
      · obtain ⟨τ1, s1, g3⟩ := g2 (nI k) (nI m) (Mem0 τ 0)
        refine ⟨0, σ, 0, τ1, ?_, g3, T, O, L, fm, th, dy, n, lv, ur, cm, st, od, H, R, A, ⟨c1, c2, c3, c4, c5, c6, c7⟩, ?_, ?_, wl, wi, wh, wd, wa, by omega, wk⟩
        · unfold X9_error
          rw [e1, bd_s, g1, bd_s, f1, bd_s, if_neg (show ¬ (1 : Int32) = 0 by decide), if_pos rfl]
        · exact RR.fr ⟨b1, b2, b3, b4, b5, b6, b7, b8⟩ s1.fr (by decide) (by decide)
        · have f := s1.fr
          exact ⟨s4.1.trans (f.2 12 (by decide)).symm, s4.2.1.trans (f.2 13 (by decide)).symm, s4.2.2.1.trans (f.2 40 (by decide)).symm, s4.2.2.2.trans (f.2 41 (by decide)).symm⟩
      · obtain ⟨τ1, s1, hh, g3⟩ := g2 (nI k) (nI m) (Mem0 τ 0)
        have f := s1.fr
        have hxl := cA_lt (show m ≤ 1000 by omega) hL.2.2.1
        have hlx := ((lat_lt (k := k) (show dy < 2 ^ 31 by omega) wh).b).1
        obtain ⟨μ1, m1, m2⟩ := x0_open (r := 3) (i := k) (Hs := H) c6
        obtain ⟨μ2, R1, κ1, m3, m4, m5⟩ := x2_give (μ := mp (mg σ [27, 28, 29, 30] μ1) [21, 22, 23, 24, 25, 26, 32]) (k := k) (d := dy) (x := cA m g) (c5.eq rfl rfl rfl rfl rfl rfl rfl) (cB m g) (by omega) (by omega) hxl (by rw [cmp_lat]; exact hlx)
        obtain ⟨τ2, n1, n2, n3⟩ := x10_act (r := 3) (i := k) (Hs := H) (b6.fr f (by decide) (by decide)) hA ((f.2 25 (by decide)).trans b5.1)
        have hHD : HD τ2 g := by
          obtain ⟨q0, q1, q2, q3⟩ := hh
          have e17 : τ2 17 = τ1 17 := n3.1 17 (by decide) (by decide)
          exact ⟨by rw [e17]; exact q0, by rw [e17]; exact q1, by rw [e17]; exact q2, by rw [e17]; exact q3⟩
        obtain ⟨τ3, n4, n5, n6⟩ := x10_change (k := k) (dy := dy) (y := cB m g) (b5.fr (f.mono (C' := [17, 14, 15, 16]) (K' := [29]) (by decide) (by decide) |>.tr (n3.mono (by decide) (by decide))) (by decide) (by decide)) (by omega) (cA m g) (((f.mono (C' := [17, 14, 15, 16]) (K' := [29]) (by decide) (by decide)).tr (n3.mono (by decide) (by decide))).2 11 (by decide) |>.trans b7)
        have fa : FR [17, 14, 15, 16, 11, 12, 13] [29, 25] (Mem0 τ 0) τ3 := ((f.mono (by decide) (by decide)).tr (n3.mono (by decide) (by decide))).tr (n6.mono (by decide) (by decide))
        refine ⟨1, mg (mg σ [27, 28, 29, 30] μ1) [21, 22, 23, 24, 25, 26, 32] μ2, κ1 + 0, τ3, ?_, ?_, T, O, L, fm, th, dy, n, lv, ur, cm, st, od, (k, dy, cA m g, cB m g) :: H, R1, ((3, k, H) :: A).take 100, ⟨c1, c2, c3, c4, ?_, m2, c7⟩, ?_, ?_, ?_⟩
        · have hsz : σ 21 5 = nI (cmpH H).length := c5.1
          have m1' : X0_open 3 (nI k) (nI (cmpH H).length) (mp σ [27, 28, 29, 30]) = some μ1 := m1
          have m3' : X2_give (nI k) (σ 0 10) (nI (cA m g)) (mp (mg σ [27, 28, 29, 30] μ1) [21, 22, 23, 24, 25, 26, 32]) = some (μ2, κ1) := by
            have c7' : σ 0 10 = nI dy := c7
            rw [c7']
            exact m3
          unfold X9_error
          rw [e1, bd_s, g1, bd_s, f1, bd_s, if_neg (show ¬ (1 : Int32) = 0 by decide), if_neg (nI_ne0 (by unfold cA; omega) hxl), hsz, m1', bd_s]
          simp only [lt]
          have e5 : mg σ [27, 28, 29, 30] μ1 0 10 = σ 0 10 := rfl
          rw [e5, m3', bd_s]
          rfl
        · rw [g3]
          unfold ERR
          have n1' : X10_act 3 (nI k) τ1 = some τ2 := n1
          rw [n1', bd_s]
          simp only [lt]
          rw [x10_hand hHD, bd_s]
          have e6 : nI m * 531441 + nI (sB g) = nI (cB m g) := by
            show nI m * nI 531441 + _ = _
            rw [pk_mul, nI_add, cB_sB]
          rw [e6, n4, bd_s]
        · have e7 : cmpH ((k, dy, cA m g, cB m g) :: H) = if latA (cmpH H) k = cA m g then cmpH H else (k, dy, cA m g, cB m g) :: cmpH H := by
            rw [cmp_lat]
            rfl
          rw [e7]
          exact m4.eq rfl rfl rfl rfl rfl rfl rfl
        · exact ⟨b1.fr fa (by decide) (by decide), b2.fr fa (by decide) (by decide), b3.fr fa (by decide) (by decide), b4.fr fa (by decide) (by decide), n5, n2.fr n6 (by decide) (by decide), (fa.2 11 (by decide)).trans b7, b8.fr fa (by decide)⟩
        · exact ⟨s4.1.trans (fa.2 12 (by decide)).symm, s4.2.1.trans (fa.2 13 (by decide)).symm, s4.2.2.1.trans (fa.2 40 (by decide)).symm, s4.2.2.2.trans (fa.2 41 (by decide)).symm⟩
        · refine ⟨wl, wi, ⟨by omega, Nat.le_refl _, Or.inr ⟨m, g, hL, rfl, rfl⟩, wh⟩, wd, AO_take _ _ _ _ 100 ⟨hk, ⟨[(k, dy, cA m g, cB m g)], rfl⟩, Or.inr (Or.inr ⟨Or.inr rfl, wa⟩)⟩, ?_, m5 κ wk⟩
          rw [List.length_cons]
          omega
    · refine ⟨0, σ, 0, Mem0 τ 0, ?_, ?_, h'.th⟩
      · unfold X9_error
        rw [e1, bd_s]
        rcases err_ex hm1 hm9 a3 with ⟨g1, -⟩ | ⟨g, -, g1, -⟩
        · rw [g1, bd_s, f1, bd_s, if_pos rfl]
        · rw [g1, bd_s, f1, bd_s, if_pos rfl]
      · rw [u10, f2, bd_s, if_pos rfl]
/-- the row renumbered, on both sides at once -/
theorem ren_loop {n L : Nat} {lv ur cm st od fm th : Nat → Nat} {dy k : Nat} (hwl : WLV L fm th) (hw : WIT L n lv ur st od) (hk : k < n) (hdy : dy ≤ 9999) : ∀ (d p x m m' : Nat) (σ τ : Mem) (H : List C4) (R : Nat), p + d = n → d < m → d < m' → x ≤ p → CIT n lv ur cm st od (mp σ [15, 16, 17, 18, 19, 20]) → CHI (cmpH H) R (mp σ [21, 22, 23, 24, 25, 26, 32]) → σ 0 10 = nI dy →
    BIT n lv ur cm st od τ → BLV L fm th τ → BHI H τ → τ 0 11 = nI dy → WH H dy → H.length + d ≤ 40960 →
    ∃ σ1 κ1 τ1 H1 R1, X9_renumber_51 (nI k) m (nI (th (lv k))) (nI x) (nI p) σ = some ((1, σ1), κ1) ∧ X10_renumber_25 (nI k) m' (nI x) (nI p) τ = some (1, τ1) ∧ CHI (cmpH H1) R1 (mp σ1 [21, 22, 23, 24, 25, 26, 32]) ∧ BHI H1 τ1 ∧ WH H1 dy ∧ (∃ E, H1 = E ++ H) ∧ H1.length ≤ H.length + d ∧ SMH σ σ1 ∧ FR [11, 12, 13] [25] τ τ1 ∧ ∀ κ, KOK R κ → KOK R1 (κ + κ1) := by
  have h80 := hw.1
  have hL := hwl.2.1
  have hlk := (hw.2.1 k hk).1
  have htk := (hwl.2.2 _ hlk).2
  intro d
  induction d with
  | zero =>
    intro p x m m' σ τ H R hp hm hm' hx c4 c5 c7 b4 b3 b5 b7 wh hl
    obtain ⟨m, rfl⟩ : ∃ z, m = z + 1 := ⟨m - 1, by omega⟩
    obtain ⟨m', rfl⟩ : ∃ z, m' = z + 1 := ⟨m' - 1, by omega⟩
    have hn : σ 15 5 = nI n := c4.1
    refine ⟨σ, 0, τ, H, R, ?_, ?_, c5, b5, wh, ⟨[], rfl⟩, by omega, fun _ _ => rfl, FR.rf, fun κ h => h⟩
    · unfold X9_renumber_51
      rw [hn, if_pos (nI_le (by omega) (by omega))]
    · unfold X10_renumber_25
      rw [b4.1, if_pos (nI_le (by omega) (by omega))]
  | succ d ih =>
    intro p x m m' σ τ H R hp hm hm' hx c4 c5 c7 b4 b3 b5 b7 wh hl
    obtain ⟨m, rfl⟩ : ∃ z, m = z + 1 := ⟨m - 1, by omega⟩
    obtain ⟨m', rfl⟩ : ∃ z, m' = z + 1 := ⟨m' - 1, by omega⟩
    have hn : σ 15 5 = nI n := c4.1
    have hod : σ 20 p = nI (od p) := c4.2.2.2 p (by omega)
    have hodb := b4.2.2 p (by omega)
    have ho := hw.2.2.1 p (by omega)
    have hs1 : σ 16 k = nI (lv k) := (c4.2.2.1 k hk).1
    have hs2 : σ 17 k = eU (ur k) := (c4.2.2.1 k hk).2.1
    have hst : σ 19 (od p) = nI (st (od p)) := (c4.2.2.1 _ ho).2.2.2
    have hstb := (b4.2.1 _ ho).2.2.2
    have hs2' := (hw.2.1 _ ho).2.1
    have hrowA := x3_row (μ := mp σ [15, 16, 17, 18, 19, 20]) c4 h80 hw hL ho (show lv k ≤ 4 by omega) htk (hw.u80 hk)
    have hrowB := x10_row b4 b3 hwl hw ho hk
    have u9 : X9_renumber_51 (nI k) (m + 1) (nI (th (lv k))) (nI x) (nI p) σ = if (if lv (od p) = lv k ∧ (th (lv k) ≠ 0 ∨ ur (od p) = ur k) then (1 : Int32) else 0) = 0 then X9_renumber_51 (nI k) m (nI (th (lv k))) (nI x) (nI (p + 1)) σ else if nI (st (od p)) = 0 then bd (X5_plain (nI (x + 1))) fun r11 => bd (X2_give (nI (od p)) (nI dy) r11 (mp σ [21, 22, 23, 24, 25, 26, 32])) fun r12 => kad r12.2 (X9_renumber_51 (nI k) m (nI (th (lv k))) (nI (x + 1)) (nI (p + 1)) (mg σ [21, 22, 23, 24, 25, 26, 32] r12.1)) else bd (X2_give (nI (od p)) (nI dy) 0 (mp σ [21, 22, 23, 24, 25, 26, 32])) fun r17 => kad r17.2 (X9_renumber_51 (nI k) m (nI (th (lv k))) (nI x) (nI (p + 1)) (mg σ [21, 22, 23, 24, 25, 26, 32] r17.1)) := by
      conv => lhs; unfold X9_renumber_51
      rw [hn, if_neg (nI_ge (by omega) (by omega)), gd_i (vp_in_nI (by omega) (by omega)), nI_clamp (by omega), hod]
      simp only [lt]
      rw [gd_i (vp_in_nI (by omega) (by omega)), gd_i (vp_in_nI (by omega) (by omega)), nI_clamp (by omega), hs1, hs2, hrowA, bd_s, gd_i (vp_in_nI (by omega) (by omega)), nI_clamp (by omega), hst, nI_1, nI_1, c7]
    have u10 : X10_renumber_25 (nI k) (m' + 1) (nI x) (nI p) τ = if (if lv (od p) = lv k ∧ (th (lv k) ≠ 0 ∨ ur (od p) = ur k) then (1 : Int32) else 0) = 0 then X10_renumber_25 (nI k) m' (nI x) (nI (p + 1)) τ else if nI (st (od p)) = 0 then bd (X10_change (nI (od p)) (nI ((x + 1) * 531441)) τ) fun r => X10_renumber_25 (nI k) m' (nI (x + 1)) (nI (p + 1)) r else bd (X10_change (nI (od p)) 0 τ) fun r => X10_renumber_25 (nI k) m' (nI x) (nI (p + 1)) r := by
      conv => lhs; unfold X10_renumber_25
      rw [b4.1, if_neg (nI_ge (by omega) (by omega)), gd_i (vp_in_nI (by omega) (by omega)), nI_clamp (by omega), hodb]
      simp only [lt]
      rw [hrowB, bd_s, gd_i (vp_in_nI (by omega) (by omega)), nI_clamp (by omega), hstb, nI_1, nI_1]
      unfold X10_renumber_67
      rw [gd_i (vp_in_nI (by omega) (by omega)), gd_i (vp_in_nI (by omega) (by omega)), nI_clamp (by omega), hstb]
      have e5 : nI (x + 1) * 531441 = nI ((x + 1) * 531441) := pk_mul (x + 1) 531441
      rw [e5]
      by_cases hr : (if lv (od p) = lv k ∧ (th (lv k) ≠ 0 ∨ ur (od p) = ur k) then (1 : Int32) else 0) = 0
      · rw [if_pos hr, if_pos hr]
      · rw [if_neg hr, if_neg hr]
        by_cases hz : nI (st (od p)) = 0
        · rw [if_pos hz, if_pos hz, if_pos hz]
          unfold X10_renumber_88
          simp only [lt]
          rw [nI_1]
        · rw [if_neg hz, if_neg hz, if_neg hz]
          unfold X10_renumber_88
          simp only [lt]
          rw [nI_1]
    rw [u9, u10]
    -- one gift, then the rest
    have step : ∀ (x' a b : Nat), x' ≤ p + 1 → LRN a b → ∃ σ1 κ1 τ1 H1 R1, (bd (X2_give (nI (od p)) (nI dy) (nI a) (mp σ [21, 22, 23, 24, 25, 26, 32])) fun r12 => kad r12.2 (X9_renumber_51 (nI k) m (nI (th (lv k))) (nI x') (nI (p + 1)) (mg σ [21, 22, 23, 24, 25, 26, 32] r12.1))) = some ((1, σ1), κ1) ∧ (bd (X10_change (nI (od p)) (nI b) τ) fun r => X10_renumber_25 (nI k) m' (nI x') (nI (p + 1)) r) = some (1, τ1) ∧ CHI (cmpH H1) R1 (mp σ1 [21, 22, 23, 24, 25, 26, 32]) ∧ BHI H1 τ1 ∧ WH H1 dy ∧ (∃ E, H1 = E ++ H) ∧ H1.length ≤ H.length + (d + 1) ∧ SMH σ σ1 ∧ FR [11, 12, 13] [25] τ τ1 ∧ ∀ κ, KOK R κ → KOK R1 (κ + κ1) := fun x' a b hx' hab => by
      have hGl := cmp_len H
      have hlx := ((lat_lt (k := od p) (show dy < 2 ^ 31 by omega) wh).b).1
      obtain ⟨μ2, R2, κ2, m3, m4, m5⟩ := x2_give c5 (k := od p) (d := dy) (x := a) b (by omega) (by omega) hab.b.1 (by rw [cmp_lat]; exact hlx)
      obtain ⟨τ2, n4, n5, n6⟩ := x10_change (k := od p) (dy := dy) (y := b) b5 (by omega) a b7
      have e7 : cmpH ((od p, dy, a, b) :: H) = if latA (cmpH H) (od p) = a then cmpH H else (od p, dy, a, b) :: cmpH H := by
        rw [cmp_lat]
        rfl
      rw [← e7] at m4
      obtain ⟨σ1, κ1, τ1, H1, R1, i1, i2, i3, i4, i5, ⟨E, i6⟩, i7, i8, i9, i10⟩ := ih (p + 1) x' m m' (mg σ [21, 22, 23, 24, 25, 26, 32] μ2) τ2 ((od p, dy, a, b) :: H) R2 (by omega) (by omega) (by omega) hx' c4 (m4.eq rfl rfl rfl rfl rfl rfl rfl) c7 (b4.fr n6 (by decide) (by decide)) (b3.fr n6 (by decide) (by decide)) n5 ((n6.2 11 (by decide)).trans b7) ⟨by omega, Nat.le_refl _, hab, wh⟩ (by rw [List.length_cons]; omega)
      rw [List.length_cons] at i7
      refine ⟨σ1, κ2 + κ1, τ1, H1, R1, ?_, ?_, i3, i4, i5, ⟨E ++ [(od p, dy, a, b)], by rw [i6, List.append_assoc]; rfl⟩, by omega, SMH.mg.tr i8, n6.tr i9, fun κ h => ?_⟩
      · rw [m3, bd_s, i1]
        rfl
      · rw [n4, bd_s, i2]
      · have := i10 _ (m5 κ h)
        rw [Nat.add_assoc] at this
        exact this
    by_cases hr : lv (od p) = lv k ∧ (th (lv k) ≠ 0 ∨ ur (od p) = ur k)
    · rw [if_pos hr, if_neg (show ¬ (1 : Int32) = 0 by decide), if_neg (show ¬ (1 : Int32) = 0 by decide)]
      by_cases hz : st (od p) = 0
      · rw [if_pos (show nI (st (od p)) = 0 by rw [hz]; rfl), if_pos (show nI (st (od p)) = 0 by rw [hz]; rfl), x5_plainN (x + 1) (by omega), bd_s, if_pos (show 1 ≤ x + 1 ∧ x + 1 ≤ 999 by omega)]
        exact step (x + 1) ((x + 1) * 1048576) ((x + 1) * 531441) (by omega) (Or.inr ⟨x + 1, _, LOK_0 (by omega) (by omega), cA_plain _, cB_plain _⟩)
      · rw [if_neg (nI_ne0 (by omega) (by omega)), if_neg (nI_ne0 (by omega) (by omega))]
        exact step x 0 0 (by omega) (Or.inl ⟨rfl, rfl⟩)
    · rw [if_neg hr, if_pos rfl, if_pos rfl]
      obtain ⟨σ1, κ1, τ1, H1, R1, i1, i2, i3, i4, i5, i6, i7, i8, i9, i10⟩ := ih (p + 1) x m m' σ τ H R (by omega) (by omega) (by omega) (by omega) c4 c5 c7 b4 b3 b5 b7 wh (by omega)
      exact ⟨σ1, κ1, τ1, H1, R1, i1, i2, i3, i4, i5, i6, by omega, i8, i9, i10⟩
theorem pu_renumber : PU_renumber Rel0 := by
  intro i σ τ w κ a1 hi h
  have h' := h
  obtain ⟨T, O, L, fm, th, dy, n, lv, ur, cm, st, od, H, R, A, c, r, s4, hw⟩ := h
  obtain ⟨c1, c2, c3, c4, c5, c6, c7⟩ := c
  obtain ⟨b1, b2, b3, b4, b5, b6, b7, b8⟩ := r.th (v := 0)
  obtain ⟨wl, wi, wh, wd, wa, wn, wk⟩ := hw
  have h80 := wi.1
  have hc6 := c6
  obtain ⟨q, -, -, -, hA, -⟩ := hc6
  have u10 : X10_renumber a1 τ = bd (X10_isItem a1 (Mem0 τ 0)) fun r16 => if r16 = 0 then some (0, Mem0 τ 0) else bd (X10_act 2 a1 (Mem0 τ 0)) fun r18 => X10_renumber_25 a1 FU 0 0 r18 := rfl
  rw [u10]
  rcases has_both c4 b4 h80 a1 with ⟨f1, f2, k, hk, rfl⟩ | ⟨f1, f2, -⟩
  · have hlk := (wi.2.1 k hk).1
    obtain ⟨μ1, m1, m2⟩ := x0_open (r := 2) (i := k) (Hs := H) c6
    obtain ⟨τ2, n1, n2, n3⟩ := x10_act (r := 2) (i := k) (Hs := H) b6 hA b5.1
    obtain ⟨σ1, κ1, τ1, H1, R1, i1, i2, i3, i4, i5, ⟨E, i6⟩, i7, i8, i9, i10⟩ := ren_loop (cm := cm) (dy := dy) wl wi hk wd n 0 0 FU FU (mg σ [27, 28, 29, 30] μ1) τ2 H R (by omega) (by unfold FU; omega) (by unfold FU; omega) (by omega) c4 (c5.eq rfl rfl rfl rfl rfl rfl rfl) c7 (b4.fr n3 (by decide) (by decide)) (b3.fr n3 (by decide) (by decide)) (b5.fr n3 (by decide) (by decide)) ((n3.2 11 (by decide)).trans b7) wh (by omega)
    have fa : FR [14, 15, 16, 11, 12, 13] [29, 25] (Mem0 τ 0) τ1 := (n3.mono (by decide) (by decide)).tr (i9.mono (by decide) (by decide))
    refine ⟨1, σ1, κ1, τ1, ?_, ?_, T, O, L, fm, th, dy, n, lv, ur, cm, st, od, H1, R1, ((2, k, H) :: A).take 100, ⟨?_, ?_, ?_, ?_, i3, ?_, ?_⟩, ?_, ?_, ?_⟩
    · have hsz : σ 21 5 = nI (cmpH H).length := c5.1
      have m1' : X0_open 3 (nI k) (nI (cmpH H).length) (mp σ [27, 28, 29, 30]) = some μ1 := m1
      have hs1 : mg σ [27, 28, 29, 30] μ1 16 k = nI (lv k) := (c4.2.2.1 k hk).1
      have c3' : CLV L fm th (mp (mg σ [27, 28, 29, 30] μ1) [5, 6, 7]) := c3
      unfold X9_renumber
      rw [f1, bd_s, if_neg (show ¬ (1 : Int32) = 0 by decide), hsz, m1', bd_s]
      simp only [lt]
      rw [gd_i (vp_in_nI (by omega) (by omega)), nI_clamp (by omega), hs1, x6_thr c3' wl hlk, bd_s]
      exact i1
    · have n1' : X10_act 2 (nI k) (Mem0 τ 0) = some τ2 := n1
      rw [f2, bd_s, if_neg (show ¬ (1 : Int32) = 0 by decide), n1', bd_s]
      exact i2
    · exact c1.eq (i8 1 (by decide)) (i8 2 (by decide))
    · exact c2.eq (i8 3 (by decide)) (i8 4 (by decide))
    · exact c3.eq (i8 5 (by decide)) (i8 6 (by decide)) (i8 7 (by decide))
    · exact c4.eq (i8 15 (by decide)) (i8 16 (by decide)) (i8 17 (by decide)) (i8 18 (by decide)) (i8 19 (by decide)) (i8 20 (by decide))
    · exact m2.eq (i8 27 (by decide)) (i8 28 (by decide)) (i8 29 (by decide)) (i8 30 (by decide))
    · rw [i8 0 (by decide)]
      exact c7
    · exact ⟨b1.fr fa (by decide) (by decide), b2.fr fa (by decide) (by decide), b3.fr fa (by decide) (by decide), b4.fr fa (by decide) (by decide), i4, n2.fr i9 (by decide) (by decide), (fa.2 11 (by decide)).trans b7, b8.fr fa (by decide)⟩
    · have e0 := i8 0 (by decide)
      refine ⟨?_, ?_, ?_, ?_⟩
      · rw [e0]
        exact s4.1.trans (fa.2 12 (by decide)).symm
      · rw [e0]
        exact s4.2.1.trans (fa.2 13 (by decide)).symm
      · rw [e0]
        exact s4.2.2.1.trans (fa.2 40 (by decide)).symm
      · rw [e0]
        exact s4.2.2.2.trans (fa.2 41 (by decide)).symm
    · exact ⟨wl, wi, i5, wd, AO_take _ _ _ _ 100 ⟨hk, ⟨E, i6⟩, Or.inr (Or.inr ⟨Or.inl rfl, wa⟩)⟩, by omega, i10 κ wk⟩
  · refine ⟨0, σ, 0, Mem0 τ 0, ?_, ?_, h'.th⟩
    · unfold X9_renumber
      rw [f1, bd_s, if_pos rfl]
    · rw [f2, bd_s, if_pos rfl]
