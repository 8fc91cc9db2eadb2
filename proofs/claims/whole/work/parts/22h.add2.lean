/-! own words: pure part: add, put together -/
theorem m1_ne : ∀ k, k < 81 → ¬ nI k = -1 := by decide
theorem add_told {n L : Nat} {lv ur cm st od fm th : Nat → Nat} {σ τ : Mem} (c3 : CLV L fm th (mp σ [5, 6, 7])) (c4 : CIT n lv ur cm st od (mp σ [15, 16, 17, 18, 19, 20])) (b3 : BLV L fm th (Mem0 τ 0)) (b4 : BIT n lv ur cm st od (Mem0 τ 0)) (wl : WLV L fm th) (wi : WIT L n lv ur st od) (a1 a2 : Int32) :
    (X9_add a1 a2 σ = some ((-1, σ), 0) ∧ X10_add a1 a2 τ = some (-1, Mem0 τ 0)) ∨ ∃ u l, u ≤ n ∧ n < 80 ∧ l < L ∧ (u = 0 → l = 0) ∧ (∀ j, u = j + 1 → j < n ∧ l = lv j + 1) ∧ a1 = eU u ∧ (a2 = -1 ∨ ∃ b, b < n ∧ a2 = nI b ∧ ur b = u) ∧ X9_add a1 a2 σ = X9_add_43 (eU u) a2 (nI l) σ ∧ X10_add a1 a2 τ = X10_add_94 (eU u) a2 (nI n) (nI n) (nI l) (Mem0 τ 0) := by
  have h80 := wi.1
  have hL := wl.2.1
  have hL1 := wl.1
  have hn : σ 15 5 = nI n := c4.1
  have hL5 : σ 5 2 = nI L := c3.1
  have u9 : X9_add a1 a2 σ = if (80 : Int32) ≤ nI n then some ((-1, σ), 0) else bd (X9_isPlaceTold a1 a2 σ) fun r17 => if r17 = 0 then some ((-1, σ), 0) else if a1 = -1 then X9_add_43 a1 a2 0 σ else gd a1 80 (X9_add_43 a1 a2 (σ 16 (Int32.toNatClampNeg a1) + 1) σ) := by
    unfold X9_add
    rw [hn]
  have u10 : X10_add a1 a2 τ = if nI n = 80 then some (-1, Mem0 τ 0) else if a1 = -1 then X10_add_42 a1 a2 (Mem0 τ 0) else bd (X10_isItem a1 (Mem0 τ 0)) fun r68 => if r68 = 0 then some (-1, Mem0 τ 0) else gd a1 80 (if Mem0 τ 0 6 (Int32.toNatClampNeg a1) = Mem0 τ 0 0 9 - 1 then some (-1, Mem0 τ 0) else X10_add_42 a1 a2 (Mem0 τ 0)) := by
    unfold X10_add
    show (if Mem0 τ 0 0 21 = 80 then _ else _) = _
    rw [b4.1]
    rfl
  by_cases hfull : n = 80
  · refine Or.inl ⟨?_, ?_⟩
    · rw [u9, if_pos (show (80 : Int32) ≤ nI n by rw [hfull]; decide)]
    · rw [u10, if_pos (show nI n = 80 by rw [hfull]; rfl)]
  · rw [if_neg (show ¬ (80 : Int32) ≤ nI n from nI_ge (b := 80) (by omega) (by omega))] at u9
    rw [if_neg (show ¬ nI n = 80 from fun z => hfull ((nI_eq (b := 80) (by omega) (by omega)).mp z))] at u10
    -- what it is put behind
    have beh : ∀ u, u ≤ n → a1 = eU u → (X9_isPlaceTold_39 a1 a2 σ = some 0 ∧ X10_add_42 a1 a2 (Mem0 τ 0) = some (-1, Mem0 τ 0)) ∨ ((a2 = -1 ∨ ∃ b, b < n ∧ a2 = nI b ∧ ur b = u) ∧ X9_isPlaceTold_39 a1 a2 σ = some 1 ∧ X10_add_42 a1 a2 (Mem0 τ 0) = X10_add_67 a1 a2 (Mem0 τ 0)) := fun u hu ha => by
      unfold X9_isPlaceTold_39 X10_add_42
      by_cases h2 : a2 = -1
      · rw [if_pos h2, if_pos h2]
        exact Or.inr ⟨Or.inl h2, rfl, rfl⟩
      · rw [if_neg h2, if_neg h2]
        rcases has_both c4 b4 h80 a2 with ⟨e1, e2, b, hb, rfl⟩ | ⟨e1, e2, -⟩
        · have f2 : σ 17 b = eU (ur b) := (c4.2.2.1 b hb).2.1
          rw [e1, bd_s, e2, bd_s, if_neg (show ¬ (1 : Int32) = 0 by decide), if_neg (show ¬ (1 : Int32) = 0 by decide), gd_i (vp_in_nI (by omega) (by omega)), gd_i (vp_in_nI (by omega) (by omega)), nI_clamp (by omega), f2, (b4.2.1 b hb).2.1, ha]
          by_cases h3 : ur b = u
          · rw [if_pos (by rw [h3]), if_pos (by rw [h3])]
            exact Or.inr ⟨Or.inr ⟨b, hb, rfl, h3⟩, rfl, rfl⟩
          · rw [if_neg (fun z => h3 ((eU_inj (wi.u80 hb) (by omega)).mp z)), if_neg (fun z => h3 ((eU_inj (wi.u80 hb) (by omega)).mp z))]
            exact Or.inl ⟨rfl, rfl⟩
        · rw [e1, bd_s, e2, bd_s, if_pos rfl, if_pos rfl]
          exact Or.inl ⟨rfl, rfl⟩
    by_cases h1 : a1 = -1
    · have e40 : X9_isPlaceTold a1 a2 σ = X9_isPlaceTold_39 a1 a2 σ := if_pos h1
      rw [if_pos h1] at u10
      rcases beh 0 (by omega) h1 with ⟨g1, g2⟩ | ⟨g0, g1, g2⟩
      · exact Or.inl ⟨by rw [u9, e40, g1, bd_s, if_pos rfl], by rw [u10, g2]⟩
      · refine Or.inr ⟨0, 0, by omega, by omega, by omega, fun _ => rfl, fun j hj => by omega, h1, g0, ?_, ?_⟩
        · rw [u9, e40, g1, bd_s, if_neg (show ¬ (1 : Int32) = 0 by decide), if_pos h1, h1]
          rfl
        · rw [u10, g2]
          unfold X10_add_67
          show (if a1 = -1 then X10_add_94 a1 a2 (Mem0 τ 0 0 21) (Mem0 τ 0 0 21) 0 (Mem0 τ 0) else _) = _
          rw [if_pos h1, b4.1, h1]
          rfl
    · rw [if_neg h1] at u10
      have e40 : X9_isPlaceTold a1 a2 σ = bd (X3_has a1 (mp σ [15, 16, 17, 18, 19, 20])) fun r7 => if r7 = 0 then some 0 else gd a1 80 (if ((σ 16 (Int32.toNatClampNeg a1)) + 1) < (σ 5 2) then X9_isPlaceTold_39 a1 a2 σ else some 0) := if_neg h1
      rcases has_both c4 b4 h80 a1 with ⟨e1, e2, j, hj, rfl⟩ | ⟨e1, e2, -⟩
      · have f1 : σ 16 j = nI (lv j) := (c4.2.2.1 j hj).1
        have hlj := (wi.2.1 j hj).1
        rw [e1, bd_s, if_neg (show ¬ (1 : Int32) = 0 by decide), gd_i (vp_in_nI (by omega) (by omega)), nI_clamp (by omega), f1, hL5, nI_1] at e40
        have e9 : nI L - 1 = nI (L - 1) := pk_sub (b := 1) hL1
        rw [e2, bd_s, if_neg (show ¬ (1 : Int32) = 0 by decide), gd_i (vp_in_nI (by omega) (by omega)), nI_clamp (by omega), (b4.2.1 j hj).1, b3.1, e9] at u10
        by_cases hl : lv j + 1 < L
        · rw [if_pos (nI_lt hl (by omega))] at e40
          rw [if_neg (fun z => by have := (nI_eq (by omega) (by omega)).mp z; omega)] at u10
          rcases beh (j + 1) (by omega) rfl with ⟨g1, g2⟩ | ⟨g0, g1, g2⟩
          · exact Or.inl ⟨by rw [u9, e40, g1, bd_s, if_pos rfl], by rw [u10, g2]⟩
          · refine Or.inr ⟨j + 1, lv j + 1, by omega, by omega, hl, fun z => by omega, fun j' hj' => ?_, rfl, g0, ?_, ?_⟩
            · obtain rfl : j' = j := by omega
              exact ⟨hj, rfl⟩
            · rw [u9, e40, g1, bd_s, if_neg (show ¬ (1 : Int32) = 0 by decide), if_neg h1, gd_i (vp_in_nI (by omega) (by omega)), nI_clamp (by omega), f1, nI_1]
              rfl
            · rw [u10, g2]
              unfold X10_add_67
              show (if nI j = -1 then _ else gd (nI j) 80 (X10_add_94 (nI j) a2 (Mem0 τ 0 0 21) (Mem0 τ 0 0 21) (Mem0 τ 0 6 (Int32.toNatClampNeg (nI j)) + 1) (Mem0 τ 0))) = _
              rw [if_neg h1, gd_i (vp_in_nI (by omega) (by omega)), nI_clamp (by omega), b4.1, (b4.2.1 j hj).1, nI_1]
              rfl
        · rw [if_neg (nI_nlt (by omega) (by omega))] at e40
          rw [if_pos (show nI (lv j) = nI (L - 1) by rw [show lv j = L - 1 by omega])] at u10
          exact Or.inl ⟨by rw [u9, e40, bd_s, if_pos rfl], u10⟩
      · rw [e1, bd_s, if_pos rfl] at e40
        rw [e2, bd_s, if_pos rfl] at u10
        exact Or.inl ⟨by rw [u9, e40, bd_s, if_pos rfl], u10⟩
theorem add_place {n L : Nat} {lv ur cm st od : Nat → Nat} {σ τ : Mem} (c4 : CIT n lv ur cm st od (mp σ [15, 16, 17, 18, 19, 20])) (b4 : BIT n lv ur cm st od τ) (wi : WIT L n lv ur st od) {u l : Nat} (hu : u ≤ n) (hn : n < 80) (hu0 : u = 0 → l = 0) (huj : ∀ j, u = j + 1 → j < n ∧ l = lv j + 1) {a2 : Int32} (ha2 : a2 = -1 ∨ ∃ b, b < n ∧ a2 = nI b ∧ ur b = u) :
    ∃ to, to ≤ n ∧ X9_placeOfNew (eU u) a2 σ = some (nI to) ∧ X10_add_94 (eU u) a2 (nI n) (nI n) (nI l) τ = X10_add_164 (eU u) a2 (nI n) (nI to) (up (up τ 6 n (nI l)) 7 n (eU u)) ∧
      (∀ j, u = j + 1 → ∃ P, P < to ∧ od P = j ∧ ∀ r, P < r → r < to → lv j < lv (od r)) ∧ (∀ q, to ≤ q → q < n → ∀ j, ur (od q) = j + 1 → ∀ P, P < to → od P = j → (∀ r, P < r → r ≤ q → lv j < lv (od r)) → lv j < l) := by
  have h80 := wi.1
  have b4' : BIT n lv ur cm st od (up (up τ 6 n (nI l)) 7 n (eU u)) := by
    refine ⟨b4.1, fun k hk => ?_, b4.2.2⟩
    show upd (τ 6) n (nI l) k = _ ∧ upd (τ 7) n (eU u) k = _ ∧ _
    rw [pk_un (by omega), pk_un (by omega)]
    exact b4.2.1 k hk
  have e94 : X10_add_94 (eU u) a2 (nI n) (nI n) (nI l) τ = if eU u = -1 then X10_add_118 (eU u) a2 (nI n) 0 (up (up τ 6 n (nI l)) 7 n (eU u)) else bd (X10_placeOf (eU u) (up (up τ 6 n (nI l)) 7 n (eU u))) fun r56 => X10_add_118 (eU u) a2 (nI n) (r56 + 1) (up (up τ 6 n (nI l)) 7 n (eU u)) := by
    unfold X10_add_94
    rw [gd_i (vp_in_nI (by omega) (by omega))]
    simp only [lt]
    rw [gd_i (vp_in_nI (by omega) (by omega)), nI_clamp (by omega)]
  -- the place of what it lies under
  have hup : (u = 0 ∧ eU u = -1) ∨ ∃ j pj, u = j + 1 ∧ pj < n ∧ od pj = j ∧ ¬ eU u = -1 ∧ eU u = nI (od pj) := by
    cases u with
    | zero => exact Or.inl ⟨rfl, rfl⟩
    | succ j =>
      obtain ⟨hj, -⟩ := huj j rfl
      obtain ⟨pj, hp, e⟩ := wi.2.2.2.2.1 j hj
      exact Or.inr ⟨j, pj, rfl, hp, e, m1_ne j (by omega), by rw [e]; rfl⟩
  have e118 : ∃ y0, X10_add_94 (eU u) a2 (nI n) (nI n) (nI l) τ = X10_add_118 (eU u) a2 (nI n) y0 (up (up τ 6 n (nI l)) 7 n (eU u)) ∧ (u = 0 → y0 = nI 0) ∧ ∀ j pj, u = j + 1 → pj < n → od pj = j → y0 = nI (pj + 1) := by
    rcases hup with ⟨h0, h1⟩ | ⟨j, pj, h0, hp, ho, h1, h2⟩
    · exact ⟨0, by rw [e94, if_pos h1], fun _ => rfl, fun j pj hj => by omega⟩
    · refine ⟨nI (pj + 1), ?_, fun z => by omega, fun j' pj' hj' hp' ho' => ?_⟩
      · rw [e94, if_neg h1, h2, x10_place (τ := up (up τ 6 n (nI l)) 7 n (nI (od pj))) (by rw [← h2]; exact b4') wi hp, bd_s, nI_1]
      · have : pj' = pj := wi.2.2.2.1 _ _ hp' hp (by rw [ho', ho]; omega)
        rw [this]
  obtain ⟨y0, e1, y1, y2⟩ := e118
  rcases ha2 with rfl | ⟨b, hb, rfl, hbu⟩
  · -- the first one
    have e2 : X10_add_118 (eU u) (-1) (nI n) y0 (up (up τ 6 n (nI l)) 7 n (eU u)) = X10_add_164 (eU u) (-1) (nI n) y0 (up (up τ 6 n (nI l)) 7 n (eU u)) := if_pos rfl
    rcases hup with ⟨h0, h1⟩ | ⟨j, pj, h0, hp, ho, h1, h2⟩
    · refine ⟨0, by omega, ?_, by rw [e1, e2, y1 h0], fun j hj => by omega, fun q _ _ j _ P hP => by omega⟩
      unfold X9_placeOfNew
      rw [if_pos rfl, if_pos h1]
      rfl
    · refine ⟨pj + 1, by omega, ?_, by rw [e1, e2, y2 j pj h0 hp ho], fun j' hj' => ⟨pj, by omega, by rw [ho]; omega, fun r h1 h2 => by omega⟩, fun q hq hqn j' hj' P hP hPo hr => ?_⟩
      · unfold X9_placeOfNew
        rw [if_pos rfl, if_neg h1, h2, x3_place c4 wi hp, bd_s, nI_1]
      · have hl2 := (huj j h0).2
        by_cases hPp : P = pj
        · rw [← hPo, hPp, ho]
          omega
        · have := hr pj (by omega) (by omega)
          rw [ho] at this
          omega
  · -- behind another one
    obtain ⟨pb, hpb, rfl⟩ := wi.2.2.2.2.1 b hb
    have hlb : l = lv (od pb) := by
      rcases hup with ⟨h0, -⟩ | ⟨j, pj, h0, -⟩
      · rw [hu0 h0, (wi.2.1 _ hb).2.2.1 (by rw [hbu, h0])]
      · rw [(huj j h0).2, ((wi.2.1 _ hb).2.2.2 j (by rw [hbu, h0])).2]
    have e2 : X10_add_118 (eU u) (nI (od pb)) (nI n) y0 (up (up τ 6 n (nI l)) 7 n (eU u)) = X10_add_134 (eU u) (nI (od pb)) FU (nI n) (nI (pb + 1)) (up (up τ 6 n (nI l)) 7 n (eU u)) := by
      unfold X10_add_118
      rw [if_neg (m1_ne _ (by omega)), x10_place b4' wi hpb, bd_s]
      simp only [lt]
      rw [nI_1]
    obtain ⟨to, t1, t2, t3, t4, t5, t6⟩ := run_ex (a1 := eU u) (x3 := nI n) c4 b4' wi hpb (n - (pb + 1)) (pb + 1) FU FU (by omega) (by unfold FU; omega) (by unfold FU; omega) (by omega) (fun s h1 h2 => by omega)
    refine ⟨to, t2, ?_, by rw [e1, e2, t4], fun j hj => ?_, fun q hq hqn j' hj' P hP hPo hr => ?_⟩
    · unfold X9_placeOfNew
      rw [if_neg (m1_ne _ (by omega))]
      unfold X3_placeBehind
      rw [x3_place c4 wi hpb, bd_s]
      simp only [lt]
      rw [nI_1, t3, bd_s]
    · obtain ⟨P, hP1, hP2, hP3⟩ := wi.2.2.2.2.2 pb hpb j (by rw [hbu, hj])
      refine ⟨P, by omega, hP2, fun r h1 h2 => ?_⟩
      rcases Nat.lt_or_ge pb r with z | z
      · have := t5 r z h2
        have := (huj j hj).2
        omega
      · exact hP3 r h1 z
    · have := t6 (by omega)
      have := hr to hP hq
      omega
set_option maxHeartbeats 1000000 in
theorem pu_add : PU_add Rel0 := by
  intro i σ τ w κ a1 a2 hi h
  have h' := h
  obtain ⟨T, O, L, fm, th, dy, n, lv, ur, cm, st, od, H, R, A, c, r, s4, hw⟩ := h
  obtain ⟨c1, c2, c3, c4, c5, c6, c7⟩ := c
  obtain ⟨b1, b2, b3, b4, b5, b6, b7, b8⟩ := r.th (v := 0)
  obtain ⟨wl, wi, wh, wd, wa, wn, wk⟩ := hw
  have h80 := wi.1
  have hL := wl.2.1
  have hc6 := c6
  obtain ⟨q, -, -, -, hA, -⟩ := hc6
  have hGl := cmp_len H
  rcases add_told c3 c4 b3 b4 wl wi a1 a2 with ⟨e1, e2⟩ | ⟨u, l, hu, hn, hl, hu0, huj, ha1, ha2, e1, e2⟩
  · exact ⟨-1, σ, 0, Mem0 τ 0, e1, e2, h'.th⟩
  · obtain ⟨to, hto, p1, p2, s1, s2⟩ := add_place c4 b4 wi hu hn hu0 huj ha2
    have ht := (wl.2.2 l hl).2
    have g1 := x9_ahead c4 c5 wi hL (show dy < 2 ^ 31 by omega) wh (show l ≤ 4 by omega) ht (show u ≤ 80 by omega) hto
    have g2 := x9_from c4 c5 wi hL (show dy < 2 ^ 31 by omega) wh (show l ≤ 4 by omega) ht (show u ≤ 80 by omega) hto
    have k1 := ah_LRN (lv := lv) (ur := ur) (od := od) (l := l) (t := th l) (u := u) (show dy < 2 ^ 31 by omega) wh to
    have k2 := fr_LRN (lv := lv) (ur := ur) (od := od) (l := l) (t := th l) (u := u) (show dy < 2 ^ 31 by omega) wh (n - to) to
    obtain ⟨x, y, hxy, m1, m2⟩ := btw k1 k2
    have fU : FR [6, 7] [] (Mem0 τ 0) (up (up (Mem0 τ 0) 6 n (nI l)) 7 n (eU u)) := (FR.rf.cel (by decide) (by decide)).cel (by decide) (by decide)
    have b4' : BIT n lv ur cm st od (up (up (Mem0 τ 0) 6 n (nI l)) 7 n (eU u)) := by
      refine ⟨b4.1, fun k hk => ?_, b4.2.2⟩
      show upd (τ 6) n (nI l) k = _ ∧ upd (τ 7) n (eU u) k = _ ∧ _
      rw [pk_un (by omega), pk_un (by omega)]
      exact b4.2.1 k hk
    have e6n : (up (up (Mem0 τ 0) 6 n (nI l)) 7 n (eU u)) 6 n = nI l := pk_us
    have e7n : (up (up (Mem0 τ 0) 6 n (nI l)) 7 n (eU u)) 7 n = eU u := pk_us
    have g3 := x10_173 (a1 := eU u) (a2 := a2) b4' (b3.fr fU (by decide) (by decide)) wl wi (b5.fr fU (by decide) (by decide)) ((fU.2 11 (by decide)).trans b7) wh wd (show H.length ≤ 50000 by omega) hn e6n e7n hl (show u ≤ 80 by omega) hto
    obtain ⟨τ1, f17, m3⟩ := m2 (eU u) a2 (nI n) (nI to) (up (up (Mem0 τ 0) 6 n (nI l)) 7 n (eU u))
    have u10 : X10_add a1 a2 τ = X10_add_332 (eU u) a2 (nI n) (nI to) (nI y) τ1 := by
      rw [e2, p2]
      unfold X10_add_164
      exact g3.trans m3
    have f1 := f17.fr
    have b4a : BIT n lv ur cm st od τ1 := b4'.fr f1 (by decide) (by decide)
    have fA : FR [6, 7, 17] [] (Mem0 τ 0) τ1 := (fU.mono (by decide) (by decide)).tr (f1.mono (by decide) (by decide))
    have hz := hxy.z
    have hb := hxy.b
    have c7' : σ 0 10 = nI dy := c7
    have hnn : σ 15 5 = nI n := c4.1
    have hsz : σ 21 5 = nI (cmpH H).length := c5.1
    have u9 : X9_add a1 a2 σ = if nI x = 0 then some ((-2, σ), 0) else bd (X0_open 1 (nI n) (nI (cmpH H).length) (mp σ [27, 28, 29, 30])) fun r8 => bd (X3_insert (nI to) (nI l) (eU u) (nI dy) (mp (mg σ [27, 28, 29, 30] r8) [15, 16, 17, 18, 19, 20])) fun r10 => bd (X2_give (nI n) (nI dy) (nI x) (mp (mg (mg σ [27, 28, 29, 30] r8) [15, 16, 17, 18, 19, 20] r10) [21, 22, 23, 24, 25, 26, 32])) fun r12 => kad r12.2 (some ((nI n, mg (mg (mg σ [27, 28, 29, 30] r8) [15, 16, 17, 18, 19, 20] r10) [21, 22, 23, 24, 25, 26, 32] r12.1), 0)) := by
      rw [e1]
      unfold X9_add_43
      rw [p1, bd_s, x6_thr c3 wl hl, bd_s, g1, bd_s, g2, bd_s, m1, bd_s, hnn, hsz]
      simp only [lt]
      have ee : ∀ r8 : Mem, mg σ [27, 28, 29, 30] r8 0 10 = nI dy := fun r8 => c7
      have ee2 : ∀ r8 r10 : Mem, mg (mg σ [27, 28, 29, 30] r8) [15, 16, 17, 18, 19, 20] r10 0 10 = nI dy := fun r8 r10 => c7
      simp only [ee, ee2]
    by_cases hx : x = 0
    · have hy := hz.mp hx
      refine ⟨-2, σ, 0, τ1, by rw [u9, if_pos (show nI x = 0 by rw [hx]; rfl)], ?_, T, O, L, fm, th, dy, n, lv, ur, cm, st, od, H, R, A, ⟨c1, c2, c3, c4, c5, c6, c7⟩, ?_, ?_, wl, wi, wh, wd, wa, by omega, wk⟩
      · rw [u10]
        unfold X10_add_332
        rw [if_pos (show nI y = 0 by rw [hy]; rfl)]
      · exact ⟨b1.fr fA (by decide) (by decide), b2.fr fA (by decide) (by decide), b3.fr fA (by decide) (by decide), b4a, b5.fr fA (by decide) (by decide), b6.fr fA (by decide) (by decide), (fA.2 11 (by decide)).trans b7, b8.fr fA (by decide)⟩
      · exact ⟨s4.1.trans (fA.2 12 (by decide)).symm, s4.2.1.trans (fA.2 13 (by decide)).symm, s4.2.2.1.trans (fA.2 40 (by decide)).symm, s4.2.2.2.trans (fA.2 41 (by decide)).symm⟩
    · have hy : y ≠ 0 := fun z => hx (hz.mpr z)
      have hlx := ((lat_lt (k := n) (show dy < 2 ^ 31 by omega) wh).b).1
      obtain ⟨μ1, q1, q2⟩ := x0_open (r := 0) (i := n) (Hs := H) c6
      obtain ⟨μ2, q3, q4⟩ := x3_ins (L := L) (μ := mp (mg σ [27, 28, 29, 30] μ1) [15, 16, 17, 18, 19, 20]) (l := l) (u := u) (dy := dy) c4 hn hto
      obtain ⟨μ3, R1, κ1, q5, q6, q7⟩ := x2_give (μ := mp (mg (mg σ [27, 28, 29, 30] μ1) [15, 16, 17, 18, 19, 20] μ2) [21, 22, 23, 24, 25, 26, 32]) (k := n) (d := dy) (x := x) (c5.eq rfl rfl rfl rfl rfl rfl rfl) y hn (by omega) hb.1 (by rw [cmp_lat]; exact hlx)
      obtain ⟨τ2, n1, n2, n3⟩ := x10_act (r := 0) (i := n) (Hs := H) (b6.fr fA (by decide) (by decide)) hA ((fA.2 25 (by decide)).trans b5.1)
      have b4b : BIT n lv ur cm st od τ2 := b4a.fr n3 (by decide) (by decide)
      obtain ⟨τ3, n4, n5, n6⟩ := x10_352 (f := τ2 9) (x7 := nI y) (a1 := eU u) (a2 := a2) (τ0 := τ2) hn hto (n - to) n FU τ2 (by omega) (by unfold FU; omega) (Nat.le_refl _) (fun j => by rw [if_neg (by omega)]) FR.rf
      have f2 : FR [6, 7, 17, 14, 15, 16, 9] [29] (Mem0 τ 0) τ3 := ((fA.mono (by decide) (by decide)).tr (n3.mono (by decide) (by decide))).tr (n6.mono (by decide) (by decide))
      have hday : τ3 0 11 = nI dy := (f2.2 11 (by decide)).trans b7
      have h21 : τ3 0 21 = nI n := (f2.2 21 (by decide)).trans b4.1
      have f3 : FR [9, 10, 8] [21] τ3 (up (up (up (up τ3 9 to (nI n)) 10 n 0) 8 n (nI dy)) 0 21 (nI (n + 1))) := (((FR.rf.cel (by decide) (by decide)).cel (by decide) (by decide)).cel (by decide) (by decide)).fld (by decide)
      have f4 : FR [6, 7, 17, 14, 15, 16, 9, 10, 8] [29, 21] (Mem0 τ 0) (up (up (up (up τ3 9 to (nI n)) 10 n 0) 8 n (nI dy)) 0 21 (nI (n + 1))) := (f2.mono (by decide) (by decide)).tr (f3.mono (by decide) (by decide))
      obtain ⟨τ5, n7, n8, n9⟩ := x10_change (k := n) (dy := dy) (y := y) (b5.fr f4 (by decide) (by decide)) (by omega) x ((f4.2 11 (by decide)).trans b7)
      have f5 : FR [6, 7, 17, 14, 15, 16, 9, 10, 8, 11, 12, 13] [29, 21, 25] (Mem0 τ 0) τ5 := (f4.mono (by decide) (by decide)).tr (n9.mono (by decide) (by decide))
      refine ⟨nI n, mg (mg (mg σ [27, 28, 29, 30] μ1) [15, 16, 17, 18, 19, 20] μ2) [21, 22, 23, 24, 25, 26, 32] μ3, κ1 + 0, τ5, ?_, ?_, T, O, L, fm, th, dy, n + 1, ud lv n l, ud ur n u, ud cm n dy, ud st n 0, inO od to n, (n, dy, x, y) :: H, R1, ((0, n, H) :: A).take 100, ⟨c1, c2, c3, q4, ?_, q2, c7⟩, ?_, ?_, ?_⟩
      · have q1' : X0_open 1 (nI n) (nI (cmpH H).length) (mp σ [27, 28, 29, 30]) = some μ1 := q1
        rw [u9, if_neg (nI_ne0 (by omega) hb.1), q1', bd_s, q3, bd_s, q5, bd_s]
        rfl
      · rw [u10]
        have n1' : X10_act 0 (nI n) τ1 = some τ2 := n1
        unfold X10_add_332
        rw [if_neg (nI_ne0 (by omega) (by omega)), n1', bd_s]
        show X10_add_352 (eU u) a2 FU (nI n) (nI to) (nI y) (τ2 0 21) τ2 = _
        rw [b4b.1, n4, hday, h21, nI_1, n7, bd_s]
      · have e7 : cmpH ((n, dy, x, y) :: H) = if latA (cmpH H) n = x then cmpH H else (n, dy, x, y) :: cmpH H := by
          rw [cmp_lat]
          rfl
        rw [e7]
        exact q6.eq rfl rfl rfl rfl rfl rfl rfl
      · have g6 : τ5 6 = upd (τ 6) n (nI l) := by
          rw [n9.1 6 (by decide) (by decide), f3.1 6 (by decide) (by decide), n6.1 6 (by decide) (by decide), n3.1 6 (by decide) (by decide), f1.1 6 (by decide) (by decide)]
          rfl
        have g7 : τ5 7 = upd (τ 7) n (eU u) := by
          rw [n9.1 7 (by decide) (by decide), f3.1 7 (by decide) (by decide), n6.1 7 (by decide) (by decide), n3.1 7 (by decide) (by decide), f1.1 7 (by decide) (by decide)]
          rfl
        have g8 : τ5 8 = upd (τ 8) n (nI dy) := by
          rw [n9.1 8 (by decide) (by decide)]
          show upd (τ3 8) n (nI dy) = _
          rw [f2.1 8 (by decide) (by decide)]
          rfl
        have g10 : τ5 10 = upd (τ 10) n 0 := by
          rw [n9.1 10 (by decide) (by decide)]
          show upd (τ3 10) n 0 = _
          rw [f2.1 10 (by decide) (by decide)]
          rfl
        have g9 : ∀ j, τ5 9 j = upd (τ3 9) to (nI n) j := fun j => by
          rw [n9.1 9 (by decide) (by decide)]
          rfl
        have h29 : ∀ j, τ2 9 j = τ 9 j := fun j => by
          rw [n3.1 9 (by decide) (by decide), f1.1 9 (by decide) (by decide)]
          rfl
        refine ⟨b1.fr f5 (by decide) (by decide), b2.fr f5 (by decide) (by decide), b3.fr f5 (by decide) (by decide), ⟨(n9.2 21 (by decide)).trans rfl, fun k hk => ?_, fun p hp => ?_⟩, n8, (n2.fr (n6.mono (C' := [9, 10, 8, 11, 12, 13]) (K' := [21, 25]) (by decide) (by decide) |>.tr ((f3.mono (by decide) (by decide)).tr (n9.mono (by decide) (by decide)))) (by decide) (by decide)), (f5.2 11 (by decide)).trans b7, b8.fr f5 (by decide)⟩
        · rw [g6, g7, g8, g10]
          by_cases hkn : k = n
          · rw [hkn, pk_us, pk_us, pk_us, pk_us, ud_s, ud_s, ud_s, ud_s]
            exact ⟨rfl, rfl, rfl, rfl⟩
          · rw [pk_un hkn, pk_un hkn, pk_un hkn, pk_un hkn, ud_n hkn, ud_n hkn, ud_n hkn, ud_n hkn]
            exact b4.2.1 k (by omega)
        · rw [g9 p]
          unfold inO
          by_cases hpt : p = to
          · rw [hpt, pk_us, if_neg (by omega), if_pos rfl]
          · rw [pk_un hpt, n5 p]
            by_cases hp1 : p < to
            · rw [if_neg (by omega), if_pos hp1, h29]
              exact b4.2.2 p (by omega)
            · rw [if_pos (by omega), if_neg hp1, if_neg hpt, h29]
              exact b4.2.2 (p - 1) (by omega)
      · exact ⟨s4.1.trans (f5.2 12 (by decide)).symm, s4.2.1.trans (f5.2 13 (by decide)).symm, s4.2.2.1.trans (f5.2 40 (by decide)).symm, s4.2.2.2.trans (f5.2 41 (by decide)).symm⟩
      · refine ⟨wl, wi.ins hn hto hl hu0 huj s1 s2, ⟨hn, Nat.le_refl _, hxy, wh⟩, wd, AO_take _ _ _ _ 100 ⟨by omega, ⟨[(n, dy, x, y)], rfl⟩, Or.inl ⟨rfl, rfl, ud_s, ?_⟩⟩, ?_, q7 κ wk⟩
        · exact AO_cong A n st _ H (fun k hk => (ud_n (by omega)).symm) wa
        · rw [List.length_cons]
          omega
