/-! own words: pure part: the calls that tell, and end, wait -/
theorem Rel0.th {i : Nat} {σ τ : Mem} {w w1 : Int64} {κ : Nat} {v : Int32} (h : Rel0 i σ τ w κ) : Rel0 (i + 6) σ (Mem0 τ v) w1 κ := by
  obtain ⟨T, O, L, fm, th, dy, n, lv, ur, cm, st, od, H, R, A, c, r, s4, hw⟩ := h
  exact ⟨T, O, L, fm, th, dy, n, lv, ur, cm, st, od, H, R, A, c, r.th, s4, hw.skip⟩
theorem pu_fault : PU_fault Rel0 := by
  intro i σ τ w κ hi h
  have h' := h
  obtain ⟨T, O, L, fm, th, dy, n, lv, ur, cm, st, od, H, R, A, c, r, s4, hw⟩ := h
  refine ⟨σ 0 11, Mem0 τ 0, rfl, ?_, h'.th⟩
  show some (τ 0 12, _) = _
  rw [← s4.1]
  rfl
theorem pu_place : PU_place Rel0 := by
  intro i σ τ w κ hi h
  have h' := h
  obtain ⟨T, O, L, fm, th, dy, n, lv, ur, cm, st, od, H, R, A, c, r, s4, hw⟩ := h
  refine ⟨σ 0 12, Mem0 τ 0, rfl, ?_, h'.th⟩
  show some (τ 0 13, _) = _
  rw [← s4.2.1]
  rfl
theorem pu_bearers : PU_bearers Rel0 := by
  intro i σ τ w κ hi h
  have h' := h
  obtain ⟨T, O, L, fm, th, dy, n, lv, ur, cm, st, od, H, R, A, c, r, s4, hw⟩ := h
  refine ⟨σ 0 13, Mem0 τ 0, rfl, ?_, h'.th⟩
  show some (τ 0 40, _) = _
  rw [← s4.2.2.1]
  rfl
theorem pu_suffix : PU_suffix Rel0 := by
  intro i σ τ w κ hi h
  have h' := h
  obtain ⟨T, O, L, fm, th, dy, n, lv, ur, cm, st, od, H, R, A, c, r, s4, hw⟩ := h
  refine ⟨σ 0 14, Mem0 τ 0, rfl, ?_, h'.th⟩
  show some (τ 0 41, _) = _
  rw [← s4.2.2.2]
  rfl
theorem i32_le_nI {a : Int32} {n : Nat} (h0 : ¬ a < 0) (h : a ≤ nI n) (hn : n < 2 ^ 31) : ∃ j, j ≤ n ∧ a = nI j := nI_of2 (nI_toInt hn) h0 h
theorem i32_ix {a : Int32} {n : Nat} (h0 : ¬ a < 0) (h : ¬ nI n ≤ a) (hn : n < 2 ^ 31) : ∃ j, j < n ∧ a = nI j := by
  rcases pk_ix a hn with h1 | h1 | h1
  · exact absurd h1 h0
  · exact absurd h1 h
  · exact h1
theorem i32_nlt_le {a b : Int32} (h : ¬ a < b) : b ≤ a := Int32.not_lt.mp h
theorem TXT.take {T : List Nat} {μ : Mem} (h : TXT T μ) {k : Nat} (hk : k ≤ T.length) {μ1 : Mem} (e0 : μ1 0 1 = nI k) (e1 : μ1 1 = μ 1) : TXT (T.take k) μ1 := by
  obtain ⟨a, b, c, d⟩ := h
  have hl : (T.take k).length = k := by rw [List.length_take]; omega
  refine ⟨by omega, by rw [hl]; exact e0, fun i hi => ?_, fun i hi => ?_⟩
  · rw [e1, c i (by omega)]
    simp only [List.getD_eq_getElem?_getD, List.getElem?_take]
    rw [if_pos (by omega)]
  · have := d i (by omega)
    simp only [List.getD_eq_getElem?_getD, List.getElem?_take] at this ⊢
    rw [if_pos (by omega)]
    exact this
theorem take_getD {T : List Nat} {k i : Nat} (h : i < k) : (T.take k).getD i 0 = T.getD i 0 := by
  simp only [List.getD_eq_getElem?_getD, List.getElem?_take]
  rw [if_pos h]
theorem BTP.take {T : List Nat} {τ : Mem} (h : BTP T τ) {k : Nat} (hk : k ≤ T.length) {τ1 : Mem} (e0 : τ1 0 2 = nI k) (e1 : τ1 1 = τ 1) : BTP (T.take k) τ1 := by
  have hl : (T.take k).length = k := by rw [List.length_take]; omega
  refine ⟨by rw [hl]; exact e0, fun i hi => ?_⟩
  rw [e1, take_getD (by omega)]
  exact h.2 i (by omega)
theorem pu_end : PU_end Rel0 := by
  intro i σ τ w κ a1 hi h
  have h' := h
  obtain ⟨T, O, L, fm, th, dy, n, lv, ur, cm, st, od, H, R, A, c, r, s4, hw⟩ := h
  have hT : σ 1 1 = nI T.length := c.1.2.1
  have hTb : τ 0 2 = nI T.length := r.1.1
  have h2 := c.1.1
  by_cases h0 : a1 < 0
  · refine ⟨0, σ, Mem0 τ 0, if_pos h0, if_pos h0, h'.th⟩
  · by_cases h1 : a1 ≤ nI T.length
    · obtain ⟨k, hk, rfl⟩ := i32_le_nI h0 h1 (by omega)
      refine ⟨1, up σ 1 1 (nI k), up (Mem0 τ 0) 0 2 (nI k), ?_, ?_, T.take k, O, L, fm, th, dy, n, lv, ur, cm, st, od, H, R, A, ?_, ?_, s4, hw.skip⟩
      · unfold X9_end
        rw [if_neg h0, hT, if_pos h1]
        rfl
      · unfold X10_end
        show (if nI k < 0 then _ else if nI k ≤ τ 0 2 then _ else _) = _
        rw [if_neg h0, hTb, if_pos h1]
        rfl
      · obtain ⟨c1, c2, c3, c4, c5, c6, c7⟩ := c
        exact ⟨c1.take hk rfl rfl, c2, c3, c4, c5.eq rfl rfl rfl rfl rfl rfl rfl, c6, c7⟩
      · have f : FR [] [0, 2] τ (up (Mem0 τ 0) 0 2 (nI k)) := (FR.rf.fld (by decide)).fld (by decide)
        obtain ⟨b1, b2, b3, b4, b5, b6, b7, b8⟩ := r
        exact ⟨b1.take hk rfl rfl, b2.fr f (by decide) (by decide), b3.fr f (by decide) (by decide), b4.fr f (by decide) (by decide), b5.fr f (by decide) (by decide), b6.fr f (by decide) (by decide), (f.2 11 (by decide)).trans b7, b8.fr f (by decide)⟩
    · refine ⟨0, σ, Mem0 τ 0, ?_, ?_, h'.th⟩
      · unfold X9_end
        rw [if_neg h0, hT, if_neg h1]
      · unfold X10_end
        show (if a1 < 0 then _ else if a1 ≤ τ 0 2 then _ else _) = _
        rw [if_neg h0, hTb, if_neg h1]
        rfl
theorem pu_wait : PU_wait Rel0 := by
  intro i σ τ w κ a1 hi h
  have h' := h
  obtain ⟨T, O, L, fm, th, dy, n, lv, ur, cm, st, od, H, R, A, c, r, s4, hw⟩ := h
  have hd : σ 0 10 = nI dy := c.2.2.2.2.2.2
  have hdb : τ 0 11 = nI dy := r.2.2.2.2.2.2.1
  have hdy := hw.2.2.2.1
  by_cases h0 : a1 < 0
  · exact ⟨0, σ, Mem0 τ 0, if_pos h0, if_pos h0, h'.th⟩
  · by_cases h1 : 1000 < a1
    · refine ⟨0, σ, Mem0 τ 0, ?_, ?_, h'.th⟩
      · unfold X9_wait
        rw [if_neg h0, if_pos h1]
      · unfold X10_wait
        simp only [lt]
        rw [if_neg h0, if_pos h1]
        rfl
    · obtain ⟨k, hk, rfl⟩ := i32_le_nI (n := 1000) h0 (Int32.not_lt.mp h1) (by omega)
      by_cases h2 : dy + k ≤ 9999
      · have h3 : nI (dy + k) ≤ 9999 := nI_le (b := 9999) h2 (by omega)
        refine ⟨1, up σ 0 10 (nI (dy + k)), up (Mem0 τ 0) 0 11 (nI (dy + k)), ?_, ?_, T, O, L, fm, th, dy + k, n, lv, ur, cm, st, od, H, R, A, ?_, ?_, s4, ?_⟩
        · unfold X9_wait
          rw [if_neg h0, if_neg h1, hd, nI_add, if_pos h3]
          rfl
        · unfold X10_wait
          show (if nI k < 0 then _ else if 1000 < nI k then _ else if τ 0 11 + nI k ≤ 9999 then some (1, up (Mem0 τ 0) 0 11 (τ 0 11 + nI k)) else _) = _
          rw [if_neg h0, if_neg h1, hdb, nI_add, if_pos h3]
        · obtain ⟨c1, c2, c3, c4, c5, c6, c7⟩ := c
          exact ⟨c1, c2, c3, c4, c5.eq rfl rfl rfl rfl rfl rfl rfl, c6, rfl⟩
        · have f : FR [] [0, 11] τ (up (Mem0 τ 0) 0 11 (nI (dy + k))) := (FR.rf.fld (by decide)).fld (by decide)
          obtain ⟨b1, b2, b3, b4, b5, b6, b7, b8⟩ := r
          exact ⟨b1.fr f (by decide) (by decide), b2.fr f (by decide) (by decide), b3.fr f (by decide) (by decide), b4.fr f (by decide) (by decide), b5.fr f (by decide) (by decide), b6.fr f (by decide) (by decide), rfl, b8.fr f (by decide)⟩
        · obtain ⟨w1, w2, w3, w4, w5, w6, w7⟩ := hw.skip
          refine ⟨w1, w2, ?_, h2, w5, w6, w7⟩
          have mono : ∀ (H : List C4) (D D' : Nat), D ≤ D' → WH H D → WH H D' := by
            intro H
            cases H with
            | nil => exact fun _ _ _ _ => trivial
            | cons a H =>
              obtain ⟨k, d, x, y⟩ := a
              exact fun D D' hD h => ⟨h.1, Nat.le_trans h.2.1 hD, h.2.2⟩
          exact mono H dy (dy + k) (by omega) w3
      · have h3 : ¬ nI (dy + k) ≤ 9999 := nI_ge (a := 9999) (by omega) (by omega)
        refine ⟨0, σ, Mem0 τ 0, ?_, ?_, h'.th⟩
        · unfold X9_wait
          rw [if_neg h0, if_neg h1, hd, nI_add, if_neg h3]
        · unfold X10_wait
          show (if nI k < 0 then _ else if 1000 < nI k then _ else if τ 0 11 + nI k ≤ 9999 then _ else _) = _
          rw [if_neg h0, if_neg h1, hdb, nI_add, if_neg h3]
          rfl
theorem pu_at : PU_at Rel0 := by
  intro i σ τ w κ a1 hi h
  have h' := h
  obtain ⟨T, O, L, fm, th, dy, n, lv, ur, cm, st, od, H, R, A, c, r, s4, hw⟩ := h
  have hn : σ 15 5 = nI n := c.2.2.2.1.1
  have hnb : τ 0 21 = nI n := r.2.2.2.1.1
  have h80 := hw.2.1.1
  by_cases h0 : a1 < 0
  · refine ⟨-1, Mem0 τ 0, if_pos h0, if_pos h0, h'.th⟩
  · by_cases h1 : nI n ≤ a1
    · have h2 : ¬ a1 < nI n := Int32.not_lt.mpr h1
      refine ⟨-1, Mem0 τ 0, ?_, ?_, h'.th⟩
      · unfold X9_at
        rw [if_neg h0, hn, if_neg h2]
      · unfold X10_at
        show (if a1 < 0 then _ else if a1 < τ 0 21 then _ else _) = _
        rw [if_neg h0, hnb, if_neg h2]
        rfl
    · obtain ⟨k, hk, rfl⟩ := i32_ix h0 h1 (by omega)
      have e1 : σ 20 k = nI (od k) := c.2.2.2.1.2.2.2 k hk
      have e2 : τ 9 k = nI (od k) := r.2.2.2.1.2.2 k hk
      refine ⟨nI (od k), Mem0 τ 0, ?_, ?_, h'.th⟩
      · unfold X9_at
        rw [if_neg h0, hn, if_pos (nI_lt hk (by omega)), gd_i (vp_in_nI (by omega) (by omega)), nI_clamp (by omega), e1]
      · unfold X10_at
        show (if nI k < 0 then _ else if nI k < τ 0 21 then gd (nI k) 80 (some (τ 9 (Int32.toNatClampNeg (nI k)), Mem0 τ 0)) else _) = _
        rw [if_neg h0, hnb, if_pos (nI_lt hk (by omega)), gd_i (vp_in_nI (by omega) (by omega)), nI_clamp (by omega), e2]
theorem cnt_le {st : Nat → Nat} : ∀ n, (∀ k, k < n → st k < 2) → cnt st n ≤ n := by
  intro n
  induction n with
  | zero => exact fun _ => Nat.le_refl _
  | succ n ih =>
    intro h
    have a := ih (fun k hk => h k (by omega))
    have b := h n (by omega)
    show cnt st n + st n ≤ n + 1
    omega
theorem x10_cnt {n : Nat} {st : Nat → Nat} {τ : Mem} {a1 : Int32} (hn : τ 0 21 = nI n) (h80 : n ≤ 80) (hs : ∀ k, k < n → τ 10 k = nI (st k) ∧ st k < 2) : ∀ (d j m : Nat), j + d = n → d < m → X10_count_64 a1 m (nI (cnt st j)) (nI j) τ = some (nI (cnt st n), τ) := by
  intro d
  induction d with
  | zero =>
    intro j m hj hm
    obtain ⟨m, rfl⟩ : ∃ m', m = m' + 1 := ⟨m - 1, by omega⟩
    obtain rfl : j = n := by omega
    unfold X10_count_64
    rw [hn, if_pos (nI_le (by omega) (by omega))]
  | succ d ih =>
    intro j m hj hm
    obtain ⟨m, rfl⟩ : ∃ m', m = m' + 1 := ⟨m - 1, by omega⟩
    unfold X10_count_64
    obtain ⟨e1, e2⟩ := hs j (by omega)
    have hc : cnt st (j + 1) = cnt st j + st j := rfl
    rw [hn, if_neg (nI_ge (by omega) (by omega)), gd_i (vp_in_nI (by omega) (by omega)), nI_clamp (by omega), e1]
    simp only [lt]
    have hi := ih (j + 1) m (by omega) (by omega)
    by_cases h : st j = 0
    · rw [if_pos (show nI (st j) = 0 by rw [h]; rfl), nI_1]
      rw [hc, h] at hi
      have e0 : nI (cnt st j) + 0 = nI (cnt st j + 0) := nI_add _ 0
      rw [e0]
      exact hi
    · rw [if_neg (nI_ne0 (by omega) (by omega)), nI_1, nI_1]
      rw [hc, show st j = 1 by omega] at hi
      exact hi
theorem pu_count : PU_count Rel0 := by
  intro i σ τ w κ a1 hi h
  have h' := h
  obtain ⟨T, O, L, fm, th, dy, n, lv, ur, cm, st, od, H, R, A, c, r, s4, hw⟩ := h
  obtain ⟨c1, c2, c3, c4, c5, c6, c7⟩ := c
  obtain ⟨b1, b2, b3, b4, b5, b6, b7, b8⟩ := r
  obtain ⟨q, hq, a1', a2', -⟩ := c6
  have tr : ∀ v : Int32, X9_count a1 σ = some v → X10_count a1 τ = some (v, Mem0 τ 0) → ∃ (r : Int32) (τ1 : Mem), X9_count a1 σ = some r ∧ X10_count a1 τ = some (r, τ1) ∧ Rel0 (i + 6) σ τ1 w κ := fun v e1 e2 => ⟨v, _, e1, e2, h'.th⟩
  have u9 : X9_count a1 σ = if a1 = 0 then some (σ 5 2) else if a1 = 1 then some (σ 15 5) else if a1 = 2 then some (σ 15 6) else if a1 = 3 then some (σ 0 10) else if a1 = 4 then some (σ 27 4) else if a1 = 5 then some (σ 3 1) else if a1 = 6 then some (σ 1 1) else some (-1) := rfl
  have u10 : X10_count a1 τ = if a1 = 0 then some (τ 0 9, Mem0 τ 0) else if a1 = 1 then some (τ 0 21, Mem0 τ 0) else if a1 = 2 then X10_count_64 a1 FU 0 0 (Mem0 τ 0) else if a1 = 3 then some (τ 0 11, Mem0 τ 0) else if a1 = 4 then some (τ 0 29, Mem0 τ 0) else if a1 = 5 then some (τ 0 32, Mem0 τ 0) else if a1 = 6 then some (τ 0 2, Mem0 τ 0) else some (-1, Mem0 τ 0) := rfl
  rw [u9, u10] at tr
  rw [u9, u10]
  have d0 : σ 5 2 = nI L := c3.1
  have d1 : σ 15 5 = nI n := c4.1
  have d2 : σ 15 6 = nI (cnt st n) := c4.2.1
  have d3 : σ 0 10 = nI dy := c7
  have d4 : σ 27 4 = nI A.length := a2'
  have d5 : σ 3 1 = nI O.length := c2.2.1
  have d6 : σ 1 1 = nI T.length := c1.2.1
  by_cases h0 : a1 = 0
  · rw [if_pos h0, if_pos h0] at tr
    rw [if_pos h0, if_pos h0]
    exact tr _ rfl (by rw [d0, b3.1])
  rw [if_neg h0, if_neg h0] at tr
  rw [if_neg h0, if_neg h0]
  by_cases h0 : a1 = 1
  · rw [if_pos h0, if_pos h0] at tr
    rw [if_pos h0, if_pos h0]
    exact tr _ rfl (by rw [d1, b4.1])
  rw [if_neg h0, if_neg h0] at tr
  rw [if_neg h0, if_neg h0]
  by_cases h0 : a1 = 2
  · rw [if_pos h0, if_pos h0] at tr
    rw [if_pos h0, if_pos h0]
    have e := x10_cnt (n := n) (st := st) (τ := Mem0 τ 0) (a1 := a1) b4.1 hw.2.1.1 (fun k hk => ⟨(b4.2.1 k hk).2.2.2, (hw.2.1.2.1 k hk).2.1⟩) n 0 FU (by omega) (by have := hw.2.1.1; unfold FU; omega)
    exact tr _ rfl (by rw [d2]; exact e)
  rw [if_neg h0, if_neg h0] at tr
  rw [if_neg h0, if_neg h0]
  by_cases h0 : a1 = 3
  · rw [if_pos h0, if_pos h0] at tr
    rw [if_pos h0, if_pos h0]
    exact tr _ rfl (by rw [d3, b7])
  rw [if_neg h0, if_neg h0] at tr
  rw [if_neg h0, if_neg h0]
  by_cases h0 : a1 = 4
  · rw [if_pos h0, if_pos h0] at tr
    rw [if_pos h0, if_pos h0]
    exact tr _ rfl (by rw [d4, b6.1])
  rw [if_neg h0, if_neg h0] at tr
  rw [if_neg h0, if_neg h0]
  by_cases h0 : a1 = 5
  · rw [if_pos h0, if_pos h0] at tr
    rw [if_pos h0, if_pos h0]
    exact tr _ rfl (by rw [d5, b2.2.1])
  rw [if_neg h0, if_neg h0] at tr
  rw [if_neg h0, if_neg h0]
  by_cases h0 : a1 = 6
  · rw [if_pos h0, if_pos h0] at tr
    rw [if_pos h0, if_pos h0]
    exact tr _ rfl (by rw [d6, b1.1])
  rw [if_neg h0, if_neg h0] at tr
  rw [if_neg h0, if_neg h0]
  exact tr _ rfl rfl
