/-! own words: pure part: undo -/
def drO (od : Nat → Nat) (p : Nat) : Nat → Nat := fun j => if j < p then od j else od (j + 1)
def psO (p q : Nat) : Nat := if q < p then q else q + 1
theorem drO_ps (od : Nat → Nat) (p q : Nat) : drO od p q = od (psO p q) := by
  unfold drO psO
  split <;> rfl
theorem WIT.drop {L n : Nat} {lv ur st od : Nat → Nat} (h : WIT L n lv ur st od) {p : Nat} (hp : p < n) (hod : od p = n - 1) : WIT L (n - 1) lv ur st (drO od p) := by
  obtain ⟨h80, hit, ho, hinj, hsur, hpre⟩ := h
  have hps : ∀ q, q < n - 1 → psO p q < n ∧ psO p q ≠ p := fun q hq => by
    unfold psO
    split <;> omega
  have hne : ∀ q, q < n → q ≠ p → od q < n - 1 := fun q hq hqp => by
    have h1 := ho q hq
    have h2 : od q ≠ n - 1 := fun e => hqp (hinj q p hq hp (e.trans hod.symm))
    omega
  have hback : ∀ q, q < n → q ≠ p → ∃ q', q' < n - 1 ∧ psO p q' = q := fun q hq hqp => by
    by_cases h1 : q < p
    · exact ⟨q, by omega, if_pos h1⟩
    · refine ⟨q - 1, by omega, ?_⟩
      unfold psO
      rw [if_neg (by omega)]
      omega
  refine ⟨by omega, fun k hk => ?_, fun q hq => ?_, fun q q' hq hq' e => ?_, fun k hk => ?_, fun q hq j hj => ?_⟩
  · obtain ⟨a, b, c, d⟩ := hit k (by omega)
    exact ⟨a, b, c, d⟩
  · rw [drO_ps]
    exact hne _ (hps q hq).1 (hps q hq).2
  · rw [drO_ps, drO_ps] at e
    have := hinj _ _ (hps q hq).1 (hps q' hq').1 e
    unfold psO at this
    split at this <;> split at this <;> omega
  · obtain ⟨q, hq, e⟩ := hsur k (by omega)
    obtain ⟨q', hq', e'⟩ := hback q hq (fun z => by rw [z, hod] at e; omega)
    exact ⟨q', hq', by rw [drO_ps, e', e]⟩
  · rw [drO_ps] at hj
    obtain ⟨P, hP1, hP2, hP3⟩ := hpre (psO p q) (hps q hq).1 j hj
    have hlt := (hit _ (ho _ (hps q hq).1)).2.2.2 j hj
    have hno := hne _ (hps q hq).1 (hps q hq).2
    have hPn : P ≠ p := fun z => by rw [z, hod] at hP2; omega
    have hPl := (hps q hq).1
    obtain ⟨P', hP', e'⟩ := hback P (by omega) hPn
    have mono : ∀ a b, psO p a < psO p b → a < b := fun a b hab => by
      unfold psO at hab
      split at hab <;> split at hab <;> omega
    have mono2 : ∀ a b, a < b → psO p a < psO p b := fun a b hab => by
      unfold psO
      split <;> split <;> omega
    refine ⟨P', mono _ _ (by rw [e']; exact hP1), by rw [drO_ps, e', hP2], fun r hr1 hr2 => ?_⟩
    rw [drO_ps]
    refine hP3 _ (by rw [← e']; exact mono2 _ _ hr1) ?_
    rcases Nat.lt_or_ge r q with z | z
    · exact Nat.le_of_lt (mono2 _ _ z)
    · rw [show r = q by omega]
      exact Nat.le_refl _
theorem x3_drop {n L : Nat} {lv ur cm st od : Nat → Nat} {μ : Mem} (h : CIT n lv ur cm st od μ) (hw : WIT L n lv ur st od) {p : Nat} (hp : p < n) (hod : od p = n - 1) (hs : st (n - 1) = 0) : ∃ μ1, X3_dropLast μ = some μ1 ∧ CIT (n - 1) lv ur cm st (drO od p) μ1 := by
  obtain ⟨n, rfl⟩ : ∃ n', n = n' + 1 := ⟨n - 1, by omega⟩
  rw [show n + 1 - 1 = n by omega] at hod hs ⊢
  have h80 := hw.1
  have hpl := x3_place h hw hp
  rw [hod] at hpl
  obtain ⟨h1, h2, h3, h4⟩ := h
  have m1 : ∀ k, k < 81 → ¬ nI k = -1 := by decide
  have e1 : nI (n + 1) - nI p - 1 = nI (n - p) := by
    rw [pk_sub (by omega), show n + 1 - p = (n - p) + 1 by omega, nI_pred]
  refine ⟨up (upc μ 5 (va_cpy (μ 5) (μ 5) (p + 1) p (n - p))) 0 5 (nI n), ?_, rfl, ?_, fun k hk => h3 k (by omega), fun q hq => ?_⟩
  · unfold X3_dropLast
    rw [h1, nI_pred, hpl, bd_s, if_neg (m1 p (by omega)), e1, nI_1]
    unfold gp
    rw [nI_clamp (by omega), nI_clamp (by omega), nI_clamp (by omega), if_pos ⟨⟨nI_pos (by omega), nI_pos (by omega), nI_pos (by omega)⟩, by omega, by omega⟩]
    show some (up (upc μ 5 (va_cpy (μ 5) (μ 5) (p + 1) p (n - p))) 0 5 (μ 0 5 - 1)) = _
    rw [h1, nI_pred]
  · show μ 0 6 = _
    rw [h2]
    show nI (cnt st n + st n) = _
    rw [hs]
    rfl
  · show va_cpy (μ 5) (μ 5) (p + 1) p (n - p) q = _
    unfold drO
    by_cases hqp : q < p
    · rw [if_pos hqp, pk_cpy_out (by omega)]
      exact h4 q (by omega)
    · rw [if_neg hqp, pk_cpy_in (by omega) (by omega), show p + 1 + (q - p) = q + 1 by omega]
      exact h4 (q + 1) (by omega)
theorem x10_99 {n : Nat} {f : Nat → Int32} {τ0 : Mem} (h80 : n + 1 ≤ 80) {p : Nat} : ∀ (d q m : Nat) (τ : Mem), q + d = n → d < m → p ≤ q → τ 0 21 = nI n → (∀ j, τ 9 j = if p ≤ j ∧ j < q then f (j + 1) else f j) → FR [9] [21] τ0 τ → ∃ τ1, X10_undo_99 m (nI q) τ = some (1, τ1) ∧ (∀ j, j < n → τ1 9 j = if p ≤ j then f (j + 1) else f j) ∧ τ1 0 21 = nI n ∧ FR [9] [21] τ0 τ1 := by
  intro d
  induction d with
  | zero =>
    intro q m τ hq hm hp hn hf hF
    obtain ⟨m, rfl⟩ : ∃ z, m = z + 1 := ⟨m - 1, by omega⟩
    refine ⟨τ, ?_, fun j hj => ?_, hn, hF⟩
    · unfold X10_undo_99
      rw [hn, if_pos (nI_le (by omega) (by omega))]
    · rw [hf j]
      by_cases h : p ≤ j
      · rw [if_pos h, if_pos ⟨h, by omega⟩]
      · rw [if_neg h, if_neg (fun z => h z.1)]
  | succ d ih =>
    intro q m τ hq hm hp hn hf hF
    obtain ⟨m, rfl⟩ : ∃ z, m = z + 1 := ⟨m - 1, by omega⟩
    have e0 : X10_undo_99 (m + 1) (nI q) τ = X10_undo_99 m (nI (q + 1)) (up τ 9 q (τ 9 (q + 1))) := by
      conv => lhs; unfold X10_undo_99
      rw [hn, if_neg (nI_ge (by omega) (by omega)), nI_1, gd_i (vp_in_nI (by omega) (by omega)), gd_i (vp_in_nI (by omega) (by omega)), nI_clamp (by omega), nI_clamp (by omega)]
      rfl
    rw [e0]
    refine ih (q + 1) m _ (by omega) (by omega) (by omega) hn (fun j => ?_) (hF.cel (by decide) (by decide))
    show upd (τ 9) q (τ 9 (q + 1)) j = _
    by_cases hj : j = q
    · rw [hj, pk_us, hf (q + 1), if_neg (by omega), if_pos (by omega)]
    · rw [pk_un hj, hf j]
      by_cases h2 : p ≤ j ∧ j < q
      · rw [if_pos h2, if_pos (by omega)]
      · rw [if_neg h2, if_neg (by omega)]
theorem pu_undo : PU_undo Rel0 := by
  intro i σ τ w κ hi h
  have h' := h
  obtain ⟨T, O, L, fm, th, dy, n, lv, ur, cm, st, od, H, R, A, c, r0, s4, hw⟩ := h
  obtain ⟨c1, c2, c3, c4, c5, c6, c7⟩ := c
  have r' := r0
  obtain ⟨b1, b2, b3, b4, b5, b6, b7, b8⟩ := r0.th (v := 0)
  obtain ⟨wl, wi, wh, wd, wa, wn, wk⟩ := hw
  have h80 := wi.1
  have hc6 := c6
  obtain ⟨q, -, -, -, hA, -⟩ := hc6
  cases A with
  | nil =>
    refine ⟨0, σ, Mem0 τ 0, ?_, ?_, h'.th⟩
    · unfold X9_undo
      rw [x0_kind0 c6, bd_s, if_pos rfl]
    · unfold X10_undo
      show (if Mem0 τ 0 0 29 = 0 then _ else _) = _
      rw [b6.1, if_pos (by decide)]
      rfl
  | cons a A =>
    obtain ⟨r, k, Hs⟩ := a
    obtain ⟨hk, ⟨E, hE⟩, hao⟩ := wa
    have hAl : A.length + 1 ≤ 100 := hA
    -- the class, up to the kinds
    obtain ⟨E', hE'⟩ := cmp_app E Hs
    have c5' : CHI (E' ++ cmpH Hs) R (mp σ [21, 22, 23, 24, 25, 26, 32]) := by
      rw [← hE', ← hE]
      exact c5
    have hEl : E'.length < FU := by
      have := c5'.2.2.2.2.1
      have := c5'.2.2.2.1
      rw [List.length_append] at *
      unfold FU
      omega
    obtain ⟨μ1, m1, m2⟩ := x2_cut E' _ FU c5' hEl
    have hkd : ∀ r, ¬ nI (ckd r) = -1 := fun r => by
      unfold ckd
      split
      · decide
      · split <;> decide
    have u9 : X9_undo σ = if nI (ckd r) = 1 then (bd (X3_dropLast (mp (mg σ [21, 22, 23, 24, 25, 26, 32] μ1) [15, 16, 17, 18, 19, 20])) fun r13 => X9_undo_64 (mg (mg σ [21, 22, 23, 24, 25, 26, 32] μ1) [15, 16, 17, 18, 19, 20] r13)) else if nI (ckd r) = 2 then (bd (X3_setStruck (nI k) 0 (mp (mg σ [21, 22, 23, 24, 25, 26, 32] μ1) [15, 16, 17, 18, 19, 20])) fun r11 => X9_undo_64 (mg (mg σ [21, 22, 23, 24, 25, 26, 32] μ1) [15, 16, 17, 18, 19, 20] r11)) else X9_undo_64 (mg σ [21, 22, 23, 24, 25, 26, 32] μ1) := by
      have e6 : X0_latestItem (mp (mg σ [21, 22, 23, 24, 25, 26, 32] μ1) [27, 28, 29, 30]) = some (nI k) := x0_item (a := (r, k, Hs)) (A := A) c6
      have m1' : X2_cutTo (nI (cmpH Hs).length) (mp σ [21, 22, 23, 24, 25, 26, 32]) = some μ1 := m1
      unfold X9_undo
      rw [x0_kind c6, bd_s, if_neg (hkd r), x0_mark c6, bd_s, m1', bd_s]
      simp only [lt]
      rw [e6, bd_s]
    have u64 : ∀ σ2 : Mem, CAC ((r, k, Hs) :: A) (mp σ2 [27, 28, 29, 30]) → ∃ μ9, X9_undo_64 σ2 = some (1, mg σ2 [27, 28, 29, 30] μ9) ∧ CAC A μ9 := fun σ2 e => by
      obtain ⟨μ9, m9, m10⟩ := x0_close e
      refine ⟨μ9, ?_, m10⟩
      unfold X9_undo_64
      rw [m9, bd_s]
      rfl
    -- the reference, up to the kinds
    obtain ⟨g1, g2, g3⟩ := b6.2 0 (by rw [List.length_cons]; omega)
    rw [List.length_cons, show A.length + 1 - 1 - 0 = A.length by omega] at g1 g2 g3
    have g1 : τ 14 A.length = nI r := g1
    have g2 : τ 15 A.length = nI k := g2
    have g3 : τ 16 A.length = nI Hs.length := g3
    have hr4 : r = 0 ∨ r = 1 ∨ r = 2 ∨ r = 3 := by
      rcases hao with ⟨z, -⟩ | ⟨z, -⟩ | ⟨z | z, -⟩ <;> omega
    have g29 : τ 0 29 = nI (A.length + 1) := b6.1
    have hkk : k < 80 := by omega
    have u10 : X10_undo τ = if nI r = 1 then X10_undo_67 (nI k) (up (up (up (Mem0 τ 0) 0 29 (nI A.length)) 0 25 (nI Hs.length)) 10 k 0) else X10_undo_67 (nI k) (up (up (Mem0 τ 0) 0 29 (nI A.length)) 0 25 (nI Hs.length)) := by
      unfold X10_undo
      show (if τ 0 29 = 0 then some (0, Mem0 τ 0) else gd (τ 0 29 - 1) 100 (gd (τ 0 29 - 1) 100 (gd (τ 0 29 - 1) 100 (if τ 14 (Int32.toNatClampNeg (τ 0 29 - 1)) = 1 then gd (τ 15 (Int32.toNatClampNeg (τ 0 29 - 1))) 80 (X10_undo_67 (τ 15 (Int32.toNatClampNeg (τ 0 29 - 1))) (up (up (up (Mem0 τ 0) 0 29 (τ 0 29 - 1)) 0 25 (τ 16 (Int32.toNatClampNeg (τ 0 29 - 1)))) 10 (Int32.toNatClampNeg (τ 15 (Int32.toNatClampNeg (τ 0 29 - 1)))) 0)) else X10_undo_67 (τ 15 (Int32.toNatClampNeg (τ 0 29 - 1))) (up (up (Mem0 τ 0) 0 29 (τ 0 29 - 1)) 0 25 (τ 16 (Int32.toNatClampNeg (τ 0 29 - 1)))))))) = _
      rw [g29, if_neg (nI_ne0 (by omega) (by omega)), nI_pred, gd_i (vp_in_nI (by omega) (by omega)), gd_i (vp_in_nI (by omega) (by omega)), gd_i (vp_in_nI (by omega) (by omega)), nI_clamp (by omega), g1, g2, g3, gd_i (vp_in_nI (by omega) (by omega)), nI_clamp (by omega)]
    have u67 : ∀ τ2 : Mem, τ2 0 29 = nI A.length → τ2 14 = τ 14 → X10_undo_67 (nI k) τ2 = if nI r = 0 then (bd (X10_placeOf (nI k) τ2) fun r8 => X10_undo_99 FU r8 (up τ2 0 21 (τ2 0 21 - 1))) else some (1, τ2) := fun τ2 e1 e2 => by
      unfold X10_undo_67
      rw [e1, e2, gd_i (vp_in_nI (by omega) (by omega)), nI_clamp (by omega), g1]
      rfl
    -- what holds of the rest
    have hbh : ∀ τ2 : Mem, τ2 0 25 = nI Hs.length → τ2 11 = τ 11 → τ2 12 = τ 12 → τ2 13 = τ 13 → BHI Hs τ2 := fun τ2 e0 e1 e2 e3 => ⟨e0, ENB.eq e1 e2 e3 (ENB_app E (by rw [← hE]; exact r'.2.2.2.2.1.2))⟩
    have hba : ∀ τ2 : Mem, τ2 0 29 = nI A.length → τ2 14 = τ 14 → τ2 15 = τ 15 → τ2 16 = τ 16 → BAC A τ2 := fun τ2 e0 e1 e2 e3 => ⟨e0, fun j hj => by
      have := r'.2.2.2.2.2.1.2 (j + 1) (by rw [List.length_cons]; omega)
      rw [List.length_cons, show A.length + 1 - 1 - (j + 1) = A.length - 1 - j by omega, aAt_s] at this
      rw [e1, e2, e3]
      exact this⟩
    have hwh : WH Hs dy := by
      obtain ⟨D', h1, h2⟩ := WH_app E dy (by rw [← hE]; exact wh)
      exact WH_mono h1 h2
    have hHl : Hs.length ≤ H.length := by
      rw [hE, List.length_append]
      omega
    have m2' : CHI (cmpH Hs) R (mp (mg σ [21, 22, 23, 24, 25, 26, 32] μ1) [21, 22, 23, 24, 25, 26, 32]) := m2.eq rfl rfl rfl rfl rfl rfl rfl
    rw [u9, u10]
    rcases hao with ⟨rfl, hin, hst0, hao⟩ | ⟨rfl, hst1, hao⟩ | ⟨hr23, hao⟩
    · -- an item added
      have hkn : k = n - 1 := by omega
      subst hkn
      obtain ⟨p, hp, hpod⟩ := wi.2.2.2.2.1 (n - 1) (by omega)
      obtain ⟨μ2, m3, m4⟩ := x3_drop (μ := mp (mg σ [21, 22, 23, 24, 25, 26, 32] μ1) [15, 16, 17, 18, 19, 20]) c4 wi hp hpod hst0
      have fb : FR [] [29, 25] (Mem0 τ 0) (up (up (Mem0 τ 0) 0 29 (nI A.length)) 0 25 (nI Hs.length)) := (FR.rf.fld (by decide)).fld (by decide)
      have b4' := b4.fr fb (by decide) (by decide)
      have hpl := x10_place b4' wi hp
      rw [hpod] at hpl
      have hn21 : τ 0 21 = nI n := b4.1
      obtain ⟨τ3, n1, n2, n3, n4⟩ := x10_99 (n := n - 1) (f := τ 9) (τ0 := up (up (Mem0 τ 0) 0 29 (nI A.length)) 0 25 (nI Hs.length)) (by omega) (n - 1 - p) p FU (up (up (up (Mem0 τ 0) 0 29 (nI A.length)) 0 25 (nI Hs.length)) 0 21 (nI (n - 1))) (by omega) (by unfold FU; omega) (Nat.le_refl p) rfl (fun j => by rw [if_neg (by omega)]; rfl) (FR.rf.fld (by decide))
      have fa : FR [9] [29, 25, 21] (Mem0 τ 0) τ3 := (fb.mono (by decide) (by decide)).tr (n4.mono (by decide) (by decide))
      obtain ⟨μ9, m9, m10⟩ := u64 (mg (mg σ [21, 22, 23, 24, 25, 26, 32] μ1) [15, 16, 17, 18, 19, 20] μ2) c6
      refine ⟨1, mg (mg (mg σ [21, 22, 23, 24, 25, 26, 32] μ1) [15, 16, 17, 18, 19, 20] μ2) [27, 28, 29, 30] μ9, τ3, ?_, ?_, T, O, L, fm, th, dy, n - 1, lv, ur, cm, st, drO od p, Hs, R, A, ⟨c1, c2, c3, m4, m2'.eq rfl rfl rfl rfl rfl rfl rfl, m10, c7⟩, ?_, ?_, ?_⟩
      · rw [if_pos (show nI (ckd 0) = 1 by decide), m3, bd_s]
        exact m9
      · rw [if_neg (show ¬ nI 0 = 1 by decide), u67 (up (up (Mem0 τ 0) 0 29 (nI A.length)) 0 25 (nI Hs.length)) rfl rfl, if_pos nI_0, hpl, bd_s]
        have e21 : (up (up (Mem0 τ 0) 0 29 (nI A.length)) 0 25 (nI Hs.length)) 0 21 - 1 = nI (n - 1) := by
          show τ 0 21 - 1 = _
          rw [hn21, show n = (n - 1) + 1 by omega, nI_pred]
          rfl
        rw [e21]
        exact n1
      · refine ⟨b1.fr fa (by decide) (by decide), b2.fr fa (by decide) (by decide), b3.fr fa (by decide) (by decide), ⟨n3, fun j hj => ?_, fun j hj => ?_⟩, ?_, ?_, (fa.2 11 (by decide)).trans b7, b8.fr fa (by decide)⟩
        · rw [fa.1 6 (by decide) (by decide), fa.1 7 (by decide) (by decide), fa.1 8 (by decide) (by decide), fa.1 10 (by decide) (by decide)]
          exact b4.2.1 j (by omega)
        · rw [n2 j hj]
          unfold drO
          by_cases hpj : p ≤ j
          · rw [if_pos hpj, if_neg (by omega)]
            exact b4.2.2 (j + 1) (by omega)
          · rw [if_neg hpj, if_pos (by omega)]
            exact b4.2.2 j (by omega)
        · exact hbh _ ((n4.2 25 (by decide)).trans rfl) (fa.1 11 (by decide) (by decide)) (fa.1 12 (by decide) (by decide)) (fa.1 13 (by decide) (by decide))
        · exact hba _ ((n4.2 29 (by decide)).trans rfl) (fa.1 14 (by decide) (by decide)) (fa.1 15 (by decide) (by decide)) (fa.1 16 (by decide) (by decide))
      · exact ⟨s4.1.trans (fa.2 12 (by decide)).symm, s4.2.1.trans (fa.2 13 (by decide)).symm, s4.2.2.1.trans (fa.2 40 (by decide)).symm, s4.2.2.2.trans (fa.2 41 (by decide)).symm⟩
      · exact ⟨wl, wi.drop hp hpod, hwh, wd, hao, by omega, wk⟩
    · -- a strike
      have hst : ∀ k, k < n → st k < 2 := fun k hk => (wi.2.1 k hk).2.1
      obtain ⟨μ2, m3, m4⟩ := x3_set (μ := mp (mg σ [21, 22, 23, 24, 25, 26, 32] μ1) [15, 16, 17, 18, 19, 20]) (v := 0) c4 h80 hk (by omega) (hst k hk) (Nat.le_trans (cnt_le n hst) h80)
      have fa : FR [10] [29, 25] (Mem0 τ 0) (up (up (up (Mem0 τ 0) 0 29 (nI A.length)) 0 25 (nI Hs.length)) 10 k 0) := ((FR.rf.fld (by decide)).fld (by decide)).cel (by decide) (by decide)
      obtain ⟨μ9, m9, m10⟩ := u64 (mg (mg σ [21, 22, 23, 24, 25, 26, 32] μ1) [15, 16, 17, 18, 19, 20] μ2) c6
      refine ⟨1, mg (mg (mg σ [21, 22, 23, 24, 25, 26, 32] μ1) [15, 16, 17, 18, 19, 20] μ2) [27, 28, 29, 30] μ9, up (up (up (Mem0 τ 0) 0 29 (nI A.length)) 0 25 (nI Hs.length)) 10 k 0, ?_, ?_, T, O, L, fm, th, dy, n, lv, ur, cm, ud st k 0, od, Hs, R, A, ⟨c1, c2, c3, m4, m2'.eq rfl rfl rfl rfl rfl rfl rfl, m10, c7⟩, ?_, ?_, ?_⟩
      · rw [if_neg (show ¬ nI (ckd 1) = 1 by decide), if_pos (show nI (ckd 1) = 2 by decide)]
        have m3' : X3_setStruck (nI k) 0 (mp (mg σ [21, 22, 23, 24, 25, 26, 32] μ1) [15, 16, 17, 18, 19, 20]) = some μ2 := m3
        rw [m3', bd_s]
        exact m9
      · rw [if_pos (show nI 1 = 1 from rfl), u67 (up (up (up (Mem0 τ 0) 0 29 (nI A.length)) 0 25 (nI Hs.length)) 10 k 0) rfl rfl, if_neg (show ¬ nI 1 = 0 by decide)]
      · refine ⟨b1.fr fa (by decide) (by decide), b2.fr fa (by decide) (by decide), b3.fr fa (by decide) (by decide), ⟨b4.1, fun j hj => ?_, b4.2.2⟩, hbh _ rfl rfl rfl rfl, hba _ rfl rfl rfl rfl, b7, b8.fr fa (by decide)⟩
        obtain ⟨k1, k2, k3, k4⟩ := b4.2.1 j hj
        refine ⟨k1, k2, k3, ?_⟩
        show upd (τ 10) k 0 j = _
        by_cases hjk : j = k
        · rw [hjk, pk_us, ud_s]
          rfl
        · rw [pk_un hjk, ud_n hjk]
          exact k4
      · exact s4
      · exact ⟨wl, wi.st (ud_lt2 hst (by omega)), hwh, wd, hao, by omega, wk⟩
    · -- labels alone
      have fa : FR [] [29, 25] (Mem0 τ 0) (up (up (Mem0 τ 0) 0 29 (nI A.length)) 0 25 (nI Hs.length)) := (FR.rf.fld (by decide)).fld (by decide)
      obtain ⟨μ9, m9, m10⟩ := u64 (mg σ [21, 22, 23, 24, 25, 26, 32] μ1) c6
      refine ⟨1, mg (mg σ [21, 22, 23, 24, 25, 26, 32] μ1) [27, 28, 29, 30] μ9, up (up (Mem0 τ 0) 0 29 (nI A.length)) 0 25 (nI Hs.length), ?_, ?_, T, O, L, fm, th, dy, n, lv, ur, cm, st, od, Hs, R, A, ⟨c1, c2, c3, c4, m2'.eq rfl rfl rfl rfl rfl rfl rfl, m10, c7⟩, ?_, ?_, ?_⟩
      · have h3 : ckd r = 3 := by
          rcases hr23 with rfl | rfl <;> rfl
        rw [h3, if_neg (show ¬ nI 3 = 1 by decide), if_neg (show ¬ nI 3 = 2 by decide)]
        exact m9
      · have hr1 : ¬ nI r = 1 := by rcases hr23 with rfl | rfl <;> decide
        have hr0 : ¬ nI r = 0 := by rcases hr23 with rfl | rfl <;> decide
        rw [if_neg hr1, u67 (up (up (Mem0 τ 0) 0 29 (nI A.length)) 0 25 (nI Hs.length)) rfl rfl, if_neg hr0]
      · exact ⟨b1.fr fa (by decide) (by decide), b2.fr fa (by decide) (by decide), b3.fr fa (by decide) (by decide), b4.fr fa (by decide) (by decide), hbh _ rfl rfl rfl rfl, hba _ rfl rfl rfl rfl, b7, b8.fr fa (by decide)⟩
      · exact s4
      · exact ⟨wl, wi, hwh, wd, hao, by omega, wk⟩
