/-! own words: pure part: a label read by the reference, whole -/
theorem x10_318 {a1 x2 : Int32} {τ : Mem} : X10_readLabel_318 a1 x2 τ = some (0, up (up τ 0 36 2) 0 37 x2) := by
  show (gp ((0 : Int32) = 0 ∨ (0 : Int32) = 1) _ : Option (Int32 × Mem)) = _
  exact if_pos (Or.inl rfl)
theorem x10_br {x : Int32} {τ : Mem} : (bd (X10_breaks 1 x τ) fun r => gp (r.1 = 0 ∨ r.1 = 1) (some (r.1, r.2))) = some (0, up (up τ 0 36 1) 0 37 x) := by
  show (gp ((0 : Int32) = 0 ∨ (0 : Int32) = 1) _ : Option (Int32 × Mem)) = _
  exact if_pos (Or.inl rfl)
theorem fld2 {C K : List Nat} {τ τ1 : Mem} (h : FR C K τ τ1) {v w : Int32} (h36 : 36 ∈ K) (h37 : 37 ∈ K) : FR C K τ (up (up τ1 0 36 v) 0 37 w) := (h.fld h36).fld h37
/-- two fields of the reference's object, and nothing else of what a label is held by -/
theorem BOUT.f2 {O : List Nat} {τ : Mem} {v w : Int32} (h : BOUT O τ) : BOUT O (up (up τ 0 36 v) 0 37 w) := h.fr (C := []) (K := [36, 37]) ((FR.rf.fld (by decide)).fld (by decide)) (by decide) (by decide)
theorem x10_300 {T O : List Nat} {f p s q e : Nat} {τ : Mem} (hT : T.length ≤ 200) (hB : ∀ i, i < T.length → T.getD i 0 < 256) (hf : f < 4) (hb : BTS T q τ) (hO : BOUT O τ) (hco : BCO τ) (hpq : p ≤ q) (hq : q ≤ T.length) (hh : HD τ (gS T s q)) (hg : ∀ j, s ≤ j → j < q → isG (T.getD j 0) = true) : ∃ r τ1, X10_readLabel_300 (nI f) (nI p) (nI (cap (VAL T f p e))) (nI (q - s)) τ = some (r, τ1) ∧ BOUT O τ1 ∧ FR [17, 18, 21] [4, 32, 35, 36, 37] τ τ1 ∧ (GL T f p e s q → r = 1 ∧ τ1 0 35 = nI (cB (VAL T f p e) (gS T s q)) ∧ τ1 0 4 = nI q) ∧ (¬ GL T f p e s q → r = 0 ∧ τ1 0 36 = nI 2 ∧ τ1 0 37 = nI p) := by
  have hbad : ¬ GL T f p e s q → ∃ r τ1, X10_readLabel_318 (nI f) (nI p) τ = some (r, τ1) ∧ BOUT O τ1 ∧ FR [17, 18, 21] [4, 32, 35, 36, 37] τ τ1 ∧ (GL T f p e s q → r = 1 ∧ τ1 0 35 = nI (cB (VAL T f p e) (gS T s q)) ∧ τ1 0 4 = nI q) ∧ (¬ GL T f p e s q → r = 0 ∧ τ1 0 36 = nI 2 ∧ τ1 0 37 = nI p) := fun hn => ⟨0, _, x10_318, hO.f2, fld2 FR.rf (by decide) (by decide), fun z => absurd z hn, fun _ => ⟨rfl, rfl, rfl⟩⟩
  have hcl := cap_le (VAL T f p e)
  unfold X10_readLabel_300
  by_cases h1 : VAL T f p e < 1
  · rw [if_pos (show nI (cap (VAL T f p e)) < 1 from nI_lt (b := 1) (by unfold cap; split <;> omega) (by omega))]
    exact hbad (fun z => by have := z.1; omega)
  · rw [if_neg (show ¬ nI (cap (VAL T f p e)) < 1 from nI_nlt (b := 1) (by unfold cap; split <;> omega) (by omega))]
    by_cases h9 : 999 < VAL T f p e
    · rw [if_pos (show (999 : Int32) < nI (cap (VAL T f p e)) from nI_lt (a := 999) (by unfold cap; split <;> omega) (by omega))]
      exact hbad (fun z => by have := z.2.1; omega)
    · have hcap : cap (VAL T f p e) = VAL T f p e := if_pos (by omega)
      rw [hcap, if_neg (show ¬ (999 : Int32) < nI (VAL T f p e) from nI_nlt (a := 999) (by omega) (by omega))]
      by_cases h4 : q - s ≤ 4
      · obtain ⟨g26, gc, gn⟩ := gS_ok h4 hg
        have f8 : FR [17, 18, 21] [4, 32, 35, 36, 37] τ (up τ 0 35 (nI (cB (VAL T f p e) (gS T s q)))) := FR.rf.fld (by decide)
        have fx : FR [] [35] τ (up τ 0 35 (nI (cB (VAL T f p e) (gS T s q)))) := FR.rf.fld (by decide)
        obtain ⟨r, τ1, w1, w0, w2, w3, w4, w5⟩ := x10_iw (g := gS T s q) (n := VAL T f p e) (τ := up τ 0 35 (nI (cB (VAL T f p e) (gS T s q)))) (p := p) (q := q) hT hB hf ⟨by omega, by omega, g26, gc⟩ rfl (hb.fr fx (by decide) (by decide)) (hO.fr fx (by decide) (by decide)) (hco.fr fx (by decide)) hpq hq
        have f9 := f8.tr (w3.mono (C' := [17, 18, 21]) (K' := [4, 32, 35, 36, 37]) (by decide) (by decide))
        rw [if_pos (show nI (q - s) ≤ 4 from nI_le (b := 4) h4 (by omega)), x10_hand hh, bd_s]
        have e35 : nI (VAL T f p e) * 531441 + nI (sB (gS T s q)) = nI (cB (VAL T f p e) (gS T s q)) := by
          rw [cB_sB, ← nI_add, ← pk_mul]
          rfl
        rw [e35]
        simp only [lt]
        rw [w1, bd_s]
        by_cases z : SEG T p q (wlab f (VAL T f p e) (gS T s q))
        · rw [if_neg (show ¬ r = 0 by rw [w4 z]; decide)]
          exact ⟨1, τ1, rfl, w2, f9, fun _ => ⟨rfl, w3.2 35 (by decide), (w3.2 4 (by decide)).trans hb.2.1⟩, fun k => absurd ⟨by omega, by omega, h4, z⟩ k⟩
        · rw [if_pos (show r = 0 from w5 z)]
          exact ⟨0, up (up τ1 0 36 2) 0 37 (nI p), rfl, w2.f2, fld2 f9 (by decide) (by decide), fun k => absurd k.2.2.2 z, fun _ => ⟨rfl, rfl, rfl⟩⟩
      · rw [if_neg (show ¬ nI (q - s) ≤ 4 from nI_ge (a := 4) (by omega) (by have := hT; omega))]
        exact hbad (fun z => h4 z.2.2.1)
theorem fin_VAL (T : List Nat) (f p e : Nat) : fin T f (e - p) p 0 0 = VAL T f p e := rfl
theorem dash_not : ∀ f, f < 4 → ∀ b, b < 256 → fitN f b = true → b ≠ 45 := by decide +kernel
theorem x10_read {T O : List Nat} {f p : Nat} {τ : Mem} (hT : T.length ≤ 200) (hB : ∀ i, i < T.length → T.getD i 0 < 256) (hf : f < 4) (hb : BTS T p τ) (hO : BOUT O τ) (hco : BCO τ) (hp : p ≤ T.length) : ∃ r τ1, X10_readLabel (nI f) τ = some (r, τ1) ∧ BOUT O τ1 ∧ FR [17, 18, 21] [4, 32, 35, 36, 37] τ τ1 ∧
    (eN T f p = p → r = 0 ∧ τ1 0 36 = nI 1 ∧ τ1 0 37 = nI p) ∧
    (eN T f p ≠ p → (f ≠ 0 ∧ T.getD (eN T f p) 0 = 45 ∧ qS T f p = sS T f p) → r = 0 ∧ τ1 0 36 = nI 1 ∧ τ1 0 37 = nI (sS T f p)) ∧
    (eN T f p ≠ p → ¬ (f ≠ 0 ∧ T.getD (eN T f p) 0 = 45 ∧ qS T f p = sS T f p) →
      (GL T f p (eN T f p) (sS T f p) (qS T f p) → r = 1 ∧ τ1 0 35 = nI (cB (VAL T f p (eN T f p)) (gS T (sS T f p) (qS T f p))) ∧ τ1 0 4 = nI (qS T f p)) ∧
      (¬ GL T f p (eN T f p) (sS T f p) (qS T f p) → r = 0 ∧ τ1 0 36 = nI 2 ∧ τ1 0 37 = nI p)) := by
  obtain ⟨n1, n2⟩ := neE_ge T f (T.length - p) p
  have hfit := neE_fit T f (T.length - p) p
  have pk := x10_peek hb hT hB hp
  have u : X10_readLabel (nI f) τ = bd (X10_peek τ) fun r57 => bd (X10_fitsForm r57 (nI f)) fun r58 => if r58 = 0 then (bd (X10_breaks 1 (τ 0 4) τ) fun r60 => lt r60.2 fun σ61 => gp (r60.1 = 0 ∨ r60.1 = 1) <| some (r60.1, σ61)) else X10_readLabel_31 (nI f) FU (τ 0 4) 0 0 τ := rfl
  rw [u, pk, bd_s]
  by_cases he : eN T f p = p
  · have hz : X10_fitsForm (if p < T.length then nI (T.getD p 0) else -1) (nI f) = some 0 := by
      by_cases hlt : p < T.length
      · rw [if_pos hlt, tst_tab f hf _ (hB p hlt), if_neg]
        intro hfp
        unfold eN at he
        obtain ⟨d, hd⟩ : ∃ d, T.length - p = d + 1 := ⟨T.length - p - 1, by omega⟩
        rw [hd] at he
        have e1 : neE T f (d + 1) p = neE T f d (p + 1) := if_pos hfp
        have := (neE_ge T f d (p + 1)).1
        omega
      · rw [if_neg hlt]
        exact tst_m1 f hf
    rw [hz, bd_s, if_pos rfl, hb.2.1]
    refine ⟨0, up (up τ 0 36 1) 0 37 (nI p), x10_br, hO.f2, fld2 FR.rf (by decide) (by decide), fun _ => ⟨rfl, rfl, rfl⟩, fun z => absurd he z, fun z => absurd he z⟩
  · have hplt : p < T.length := by
      rcases Nat.lt_or_ge p T.length with z | z
      · exact z
      · exact absurd (by unfold eN; rw [show T.length - p = 0 by omega]; rfl) he
    have hfp : fitN f (T.getD p 0) = true := hfit p (Nat.le_refl _) (by
      change p ≤ eN T f p at n1
      change p < eN T f p
      omega)
    rw [if_pos hplt, tst_tab f hf _ (hB p hplt), if_pos hfp, bd_s, if_neg (show ¬ (1 : Int32) = 0 by decide), hb.2.1]
    obtain ⟨τ1, a1, a2, a3⟩ := x10_31 (x2 := nI p) hT hB hf (T.length - p) p FU 0 0 τ (by omega) (by unfold FU; omega) hb (by omega) (fun b => by unfold pen; split <;> omega)
    have a3' : X10_readLabel_31 (nI f) FU (nI p) 0 0 τ = X10_readLabel_160 (nI f) FU (nI p) (nI (cap (VAL T f p (eN T f p)))) 0 τ1 := a3
    rw [a3']
    clear u a3 a3'
    change BTS T (eN T f p) τ1 at a2
    change p ≤ eN T f p at n1
    change eN T f p ≤ _ at n2
    change ∀ j, p ≤ j → j < eN T f p → _ at hfit
    obtain ⟨τ2, b1, b2, b3⟩ := x10_160 (a1 := nI f) (x2 := nI p) (x3 := nI (cap (VAL T f p (eN T f p)))) 4 0 FU τ1 (by omega) (by unfold FU; omega) (fun j hj => absurd hj (by omega))
    have b3' : X10_readLabel_160 (nI f) FU (nI p) (nI (cap (VAL T f p (eN T f p)))) 0 τ1 = _ := b3
    rw [b3']
    clear b3 b3'
    have f2 : FR [17] [4] τ τ2 := (a1.mono (by decide) (by decide)).tr (b1.fr.mono (by decide) (by decide))
    have hb2 : BTS T (eN T f p) τ2 := a2.fr b1.fr (by decide) (by decide)
    have hz2 : ∀ s, HD τ2 (gS T s s) := fun s => b2.cong (fun i hi => (if_neg (by omega)).symm)
    -- the last steps
    have k300 : ∀ (s q : Nat) (τq : Mem), eN T f p ≤ s → s ≤ q → q ≤ T.length → sS T f p = s → qS T f p = q → ¬ (f ≠ 0 ∧ T.getD (eN T f p) 0 = 45 ∧ qS T f p = sS T f p) → FR [17] [4] τ τq → BTS T q τq → HD τq (gS T s q) → (∀ j, s ≤ j → j < q → isG (T.getD j 0) = true) → ∃ r τ1, X10_readLabel_300 (nI f) (nI p) (nI (cap (VAL T f p (eN T f p)))) (nI (q - s)) τq = some (r, τ1) ∧ BOUT O τ1 ∧ FR [17, 18, 21] [4, 32, 35, 36, 37] τ τ1 ∧
        (eN T f p = p → r = 0 ∧ τ1 0 36 = nI 1 ∧ τ1 0 37 = nI p) ∧
        (eN T f p ≠ p → (f ≠ 0 ∧ T.getD (eN T f p) 0 = 45 ∧ qS T f p = sS T f p) → r = 0 ∧ τ1 0 36 = nI 1 ∧ τ1 0 37 = nI (sS T f p)) ∧
        (eN T f p ≠ p → ¬ (f ≠ 0 ∧ T.getD (eN T f p) 0 = 45 ∧ qS T f p = sS T f p) →
          (GL T f p (eN T f p) (sS T f p) (qS T f p) → r = 1 ∧ τ1 0 35 = nI (cB (VAL T f p (eN T f p)) (gS T (sS T f p) (qS T f p))) ∧ τ1 0 4 = nI (qS T f p)) ∧
          (¬ GL T f p (eN T f p) (sS T f p) (qS T f p) → r = 0 ∧ τ1 0 36 = nI 2 ∧ τ1 0 37 = nI p)) := by
      intro s q τq hs1 hsq hq hss hqq hnd t1 t2 t3 t4
      rw [hss, hqq] at hnd ⊢
      obtain ⟨r, τ3, c1, c2, c3, c4, c5⟩ := x10_300 (s := s) (e := eN T f p) hT hB hf t2 (hO.fr t1 (by decide) (by decide)) (hco.fr t1 (by decide)) (show p ≤ q by omega) hq t3 t4
      exact ⟨r, τ3, c1, c2, (t1.mono (by decide) (by decide)).tr c3, fun z => absurd z he, fun _ z => absurd z hnd, fun _ _ => ⟨c4, c5⟩⟩
    have k254 : ∀ (s : Nat) (τq : Mem), eN T f p ≤ s → s ≤ T.length → sS T f p = s → qS T f p = ceE T (T.length - s) s → ¬ (f ≠ 0 ∧ T.getD (eN T f p) 0 = 45 ∧ qS T f p = sS T f p) → FR [17] [4] τ τq → BTS T s τq → HD τq (gS T s s) → ∃ r τ1, X10_readLabel_254 (nI f) FU (nI p) (nI (cap (VAL T f p (eN T f p)))) 0 τq = some (r, τ1) ∧ BOUT O τ1 ∧ FR [17, 18, 21] [4, 32, 35, 36, 37] τ τ1 ∧
        (eN T f p = p → r = 0 ∧ τ1 0 36 = nI 1 ∧ τ1 0 37 = nI p) ∧
        (eN T f p ≠ p → (f ≠ 0 ∧ T.getD (eN T f p) 0 = 45 ∧ qS T f p = sS T f p) → r = 0 ∧ τ1 0 36 = nI 1 ∧ τ1 0 37 = nI (sS T f p)) ∧
        (eN T f p ≠ p → ¬ (f ≠ 0 ∧ T.getD (eN T f p) 0 = 45 ∧ qS T f p = sS T f p) →
          (GL T f p (eN T f p) (sS T f p) (qS T f p) → r = 1 ∧ τ1 0 35 = nI (cB (VAL T f p (eN T f p)) (gS T (sS T f p) (qS T f p))) ∧ τ1 0 4 = nI (qS T f p)) ∧
          (¬ GL T f p (eN T f p) (sS T f p) (qS T f p) → r = 0 ∧ τ1 0 36 = nI 2 ∧ τ1 0 37 = nI p)) := by
      intro s τq hs1 hs2 hss hqq hnd t1 t2 t3
      obtain ⟨c1, c2⟩ := ceE_ge T (T.length - s) s
      obtain ⟨τ3, d1, d2, d3, d4⟩ := x10_254 (a1 := nI f) (x2 := nI p) (x3 := nI (cap (VAL T f p (eN T f p)))) hT hB (T.length - s) s FU τq (by omega) (Nat.le_refl _) (by unfold FU; omega) t2 t3
      have d4' : X10_readLabel_254 (nI f) FU (nI p) (nI (cap (VAL T f p (eN T f p)))) (nI (s - s)) τq = _ := d4
      rw [Nat.sub_self] at d4'
      have d4'' : X10_readLabel_254 (nI f) FU (nI p) (nI (cap (VAL T f p (eN T f p)))) 0 τq = _ := d4'
      rw [d4'']
      exact k300 s _ τ3 hs1 c1 (by omega) hss hqq hnd (t1.tr d1) d2 d3 (ceE_fit T _ _)
    unfold X10_readLabel_160
    rw [if_pos (show (4 : Int32) ≤ 4 by decide)]
    by_cases hf0 : f = 0
    · subst hf0
      have hss : sS T 0 p = eN T 0 p := if_neg (fun z => z.1 rfl)
      have hqq : qS T 0 p = ceE T (T.length - eN T 0 p) (eN T 0 p) := by
        unfold qS
        rw [if_pos (Or.inl rfl), hss]
      rw [if_pos (show nI 0 = 0 from rfl)]
      unfold X10_readLabel_226
      rw [if_pos (show nI 0 = 0 from rfl)]
      exact k254 (eN T 0 p) τ2 (Nat.le_refl _) (by omega) hss hqq (fun z => z.1 rfl) f2 hb2 (hz2 _)
    · have pk2 := x10_peek hb2 hT hB (by omega)
      rw [if_neg (nI_ne0 (by omega) (by omega)), pk2, bd_s]
      by_cases hd : T.getD (eN T f p) 0 = 45
      · have hlt : eN T f p < T.length := by
          rcases Nat.lt_or_ge (eN T f p) T.length with z | z
          · exact z
          · rw [getD_len T z] at hd
            exact absurd hd (by decide)
        have hss : sS T f p = eN T f p + 1 := if_pos ⟨hf0, hd⟩
        have hqq : qS T f p = ceE T (T.length - (eN T f p + 1)) (eN T f p + 1) := by
          unfold qS
          rw [if_pos (Or.inr hd), hss]
        have hb3 := hb2.adv
        have f3 : FR [17] [4] τ (up τ2 0 4 (τ2 0 4 + 1)) := f2.fld (by decide)
        have hz3 : HD (up τ2 0 4 (τ2 0 4 + 1)) (gS T (eN T f p + 1) (eN T f p + 1)) := hz2 _
        have h04 : up τ2 0 4 (τ2 0 4 + 1) 0 4 = nI (eN T f p + 1) := hb3.2.1
        generalize up τ2 0 4 (τ2 0 4 + 1) = τ3 at hb3 f3 hz3 h04 ⊢
        have pk3 := x10_peek hb3 hT hB (by omega)
        rw [if_pos hlt, if_pos (by rw [hd]; rfl)]
        simp only [lt]
        rw [pk3, bd_s]
        by_cases hg : eN T f p + 1 < T.length ∧ isG (T.getD (eN T f p + 1) 0) = true
        · obtain ⟨hg1, hg2⟩ := hg
          have hgb := hB _ hg1
          have hq1 : qS T f p ≠ sS T f p := by
            rw [hqq, hss]
            obtain ⟨d, hd⟩ : ∃ d, T.length - (eN T f p + 1) = d + 1 := ⟨T.length - (eN T f p + 1) - 1, by omega⟩
            rw [hd]
            have e1 : ceE T (d + 1) (eN T f p + 1) = ceE T d (eN T f p + 1 + 1) := if_pos hg2
            have := (ceE_ge T d (eN T f p + 1 + 1)).1
            omega
          have hg3 := hg2
          unfold isG at hg3
          rw [Bool.and_eq_true, decide_eq_true_eq, decide_eq_true_eq] at hg3
          have h1v := hb3.2.2 _ hlt
          rw [if_pos hg1, x10_great hgb, if_pos hg3, bd_s, if_neg (show ¬ (1 : Int32) = 0 by decide)]
          unfold X10_readLabel_226
          rw [if_neg (nI_ne0 (by omega) (by omega)), h04, if_neg (nI_ge (by omega) (by omega)), i32_m1, gd_i (vp_in_nI (by omega) (by omega)), nI_clamp (by omega), h1v, if_pos (show sb (T.getD (eN T f p) 0) = 45 by rw [hd]; rfl)]
          exact k254 (eN T f p + 1) τ3 (by omega) (by omega) hss hqq (fun z => hq1 z.2.2) f3 hb3 hz3
        · have hq1 : qS T f p = sS T f p := by
            rw [hqq, hss]
            rcases Nat.lt_or_ge (eN T f p + 1) T.length with z | z
            · obtain ⟨d, hd⟩ : ∃ d, T.length - (eN T f p + 1) = d + 1 := ⟨T.length - (eN T f p + 1) - 1, by omega⟩
              rw [hd]
              exact if_neg (fun k => hg ⟨z, k⟩)
            · rw [show T.length - (eN T f p + 1) = 0 by omega]
              rfl
          have hz : X10_isGreat (if eN T f p + 1 < T.length then nI (T.getD (eN T f p + 1) 0) else -1) = some 0 := by
            by_cases hlt2 : eN T f p + 1 < T.length
            · have hgb := hB _ hlt2
              rw [if_pos hlt2, x10_great hgb, if_neg]
              intro z
              apply hg
              refine ⟨hlt2, ?_⟩
              unfold isG
              rw [Bool.and_eq_true, decide_eq_true_eq, decide_eq_true_eq]
              exact z
            · rw [if_neg hlt2]
              rfl
          rw [hz, bd_s, if_pos rfl, h04]
          have hO3 := hO.fr f3 (by decide) (by decide)
          exact ⟨0, up (up τ3 0 36 1) 0 37 (nI (eN T f p + 1)), x10_br, hO3.f2, fld2 (f3.mono (by decide) (by decide)) (by decide) (by decide), fun z => absurd z he, fun _ _ => ⟨rfl, rfl, by rw [hss]; rfl⟩, fun _ z => absurd ⟨hf0, hd, hq1⟩ z⟩
      · have hss : sS T f p = eN T f p := if_neg (fun z => hd z.2)
        have hqq : qS T f p = eN T f p := by
          unfold qS
          rw [if_neg (fun z => z.elim hf0 hd), hss]
        have h45 : ¬ (if eN T f p < T.length then nI (T.getD (eN T f p) 0) else -1) = 45 := by
          by_cases hlt : eN T f p < T.length
          · have hbb := hB _ hlt
            rw [if_pos hlt]
            exact fun z => hd ((nI_eq (b := 45) (by omega) (by omega)).mp z)
          · rw [if_neg hlt]
            decide
        rw [if_neg h45]
        obtain ⟨e1, he1⟩ : ∃ e1, eN T f p = e1 + 1 := ⟨eN T f p - 1, by omega⟩
        have hbe := hB e1 (by omega)
        have hfe := hfit e1 (by omega) (by omega)
        have h1v := hb2.2.2 e1 (by omega)
        have h04 := hb2.2.1
        have hne : ¬ sb (T.getD e1 0) = 45 := fun z => dash_not f hf _ hbe hfe ((sb_eq _ hbe 45 (by omega)).mp z)
        have k := k300 (eN T f p) (eN T f p) τ2 (Nat.le_refl _) (Nat.le_refl _) (by omega) hss hqq (fun z => hd z.2.1) f2 hb2 (hz2 _) (fun j h1 h2 => absurd h2 (by omega))
        rw [Nat.sub_self] at k
        unfold X10_readLabel_226
        rw [if_neg (nI_ne0 (by omega) (by omega)), h04, if_neg (nI_ge (by omega) (by omega))]
        have hm : nI (eN T f p) - 1 = nI e1 := by rw [he1]; exact i32_m1 e1
        rw [hm, gd_i (vp_in_nI (by omega) (by omega)), nI_clamp (by omega), h1v, if_neg hne]
        exact k
