/-! own words: pure part: cite -/
def PTL (k : Nat) (σ τ : Mem) : Prop := ∀ j, j < k → ∃ n g, LOK n g ∧ σ 31 j = nI (cA n g) ∧ τ 22 j = nI (cB n g)
theorem cite_read {T O : List Nat} {L : Nat} {fm th : Nat → Nat} (wl : WLV L fm th) : ∀ (d k p m m' : Nat) (σ τ : Mem), k + d = L → 1 ≤ d → d ≤ m → d ≤ m' → TXT T (mp σ [1, 2]) → CLV L fm th (mp σ [5, 6, 7]) → BTS T p τ → BLV L fm th τ → BOUT O τ → BCO τ → p ≤ T.length → PTL k σ τ →
    ∃ σ1 τ1, FR [1, 2, 12, 13, 14, 31] [11, 12] σ σ1 ∧ FR [17, 18, 21, 22] [4, 32, 35, 36, 37] τ τ1 ∧ BOUT O τ1 ∧
      ((∃ kk, 1 ≤ kk ∧ kk ≤ L ∧ X9_readCitation_4 m (nI p) (nI k) σ = some (nI kk, σ1) ∧ X10_readCitation_2 m' (nI k) τ = some (nI kk, τ1) ∧ σ1 0 11 = σ 0 11 ∧ σ1 0 12 = σ 0 12 ∧ PTL kk σ1 τ1) ∨
       (X9_readCitation_4 m (nI p) (nI k) σ = some (0, σ1) ∧ X10_readCitation_2 m' (nI k) τ = some (-1, τ1) ∧ ¬ σ1 0 11 = 0 ∧ σ1 0 11 = τ1 0 36 ∧ σ1 0 12 = τ1 0 37)) := by
  have hL := wl.2.1
  intro d
  induction d with
  | zero =>
    intro k p m m' σ τ hk h1
    exact absurd h1 (by omega)
  | succ d ih =>
    intro k p m m' σ τ hk h1 hm hm' c1 c3 bt b3 bo bc hp hP
    obtain ⟨m, rfl⟩ : ∃ z, m = z + 1 := ⟨m - 1, by omega⟩
    obtain ⟨m', rfl⟩ : ∃ z, m' = z + 1 := ⟨m' - 1, by omega⟩
    have hT := c1.1
    have hfm := (wl.2.2 k (by omega)).1
    have h52 : σ 5 2 = nI L := c3.1
    have ht2 := (b3.2 k (by omega)).1
    obtain ⟨q1, q2, q3, q4, q5⟩ := qS_ok (T := T) (f := fm k) hp
    obtain ⟨μ1, p1, p2, p3, p4, p5⟩ := x4_read (μ := mp σ [12, 13, 14, 1, 2]) (T := T) (f := fm k) (p := p) c1 hfm hp
    obtain ⟨v, τ1, r1, r2, r3, r4, r5, r6⟩ := x10_read hT c1.2.2.2 hfm bt bo bc hp
    generalize hσ6 : mg σ [12, 13, 14, 1, 2] μ1 = σ6
    have e12 : ∀ j, σ6 12 j = μ1 0 j := fun j => by rw [← hσ6]; rfl
    have eT1 : σ6 1 = σ 1 := by rw [← hσ6]; exact p2.1
    have eT2 : σ6 2 = σ 2 := by rw [← hσ6]; exact p2.2
    have fs : FR [1, 2, 12, 13, 14, 31] [] σ σ6 := by rw [← hσ6]; exact FR.mg (by decide) (by decide)
    have ft : FR [17, 18, 21, 22] [4, 32, 35, 36, 37] τ τ1 := r3.mono (by decide) (by decide)
    have e31 : σ6 31 = σ 31 := by rw [← hσ6]; rfl
    have e22 : τ1 22 = τ 22 := r3.1 22 (by decide) (by decide)
    have h03 : τ1 0 3 = nI T.length := (r3.2 3 (by decide)).trans bt.1
    have h09 : τ1 0 9 = nI L := (r3.2 9 (by decide)).trans b3.1
    have e65 : σ6 5 2 = nI L := by rw [fs.1 5 (by decide) (by decide)]; exact h52
    have e11 : σ6 1 1 = nI T.length := by rw [eT1]; exact c1.2.1
    have u9 : X9_readCitation_4 (m + 1) (nI p) (nI k) σ = if σ6 12 2 = 0 then (if σ6 12 1 = nI T.length then some (nI (k + 1), up σ6 31 k (σ6 12 0)) else bd (X8_byteAt (σ6 12 1) (mp (up σ6 31 k (σ6 12 0)) [1, 2])) fun r12 => if r12 = 46 then (if nI (k + 1) = nI L then X9_readCitation_131 (σ6 12 1) (up σ6 31 k (σ6 12 0)) else X9_readCitation_4 m (σ6 12 1 + 1) (nI (k + 1)) (up σ6 31 k (σ6 12 0))) else X9_readCitation_131 (σ6 12 1) (up σ6 31 k (σ6 12 0))) else some (0, up (up σ6 0 11 (σ6 12 2)) 0 12 (σ6 12 3)) := by
      conv => lhs; unfold X9_readCitation_4
      rw [h52, if_neg (nI_ge (by omega) (by omega)), x6_form c3 wl (by omega), bd_s, p1, bd_s]
      simp only [lt]
      rw [hσ6, gd_i (vp_in_nI (by omega) (by omega)), nI_clamp (by omega), nI_1, ← e11, ← e65]
      rfl
    have u10 : X10_readCitation_2 (m' + 1) (nI k) τ = if v = 0 then some (-1, τ1) else if τ1 0 4 = nI T.length then some (nI (k + 1), up τ1 22 k (τ1 0 35)) else bd (X10_peek (up τ1 22 k (τ1 0 35))) fun r11 => if r11 = 46 then (if nI (k + 1) = nI L then X10_readCitation_60 (up τ1 22 k (τ1 0 35)) else X10_readCitation_2 m' (nI (k + 1)) (up (up τ1 22 k (τ1 0 35)) 0 4 (τ1 0 4 + 1))) else X10_readCitation_60 (up τ1 22 k (τ1 0 35)) := by
      conv => lhs; unfold X10_readCitation_2
      rw [gd_i (vp_in_nI (by omega) (by omega)), nI_clamp (by omega), ht2, r1, bd_s]
      simp only [lt]
      rw [gd_i (vp_in_nI (by omega) (by omega)), nI_1, ← h03, ← h09]
      rfl
    rw [u9, u10]
    clear u9 u10
    have bad : ∀ kd z, v = 0 → μ1 0 2 = nI kd → 1 ≤ kd → kd < 3 → μ1 0 3 = nI z → τ1 0 36 = nI kd → τ1 0 37 = nI z → ∃ σ1 τ2, FR [1, 2, 12, 13, 14, 31] [11, 12] σ σ1 ∧ FR [17, 18, 21, 22] [4, 32, 35, 36, 37] τ τ2 ∧ BOUT O τ2 ∧ some ((0 : Int32), up (up σ6 0 11 (σ6 12 2)) 0 12 (σ6 12 3)) = some (0, σ1) ∧ some ((-1 : Int32), τ1) = some (-1, τ2) ∧ ¬ σ1 0 11 = 0 ∧ σ1 0 11 = τ2 0 36 ∧ σ1 0 12 = τ2 0 37 := fun kd z hv h2 hk1 hk3 h3 h36 h37 =>
      ⟨_, _, ((fs.mono (fun _ z => z) (by decide)).fld (by decide)).fld (by decide), ft, r2, rfl, rfl, by
        show ¬ σ6 12 2 = 0
        rw [e12, h2]
        exact nI_ne0 (by omega) (by omega), by
        show σ6 12 2 = _
        rw [e12, h2, h36], by
        show σ6 12 3 = _
        rw [e12, h3, h37]⟩
    have bad2 : ∀ kd z, v = 0 → μ1 0 2 = nI kd → 1 ≤ kd → kd < 3 → μ1 0 3 = nI z → τ1 0 36 = nI kd → τ1 0 37 = nI z → ∃ σ1 τ2, FR [1, 2, 12, 13, 14, 31] [11, 12] σ σ1 ∧ FR [17, 18, 21, 22] [4, 32, 35, 36, 37] τ τ2 ∧ BOUT O τ2 ∧ ((∃ kk, 1 ≤ kk ∧ kk ≤ L ∧ (if σ6 12 2 = 0 then (if σ6 12 1 = nI T.length then some (nI (k + 1), up σ6 31 k (σ6 12 0)) else bd (X8_byteAt (σ6 12 1) (mp (up σ6 31 k (σ6 12 0)) [1, 2])) fun r12 => if r12 = 46 then (if nI (k + 1) = nI L then X9_readCitation_131 (σ6 12 1) (up σ6 31 k (σ6 12 0)) else X9_readCitation_4 m (σ6 12 1 + 1) (nI (k + 1)) (up σ6 31 k (σ6 12 0))) else X9_readCitation_131 (σ6 12 1) (up σ6 31 k (σ6 12 0))) else some (0, up (up σ6 0 11 (σ6 12 2)) 0 12 (σ6 12 3))) = some (nI kk, σ1) ∧ (if v = 0 then some (-1, τ1) else if τ1 0 4 = nI T.length then some (nI (k + 1), up τ1 22 k (τ1 0 35)) else bd (X10_peek (up τ1 22 k (τ1 0 35))) fun r11 => if r11 = 46 then (if nI (k + 1) = nI L then X10_readCitation_60 (up τ1 22 k (τ1 0 35)) else X10_readCitation_2 m' (nI (k + 1)) (up (up τ1 22 k (τ1 0 35)) 0 4 (τ1 0 4 + 1))) else X10_readCitation_60 (up τ1 22 k (τ1 0 35))) = some (nI kk, τ2) ∧ σ1 0 11 = σ 0 11 ∧ σ1 0 12 = σ 0 12 ∧ PTL kk σ1 τ2) ∨
       ((if σ6 12 2 = 0 then (if σ6 12 1 = nI T.length then some (nI (k + 1), up σ6 31 k (σ6 12 0)) else bd (X8_byteAt (σ6 12 1) (mp (up σ6 31 k (σ6 12 0)) [1, 2])) fun r12 => if r12 = 46 then (if nI (k + 1) = nI L then X9_readCitation_131 (σ6 12 1) (up σ6 31 k (σ6 12 0)) else X9_readCitation_4 m (σ6 12 1 + 1) (nI (k + 1)) (up σ6 31 k (σ6 12 0))) else X9_readCitation_131 (σ6 12 1) (up σ6 31 k (σ6 12 0))) else some (0, up (up σ6 0 11 (σ6 12 2)) 0 12 (σ6 12 3))) = some (0, σ1) ∧ (if v = 0 then some (-1, τ1) else if τ1 0 4 = nI T.length then some (nI (k + 1), up τ1 22 k (τ1 0 35)) else bd (X10_peek (up τ1 22 k (τ1 0 35))) fun r11 => if r11 = 46 then (if nI (k + 1) = nI L then X10_readCitation_60 (up τ1 22 k (τ1 0 35)) else X10_readCitation_2 m' (nI (k + 1)) (up (up τ1 22 k (τ1 0 35)) 0 4 (τ1 0 4 + 1))) else X10_readCitation_60 (up τ1 22 k (τ1 0 35))) = some (-1, τ2) ∧ ¬ σ1 0 11 = 0 ∧ σ1 0 11 = τ2 0 36 ∧ σ1 0 12 = τ2 0 37)) := fun kd z hv h2 hk1 hk3 h3 h36 h37 => by
      obtain ⟨σ1, τ2, x1, x2, x3, x4, x5, x6⟩ := bad kd z hv h2 hk1 hk3 h3 h36 h37
      refine ⟨σ1, τ2, x1, x2, x3, Or.inr ⟨?_, ?_, x6⟩⟩
      · rw [if_neg (show ¬ σ6 12 2 = 0 by rw [e12, h2]; exact nI_ne0 (by omega) (by omega))]
        exact x4
      · rw [if_pos hv]
        exact x5
    by_cases he : eN T (fm k) p = p
    · exact bad2 1 p (r4 he).1 (p3 he).1 (by omega) (by omega) (p3 he).2 (r4 he).2.1 (r4 he).2.2
    · by_cases hd : fm k ≠ 0 ∧ T.getD (eN T (fm k) p) 0 = 45 ∧ qS T (fm k) p = sS T (fm k) p
      · exact bad2 1 _ (r5 he hd).1 (p4 he hd).1 (by omega) (by omega) (p4 he hd).2 (r5 he hd).2.1 (r5 he hd).2.2
      · by_cases hG : GL T (fm k) p (eN T (fm k) p) (sS T (fm k) p) (qS T (fm k) p)
        · obtain ⟨g1, g2, g3⟩ := (p5 he hd).1 hG
          obtain ⟨k1, k2, k3⟩ := (r6 he hd).1 hG
          obtain ⟨g26, gc, -⟩ := gS_ok hG.2.2.1 q5
          have hLO : LOK (VAL T (fm k) p (eN T (fm k) p)) (gS T (sS T (fm k) p) (qS T (fm k) p)) := ⟨hG.1, hG.2.1, g26, gc⟩
          clear bad bad2 p3 p4 p5 r4 r5 r6 hG hd he g26 gc
          have hpq : p ≤ qS T (fm k) p := by omega
          generalize VAL T (fm k) p (eN T (fm k) p) = N at hLO g2 k2
          generalize gS T (sS T (fm k) p) (qS T (fm k) p) = g at hLO g2 k2
          generalize qS T (fm k) p = q at q4 g3 k3 hpq
          rw [e12, e12, e12, g1, if_pos rfl, g3, g2, if_neg (show ¬ v = 0 by rw [k1]; decide), k3, k2]
          have hP9 : PTL (k + 1) (up σ6 31 k (nI (cA N g))) (up τ1 22 k (nI (cB N g))) := fun j hj => by
            have x31 : up σ6 31 k (nI (cA N g)) 31 = upd (σ6 31) k (nI (cA N g)) := upc_s _ _ _
            have x22 : up τ1 22 k (nI (cB N g)) 22 = upd (τ1 22) k (nI (cB N g)) := upc_s _ _ _
            rw [x31, x22]
            by_cases z : j = k
            · rw [z, pk_us, pk_us]
              exact ⟨N, g, hLO, rfl, rfl⟩
            · rw [pk_un z, pk_un z, e31, e22]
              exact hP j (by omega)
          have fs9 : FR [1, 2, 12, 13, 14, 31] [] σ (up σ6 31 k (nI (cA N g))) := fs.cel (by decide) (by decide)
          have ft9 : FR [17, 18, 21, 22] [4, 32, 35, 36, 37] τ (up τ1 22 k (nI (cB N g))) := ft.cel (by decide) (by decide)
          have fr9 : FR [22] [] τ1 (up τ1 22 k (nI (cB N g))) := FR.rf.cel (by decide) (by decide)
          have c19 : TXT T (mp (up σ6 31 k (nI (cA N g))) [1, 2]) := c1.eq eT1 eT2
          have bo9 := r2.fr fr9 (by decide) (by decide)
          have bt9 : BTS T q (up τ1 22 k (nI (cB N g))) := ⟨h03, k3, fun i hi => by
            rw [ft9.1 1 (by decide) (by decide)]
            exact bt.2.2 i hi⟩
          have x410 : up τ1 22 k (nI (cB N g)) 0 4 = nI q := k3
          have fm0 : FR [1, 2, 12, 13, 14, 31] [11, 12] σ (up σ6 31 k (nI (cA N g))) := fs9.mono (fun _ z => z) (by decide)
          generalize up σ6 31 k (nI (cA N g)) = σ9 at hP9 fs9 c19 fm0 ⊢
          generalize up τ1 22 k (nI (cB N g)) = τ9 at hP9 ft9 bo9 bt9 x410 ⊢
          have off9 : X9_readCitation_131 (nI q) σ9 = some (0, up (up σ9 0 11 1) 0 12 (nI q)) := rfl
          have off10 : X10_readCitation_60 τ9 = some (-1, up (up τ9 0 36 1) 0 37 (nI q)) := by
            show some ((-1 : Int32), up (up τ9 0 36 1) 0 37 (τ9 0 4)) = _
            rw [x410]
          have foff : FR [1, 2, 12, 13, 14, 31] [11, 12] σ (up (up σ9 0 11 1) 0 12 (nI q)) := (fm0.fld (by decide)).fld (by decide)
          have toff : FR [17, 18, 21, 22] [4, 32, 35, 36, 37] τ (up (up τ9 0 36 1) 0 37 (nI q)) := (ft9.fld (by decide)).fld (by decide)
          by_cases hq : q = T.length
          · rw [if_pos (show nI q = nI T.length by rw [hq]), if_pos (show nI q = nI T.length by rw [hq])]
            exact ⟨σ9, τ9, fm0, ft9, bo9, Or.inl ⟨k + 1, by omega, by omega, rfl, rfl, fs9.2 11 (by decide), fs9.2 12 (by decide), hP9⟩⟩
          · have hne : ¬ nI q = nI T.length := fun z => hq ((nI_eq (by omega) (by omega)).mp z)
            have hqb := c1.2.2.2 q (by omega)
            have hpk := x10_peek bt9 hT c1.2.2.2 q4
            rw [if_pos (show q < T.length by omega)] at hpk
            rw [if_neg hne, if_neg hne, x8_byteAt c19 (by omega), bd_s, if_pos (show q < T.length by omega), hpk, bd_s]
            by_cases h46 : nI (T.getD q 0) = 46
            · rw [if_pos h46, if_pos h46]
              by_cases hkL : k + 1 = L
              · rw [if_pos (show nI (k + 1) = nI L by rw [hkL]), if_pos (show nI (k + 1) = nI L by rw [hkL]), off9, off10]
                exact ⟨_, _, foff, toff, bo9.f2, Or.inr ⟨rfl, rfl, show ¬ (1 : Int32) = 0 by decide, rfl, rfl⟩⟩
              · have hne2 : ¬ nI (k + 1) = nI L := fun z => hkL ((nI_eq (by omega) (by omega)).mp z)
                have e4 : up τ9 0 4 (nI (q + 1)) = up τ9 0 4 (τ9 0 4 + 1) := by rw [x410, nI_1]
                rw [if_neg hne2, if_neg hne2, nI_1, e4]
                have f4 : FR [] [4] τ9 (up τ9 0 4 (τ9 0 4 + 1)) := FR.rf.fld (by decide)
                have f5 := ft9.tr (f4.mono (C' := [17, 18, 21, 22]) (K' := [4, 32, 35, 36, 37]) (by decide) (by decide))
                obtain ⟨σ', τ', y1, y2, y3, y4⟩ := ih (k + 1) (q + 1) m m' σ9 (up τ9 0 4 (τ9 0 4 + 1)) (by omega) (by omega) (by omega) (by omega) c19 (c3.eq (fs9.1 5 (by decide) (by decide)) (fs9.1 6 (by decide) (by decide)) (fs9.1 7 (by decide) (by decide))) bt9.adv (b3.fr f5 (by decide) (by decide)) (bo9.fr f4 (by decide) (by decide)) (bc.fr f5 (by decide)) (by omega) hP9
                refine ⟨σ', τ', fm0.tr y1, f5.tr y2, y3, ?_⟩
                rcases y4 with ⟨kk, z1, z2, z3, z4, z5, z6, z7⟩ | z
                · exact Or.inl ⟨kk, z1, z2, z3, z4, z5.trans (fs9.2 11 (by decide)), z6.trans (fs9.2 12 (by decide)), z7⟩
                · exact Or.inr z
            · rw [if_neg h46, if_neg h46, off9, off10]
              exact ⟨_, _, foff, toff, bo9.f2, Or.inr ⟨rfl, rfl, show ¬ (1 : Int32) = 0 by decide, rfl, rfl⟩⟩
        · exact bad2 2 p ((r6 he hd).2 hG).1 ((p5 he hd).2 hG).1 (by omega) (by omega) ((p5 he hd).2 hG).2 ((r6 he hd).2 hG).2.1 ((r6 he hd).2 hG).2.2
