/-! own words: pure part: cite, whole -/
theorem pu_cite : PU_cite Rel0 := by
  intro i σ τ w κ a1 hi h
  obtain ⟨T, O, L, fm, th, dy, n, lv, ur, cm, st, od, H, R, A, c, r, s4, hw⟩ := h
  obtain ⟨c1, c2, c3, c4, c5, c6, c7⟩ := c
  obtain ⟨b1, b2, b3, b4, b5, b6, b7, b8⟩ := r
  obtain ⟨wl, wi, wh, wd, wa, wn, wk⟩ := hw
  have h80 := wi.1
  have hL := wl.2.1
  have hL1 := wl.1
  have hHl : H.length ≤ 50000 := by omega
  generalize hσ15 : up (up σ 0 11 0) 0 12 (-1) = σ15
  generalize hτ24 : up (up (TK (Mem0 τ 0)) 0 12 0) 0 13 (-1) = τ24
  have fs : FR [] [11, 12] σ σ15 := by rw [← hσ15]; exact (FR.rf.fld (by decide)).fld (by decide)
  have ft : FR [] [0, 2, 3, 4, 12, 13] τ τ24 := by rw [← hτ24]; exact ((TK.fr.mono (by decide) (by decide)).fld (by decide)).fld (by decide)
  have s11 : σ15 0 11 = 0 := by rw [← hσ15]; rfl
  have s12 : σ15 0 12 = -1 := by rw [← hσ15]; rfl
  have t12 : τ24 0 12 = 0 := by rw [← hτ24]; rfl
  have t13 : τ24 0 13 = -1 := by rw [← hτ24]; rfl
  have t02 : τ24 0 2 = 0 := by rw [← hτ24]; rfl
  have hb : BTS T 0 τ24 := by
    have := TK.bts (τ := Mem0 τ 0) b1
    rw [← hτ24]
    exact ⟨this.1, this.2.1, this.2.2⟩
  have c1' : TXT T (mp σ15 [1, 2]) := c1.eq (fs.1 1 (by decide) (by decide)) (fs.1 2 (by decide) (by decide))
  have c3' : CLV L fm th (mp σ15 [5, 6, 7]) := c3.eq (fs.1 5 (by decide) (by decide)) (fs.1 6 (by decide) (by decide)) (fs.1 7 (by decide) (by decide))
  have u9 : X9_cite a1 σ = if 0 ≤ a1 then bd (X9_readCitation_4 FU 0 0 σ15) fun r17 => if r17.2 0 11 = 0 then X9_cite_58 a1 FU r17.1 (-1) 0 (up (up r17.2 1 1 0) 0 13 0) else some (-2, up r17.2 1 1 0) else some (-3, up σ15 1 1 0) := by
    rw [← hσ15]
    rfl
  have u10 : X10_cite a1 τ = if 0 ≤ a1 then bd (X10_readCitation_2 FU 0 τ24) fun r26 => if 0 ≤ r26.1 then X10_cite_64 a1 FU r26.1 (-1) 0 (up r26.2 0 40 0) else some (-2, up (up r26.2 0 12 (r26.2 0 36)) 0 13 (up r26.2 0 12 (r26.2 0 36) 0 37)) else some (-3, τ24) := by
    rw [← hτ24]
    rfl
  have out : ∀ {σ1 τ1 : Mem}, FR [1, 2, 12, 13, 14, 31] [11, 12, 13, 14] σ σ1 → σ1 1 1 = 0 → FR [17, 18, 21, 22] [0, 2, 3, 4, 12, 13, 32, 35, 36, 37, 40, 41] τ τ1 → BOUT O τ1 → τ1 0 2 = 0 → RS4 σ1 τ1 → Rel0 (i + 6) σ1 τ1 w κ := fun f h0 g hO h2 s => Rel0.rd ⟨c1, c2, c3, c4, c5, c6, c7⟩ ⟨b1, b2, b3, b4, b5, b6, b7, b8⟩ ⟨wl, wi, wh, wd, wa, wn, wk⟩ f h0 g hO h2 s
  have hOt := b2.fr ft (by decide) (by decide)
  by_cases h0 : (0 : Int32) ≤ a1
  · obtain ⟨σ1, τ1, f1, g1, o1, hcase⟩ := cite_read (T := T) (O := O) wl L 0 0 FU FU σ15 τ24 (by omega) hL1 (by unfold FU; omega) (by unfold FU; omega) c1' c3' hb (b3.fr ft (by decide) (by decide)) hOt (b8.fr ft (by decide)) (Nat.zero_le _) (fun j hj => absurd hj (by omega))
    have f1' : FR [1, 2, 12, 13, 14, 31] [11, 12, 13, 14] σ σ1 := (fs.mono (by decide) (by decide)).tr (f1.mono (fun _ z => z) (by decide))
    have f1s : FR [1, 2, 12, 13, 14, 31] [11, 12] σ σ1 := (fs.mono (by decide) (fun _ z => z)).tr f1
    have g1' : FR [17, 18, 21, 22] [0, 2, 3, 4, 12, 13, 32, 35, 36, 37, 40, 41] τ τ1 := (ft.mono (by decide) (by decide)).tr (g1.mono (fun _ z => z) (by decide))
    have g1s : FR [17, 18, 21, 22] [0, 2, 3, 4, 12, 13, 32, 35, 36, 37] τ τ1 := (ft.mono (by decide) (by decide)).tr (g1.mono (fun _ z => z) (by decide))
    have t02' : τ1 0 2 = 0 := (g1.2 2 (by decide)).trans t02
    rw [u9, u10, if_pos h0, if_pos h0]
    clear u9 u10
    rcases hcase with ⟨kk, hk1, hk2, e9, e10, e11, e12, hP⟩ | ⟨e9, e10, e11, e12, e13⟩
    · obtain ⟨K, rfl⟩ : ∃ K, kk = K + 1 := ⟨kk - 1, by omega⟩
      have e9' : X9_readCitation_4 FU 0 0 σ15 = some (nI (K + 1), σ1) := e9
      have e10' : X10_readCitation_2 FU 0 τ24 = some (nI (K + 1), τ1) := e10
      rw [e9', bd_s, e10', bd_s]
      have z11 : σ1 0 11 = 0 := e11.trans s11
      rw [if_pos (show σ1 0 11 = 0 from z11), if_pos (show (0 : Int32) ≤ nI (K + 1) from nI_pos' (by omega))]
      have fs2 : FR [1] [13] σ1 (up (up σ1 1 1 0) 0 13 0) := (FR.rf.cel (by decide) (by decide)).fld (by decide)
      have ft2 : FR [] [40] τ1 (up τ1 0 40 0) := FR.rf.fld (by decide)
      have hP2 : PTH (K + 1) (fun j => (σ1 31 j).toNatClampNeg) (fun j => (τ1 22 j).toNatClampNeg) (up (up σ1 1 1 0) 0 13 0) (up τ1 0 40 0) := fun j hj => by
        obtain ⟨nn, g, hLO, x1, x2⟩ := hP j hj
        have l1 := cA_lt (n := nn) (by have := hLO.2.1; omega) hLO.2.2.1
        have l2 := cB_lt (n := nn) (by have := hLO.2.1; omega) hLO.2.2.1
        show LRN (σ1 31 j).toNatClampNeg (τ1 22 j).toNatClampNeg ∧ σ1 31 j = nI (σ1 31 j).toNatClampNeg ∧ τ1 22 j = nI (τ1 22 j).toNatClampNeg
        rw [x1, x2, nI_clamp l1, nI_clamp (by omega)]
        exact ⟨Or.inr ⟨nn, g, hLO, rfl, rfl⟩, rfl, rfl⟩
      have fsx := f1'.tr (fs2.mono (C' := [1, 2, 12, 13, 14, 31]) (K' := [11, 12, 13, 14]) (by decide) (by decide))
      have ftx := g1'.tr (ft2.mono (C' := [17, 18, 21, 22]) (K' := [0, 2, 3, 4, 12, 13, 32, 35, 36, 37, 40, 41]) (by decide) (by decide))
      have c4' : CIT n lv ur cm st od (mp (up (up σ1 1 1 0) 0 13 0) [15, 16, 17, 18, 19, 20]) := c4.eq (fsx.1 15 (by decide) (by decide)) (fsx.1 16 (by decide) (by decide)) (fsx.1 17 (by decide) (by decide)) (fsx.1 18 (by decide) (by decide)) (fsx.1 19 (by decide) (by decide)) (fsx.1 20 (by decide) (by decide))
      have c5' : CHI (cmpH H) R (mp (up (up σ1 1 1 0) 0 13 0) [21, 22, 23, 24, 25, 26, 32]) := c5.eq (congrFun (fsx.1 21 (by decide) (by decide)) 5) (fsx.1 22 (by decide) (by decide)) (fsx.1 23 (by decide) (by decide)) (fsx.1 24 (by decide) (by decide)) (fsx.1 25 (by decide) (by decide)) (fsx.1 26 (by decide) (by decide)) (congrFun (fsx.1 32 (by decide) (by decide)) 0)
      obtain ⟨v, σ2, τ2, k1, k2, k3, k4, k5⟩ := cite_loop (K := K) (on := a1) wi hL (by omega) wh wd hHl n 0 FU FU (-1) (up (up σ1 1 1 0) 0 13 0) (up τ1 0 40 0) (by omega) (by unfold FU; omega) (by unfold FU; omega) (Or.inl rfl) c4' c5' (b4.fr ftx (by decide) (by decide)) (b5.fr ftx (by decide) (by decide)) hP2 rfl
      have k1' : X9_cite_58 a1 FU (nI (K + 1)) (-1) 0 (up (up σ1 1 1 0) 0 13 0) = some (v, σ2) := k1
      have k2' : X10_cite_64 a1 FU (nI (K + 1)) (-1) 0 (up τ1 0 40 0) = some (v, τ2) := k2
      have a2s := k3.2
      refine ⟨v, σ2, τ2, k1', k2', out (fsx.tr (k3.mono (by decide) (by decide))) ?_ (ftx.tr (k4.mono (by decide) (by decide))) ((o1.fr ft2 (by decide) (by decide)).fr k4 (by decide) (by decide)) ((k4.2 2 (by decide)).trans t02') ⟨?_, ?_, k5, ?_⟩⟩
      · rw [k3.1 1 (by decide) (by decide)]
        rfl
      · rw [k3.2 11 (by decide), k4.2 12 (by decide)]
        show σ1 0 11 = τ1 0 12
        rw [z11, g1.2 12 (by decide), t12]
      · rw [k3.2 12 (by decide), k4.2 13 (by decide)]
        show σ1 0 12 = τ1 0 13
        rw [e12, s12, g1.2 13 (by decide), t13]
      · rw [k3.2 14 (by decide), k4.2 41 (by decide)]
        show σ1 0 14 = τ1 0 41
        rw [f1s.2 14 (by decide), g1s.2 41 (by decide)]
        exact s4.2.2.2
    · have e9' : X9_readCitation_4 FU 0 0 σ15 = some (0, σ1) := e9
      have e10' : X10_readCitation_2 FU 0 τ24 = some (-1, τ1) := e10
      rw [e9', bd_s, e10', bd_s]
      rw [if_neg (show ¬ σ1 0 11 = 0 from e11), if_neg (show ¬ (0 : Int32) ≤ -1 by decide)]
      refine ⟨-2, up σ1 1 1 0, up (up τ1 0 12 (τ1 0 36)) 0 13 (up τ1 0 12 (τ1 0 36) 0 37), rfl, rfl, out (f1'.cel (by decide) (by decide)) rfl ((g1'.fld (by decide)).fld (by decide)) (o1.fr (C := []) (K := [12, 13]) ((FR.rf.fld (by decide)).fld (by decide)) (by decide) (by decide)) t02' ⟨?_, ?_, ?_, ?_⟩⟩
      · exact e12
      · exact e13
      · show σ1 0 13 = τ1 0 40
        rw [f1s.2 13 (by decide), g1s.2 40 (by decide)]
        exact s4.2.2.1
      · show σ1 0 14 = τ1 0 41
        rw [f1s.2 14 (by decide), g1s.2 41 (by decide)]
        exact s4.2.2.2
  · rw [u9, u10, if_neg h0, if_neg h0]
    refine ⟨-3, up σ15 1 1 0, τ24, rfl, rfl, out ((fs.mono (by decide) (by decide)).cel (by decide) (by decide)) rfl (ft.mono (by decide) (by decide)) hOt t02 ⟨?_, ?_, ?_, ?_⟩⟩
    · show σ15 0 11 = _
      rw [s11, t12]
    · show σ15 0 12 = _
      rw [s12, t13]
    · show σ15 0 13 = _
      rw [fs.2 13 (by decide), ft.2 40 (by decide)]
      exact s4.2.2.1
    · show σ15 0 14 = _
      rw [fs.2 14 (by decide), ft.2 41 (by decide)]
      exact s4.2.2.2
