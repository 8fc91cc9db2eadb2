/-! own words: pure part: read -/
theorem FR.mg {C l : List Nat} {σ μ : Mem} (hl : ∀ c ∈ l, c ∈ C) (h0 : 0 ∉ l) : FR C [] σ (mg σ l μ) := ⟨fun _ hc _ => mgA_n _ _ _ _ _ (fun z => hc (hl _ z)), fun k _ => congrFun (mgA_n l 0 μ (σ 0) 0 h0) k⟩
theorem Rel0.rd {T O : List Nat} {L : Nat} {fm th : Nat → Nat} {dy n : Nat} {lv ur cm st od : Nat → Nat} {H : List C4} {R : Nat} {A : List A3} {σ σ1 τ τ1 : Mem} {i κ : Nat} {w : Int64}
    (c : RC T O L fm th dy n lv ur cm st od H R A σ) (r : RR T O L fm th dy n lv ur cm st od H A τ) (hw : RW L fm th dy n lv ur st od H R A i κ)
    (f : FR [1, 2, 12, 13, 14, 31] [11, 12, 13, 14] σ σ1) (h0 : σ1 1 1 = 0) (g : FR [17, 18, 21, 22] [0, 2, 3, 4, 12, 13, 32, 35, 36, 37, 40, 41] τ τ1) (hO : BOUT O τ1) (h2 : τ1 0 2 = 0) (s4 : RS4 σ1 τ1) : Rel0 (i + 6) σ1 τ1 w κ := by
  obtain ⟨c1, c2, c3, c4, c5, c6, c7⟩ := c
  obtain ⟨b1, b2, b3, b4, b5, b6, b7, b8⟩ := r
  refine ⟨[], O, L, fm, th, dy, n, lv, ur, cm, st, od, H, R, A, ⟨TXT.nil h0, c2.eq (f.1 3 (by decide) (by decide)) (f.1 4 (by decide) (by decide)), c3.eq (f.1 5 (by decide) (by decide)) (f.1 6 (by decide) (by decide)) (f.1 7 (by decide) (by decide)), c4.eq (f.1 15 (by decide) (by decide)) (f.1 16 (by decide) (by decide)) (f.1 17 (by decide) (by decide)) (f.1 18 (by decide) (by decide)) (f.1 19 (by decide) (by decide)) (f.1 20 (by decide) (by decide)), c5.eq (congrFun (f.1 21 (by decide) (by decide)) 5) (f.1 22 (by decide) (by decide)) (f.1 23 (by decide) (by decide)) (f.1 24 (by decide) (by decide)) (f.1 25 (by decide) (by decide)) (f.1 26 (by decide) (by decide)) (congrFun (f.1 32 (by decide) (by decide)) 0), c6.eq (f.1 27 (by decide) (by decide)) (f.1 28 (by decide) (by decide)) (f.1 29 (by decide) (by decide)) (f.1 30 (by decide) (by decide)), (f.2 10 (by decide)).trans c7⟩, ?_, s4, hw.skip⟩
  exact ⟨⟨h2, fun i hi => absurd hi (by simp)⟩, hO, b3.fr g (by decide) (by decide), b4.fr g (by decide) (by decide), b5.fr g (by decide) (by decide), b6.fr g (by decide) (by decide), (g.2 11 (by decide)).trans b7, b8.fr g (by decide)⟩
def TK (τ : Mem) : Mem := up (up (up τ 0 3 (τ 0 2)) 0 2 0) 0 4 0
theorem TK.bts {T : List Nat} {τ : Mem} (h : BTP T τ) : BTS T 0 (TK τ) := ⟨h.1, rfl, h.2⟩
theorem TK.fr {τ : Mem} : FR [] [0, 2, 3, 4] τ (TK (Mem0 τ 0)) := (((fr0.mono (by decide) (by decide)).fld (by decide)).fld (by decide)).fld (by decide)
theorem sfx_both {n : Nat} {g : Nat → Nat} {a1 : Int32} (hn : n ≤ 999) (hg : G26 g) : ∀ (d i m m2 : Nat) (x1 : Int32) (τ : Mem), i + d = nl g → d < m → d < m2 → τ 0 35 = nI (cB n g) → τ 0 41 = x1 → ∃ S τ1, X5_suffixOf_4 (nI (cA n g)) m x1 (nI i) = some S ∧ X10_read_46 a1 m2 (nI i) τ = some (nI n, τ1) ∧ FR [] [41] τ τ1 ∧ τ1 0 41 = S := by
  have h4 := nl_le g
  have hsb : nI (cB n g) - nI (cB n g) / 531441 * 531441 = nI (sB g) := sB_mod (by omega) hg
  intro d
  induction d with
  | zero =>
    intro i m m2 x1 τ hi hm hm2 h35 h41
    obtain ⟨m, rfl⟩ : ∃ z, m = z + 1 := ⟨m - 1, by omega⟩
    obtain ⟨m2, rfl⟩ : ∃ z, m2 = z + 1 := ⟨m2 - 1, by omega⟩
    refine ⟨x1, τ, ?_, ?_, FR.rf, h41⟩
    · unfold X5_suffixOf_4
      rw [x5_lin (by omega) hg, bd_s, if_pos (nI_le (by omega) (by omega))]
    · unfold X10_read_46
      have hdv : nI (cB n g) / 531441 = nI n := by
        have := pk_div (a := cB n g) (d := 531441) (by have := cB_lt (n := n) (by omega) hg; omega) (by omega) (by omega)
        rw [cB_num hg] at this
        exact this
      rw [h35, hsb, x10_lof hg, bd_s, if_pos (nI_le (by omega) (by omega)), hdv]
  | succ d ih =>
    intro i m m2 x1 τ hi hm hm2 h35 h41
    obtain ⟨m, rfl⟩ : ∃ z, m = z + 1 := ⟨m - 1, by omega⟩
    obtain ⟨m2, rfl⟩ : ∃ z, m2 = z + 1 := ⟨m2 - 1, by omega⟩
    obtain ⟨S, τ1, e1, e2, e3, e4⟩ := ih (i + 1) m m2 ((x1 <<< ((8 : Int32) &&& 31)) ||| (64 + nI (g i))) (up τ 0 41 ((x1 <<< ((8 : Int32) &&& 31)) ||| (64 + nI (g i)))) (by omega) (by omega) (by omega) h35 rfl
    refine ⟨S, τ1, ?_, ?_, (FR.rf.fld (by decide)).tr e3, e4⟩
    · unfold X5_suffixOf_4
      rw [x5_lin (by omega) hg, bd_s, if_neg (nI_ge (by omega) (by omega)), x5_let (by omega) hg (by omega), bd_s]
      simp only [lt]
      rw [nI_1]
      exact e1
    · unfold X10_read_46
      rw [h35, hsb, x10_lof hg, bd_s, if_neg (nI_ge (by omega) (by omega)), x10_let hg (by omega), bd_s, h41]
      simp only [lt]
      rw [nI_1]
      exact e2
theorem qS_ok {T : List Nat} {f p : Nat} (hp : p ≤ T.length) : p ≤ eN T f p ∧ eN T f p ≤ sS T f p ∧ sS T f p ≤ qS T f p ∧ qS T f p ≤ T.length ∧ ∀ j, sS T f p ≤ j → j < qS T f p → isG (T.getD j 0) = true := by
  obtain ⟨n1, n2⟩ := neE_ge T f (T.length - p) p
  change p ≤ eN T f p at n1
  change eN T f p ≤ _ at n2
  have hs : eN T f p ≤ sS T f p ∧ sS T f p ≤ T.length := by
    unfold sS
    split
    · rename_i z
      rcases Nat.lt_or_ge (eN T f p) T.length with z2 | z2
      · omega
      · rw [getD_len T z2] at z
        exact absurd z.2 (by decide)
    · omega
  obtain ⟨k1, k2⟩ := ceE_ge T (T.length - sS T f p) (sS T f p)
  have k3 := ceE_fit T (T.length - sS T f p) (sS T f p)
  refine ⟨n1, hs.1, ?_⟩
  unfold qS
  split
  · exact ⟨k1, by omega, k3⟩
  · exact ⟨Nat.le_refl _, hs.2, fun j h1 h2 => absurd h2 (by omega)⟩
theorem i32_3lt {a : Int32} (h : (4 : Int32) ≤ a) : (3 : Int32) < a := by
  rw [Int32.lt_iff_toInt_lt]
  have h2 := Int32.le_iff_toInt_le.mp h
  have e4 : (4 : Int32).toInt = 4 := by decide
  have e3 : (3 : Int32).toInt = 3 := by decide
  omega
theorem pu_read : PU_read Rel0 := by
  intro i σ τ w κ a1 hi h
  obtain ⟨T, O, L, fm, th, dy, n, lv, ur, cm, st, od, H, R, A, c, r, s4, hw⟩ := h
  have c1 := c.1
  have hT := c1.1
  have b1 := r.1
  have u10 : X10_read a1 τ = if a1 < 0 then some (-1, TK (Mem0 τ 0)) else if 3 < a1 then some (-1, TK (Mem0 τ 0)) else bd (X10_readLabel a1 (TK (Mem0 τ 0))) fun r11 => if r11.1 = 0 then some (-1, r11.2) else if r11.2 0 4 = r11.2 0 3 then X10_read_46 a1 FU 0 (up r11.2 0 41 0) else some (-1, r11.2) := rfl
  have u9 : X9_read a1 σ = if a1 < 0 then some (-1, up σ 1 1 0) else if 4 ≤ a1 then some (-1, up σ 1 1 0) else bd (X4_readAt 0 a1 (mp σ [12, 13, 14, 1, 2])) fun r4 => if mg σ [12, 13, 14, 1, 2] r4 12 2 = 0 then if mg σ [12, 13, 14, 1, 2] r4 12 1 = mg σ [12, 13, 14, 1, 2] r4 1 1 then bd (X5_numberOf (mg σ [12, 13, 14, 1, 2] r4 12 0)) fun r8 => bd (X5_suffixOf (mg σ [12, 13, 14, 1, 2] r4 12 0)) fun r9 => some (r8, up (up (mg σ [12, 13, 14, 1, 2] r4) 0 14 r9) 1 1 0) else some (-1, up (mg σ [12, 13, 14, 1, 2] r4) 1 1 0) else some (-1, up (mg σ [12, 13, 14, 1, 2] r4) 1 1 0) := rfl
  have ftk := TK.fr (τ := τ)
  have hOt := (r.2.1).fr ftk (by decide) (by decide)
  have out : ∀ {σ1 τ1 : Mem}, FR [1, 2, 12, 13, 14, 31] [11, 12, 13, 14] σ σ1 → σ1 1 1 = 0 → FR [17, 18, 21, 22] [0, 2, 3, 4, 12, 13, 32, 35, 36, 37, 40, 41] τ τ1 → BOUT O τ1 → τ1 0 2 = 0 → RS4 σ1 τ1 → Rel0 (i + 6) σ1 τ1 w κ := fun f h0 g hO h2 s => Rel0.rd c r hw f h0 g hO h2 s
  have ftk' : FR [17, 18, 21, 22] [0, 2, 3, 4, 12, 13, 32, 35, 36, 37, 40, 41] τ (TK (Mem0 τ 0)) := ftk.mono (by decide) (by decide)
  have neg : ∃ σ1 τ1, some (-1, up σ 1 1 0) = some ((-1 : Int32), σ1) ∧ some (-1, TK (Mem0 τ 0)) = some ((-1 : Int32), τ1) ∧ Rel0 (i + 6) σ1 τ1 w κ := ⟨_, _, rfl, rfl, out (FR.rf.cel (by decide) (by decide)) rfl ftk' hOt rfl s4⟩
  by_cases h0 : a1 < 0
  · obtain ⟨σ1, τ1, e1, e2, e3⟩ := neg
    exact ⟨-1, σ1, τ1, by rw [u9, if_pos h0]; exact e1, by rw [u10, if_pos h0]; exact e2, e3⟩
  · by_cases h4 : (4 : Int32) ≤ a1
    · obtain ⟨σ1, τ1, e1, e2, e3⟩ := neg
      exact ⟨-1, σ1, τ1, by rw [u9, if_neg h0, if_pos h4]; exact e1, by rw [u10, if_neg h0, if_pos (i32_3lt h4)]; exact e2, e3⟩
    · obtain ⟨f, hf, rfl⟩ := i32_ix (n := 4) h0 h4 (by omega)
      rw [u9, u10, if_neg h0, if_neg h4, if_neg h0, if_neg (show ¬ (3 : Int32) < nI f from nI_nlt (b := f) (a := 3) (by omega) (by omega))]
      clear neg u9 u10
      obtain ⟨μ1, p1, p2, p3, p4, p5⟩ := x4_read (μ := mp σ [12, 13, 14, 1, 2]) (T := T) (f := f) (p := 0) c1 hf (Nat.zero_le _)
      obtain ⟨v, τ1, q1, q2, q3, q4, q5, q6⟩ := x10_read hT c1.2.2.2 hf (TK.bts (τ := Mem0 τ 0) b1) hOt (r.2.2.2.2.2.2.2.fr ftk (by decide)) (Nat.zero_le _)
      have p1' : X4_readAt 0 (nI f) (mp σ [12, 13, 14, 1, 2]) = some μ1 := p1
      rw [p1', bd_s, q1, bd_s]
      clear p1 p1' q1
      dsimp only
      have e12 : ∀ j, mg σ [12, 13, 14, 1, 2] μ1 12 j = μ1 0 j := fun _ => rfl
      have e11 : mg σ [12, 13, 14, 1, 2] μ1 1 1 = nI T.length := by
        show μ1 3 1 = _
        rw [p2.1]
        exact c1.2.1
      have fs : FR [1, 2, 12, 13, 14, 31] [11, 12, 13, 14] σ (mg σ [12, 13, 14, 1, 2] μ1) := (FR.mg (C := [1, 2, 12, 13, 14, 31]) (by decide) (by decide)).mono (by decide) (by decide)
      have ft : FR [17, 18, 21, 22] [0, 2, 3, 4, 12, 13, 32, 35, 36, 37, 40, 41] τ τ1 := ftk'.tr (q3.mono (by decide) (by decide))
      have ft' : FR [17, 18, 21] [0, 2, 3, 4, 32, 35, 36, 37] τ τ1 := (ftk.mono (by decide) (by decide)).tr (q3.mono (by decide) (by decide))
      have h02 : τ1 0 2 = 0 := (q3.2 2 (by decide)).trans rfl
      have h03 : τ1 0 3 = nI T.length := (q3.2 3 (by decide)).trans b1.1
      have fss : ∀ k, k ∈ [11, 12, 13, 14] → mg σ [12, 13, 14, 1, 2] μ1 0 k = σ 0 k := fun k _ => congrFun (mgA_n [12, 13, 14, 1, 2] 0 μ1 (σ 0) 0 (by decide)) k
      have bad : v = 0 → ¬ μ1 0 2 = 0 → ∃ (r : Int32) (σ1 τ2 : Mem), (if mg σ [12, 13, 14, 1, 2] μ1 12 2 = 0 then if mg σ [12, 13, 14, 1, 2] μ1 12 1 = mg σ [12, 13, 14, 1, 2] μ1 1 1 then bd (X5_numberOf (mg σ [12, 13, 14, 1, 2] μ1 12 0)) fun r8 => bd (X5_suffixOf (mg σ [12, 13, 14, 1, 2] μ1 12 0)) fun r9 => some (r8, up (up (mg σ [12, 13, 14, 1, 2] μ1) 0 14 r9) 1 1 0) else some (-1, up (mg σ [12, 13, 14, 1, 2] μ1) 1 1 0) else some (-1, up (mg σ [12, 13, 14, 1, 2] μ1) 1 1 0)) = some (r, σ1) ∧ (if v = 0 then some (-1, τ1) else if τ1 0 4 = τ1 0 3 then X10_read_46 (nI f) FU 0 (up τ1 0 41 0) else some (-1, τ1)) = some (r, τ2) ∧ Rel0 (i + 6) σ1 τ2 w κ := fun hv hμ => by
        refine ⟨-1, up (mg σ [12, 13, 14, 1, 2] μ1) 1 1 0, τ1, by rw [e12, if_neg hμ], if_pos hv, out (fs.cel (by decide) (by decide)) rfl ft q2 h02 ?_⟩
        exact ⟨s4.1.trans (ft'.2 12 (by decide)).symm, s4.2.1.trans (ft'.2 13 (by decide)).symm, s4.2.2.1.trans (ft'.2 40 (by decide)).symm, s4.2.2.2.trans (ft'.2 41 (by decide)).symm⟩
      by_cases he : eN T f 0 = 0
      · exact bad (q4 he).1 (by rw [(p3 he).1]; decide)
      · by_cases hd : f ≠ 0 ∧ T.getD (eN T f 0) 0 = 45 ∧ qS T f 0 = sS T f 0
        · exact bad (q5 he hd).1 (by rw [(p4 he hd).1]; decide)
        · by_cases hG : GL T f 0 (eN T f 0) (sS T f 0) (qS T f 0)
          · obtain ⟨g1, g2, g3⟩ := (p5 he hd).1 hG
            obtain ⟨k1, k2, k3⟩ := (q6 he hd).1 hG
            obtain ⟨-, -, -, hq2, hcap⟩ := qS_ok (T := T) (f := f) (p := 0) (Nat.zero_le _)
            have hg26 := (gS_ok hG.2.2.1 hcap).1
            rw [e12, e12, e12, g1, if_pos rfl, e11, g3, g2, if_neg (show ¬ v = 0 by rw [k1]; decide)]
            by_cases hl : qS T f 0 = T.length
            · have hnum := x5_num (n := VAL T f 0 (eN T f 0)) (g := gS T (sS T f 0) (qS T f 0)) (by have := hG.2.1; omega) hg26
              obtain ⟨S, τ2, j1, j2, j3, j4⟩ := sfx_both (a1 := nI f) (n := VAL T f 0 (eN T f 0)) hG.2.1 hg26 (nl (gS T (sS T f 0) (qS T f 0))) 0 FU FU 0 (up τ1 0 41 0) (by omega) (by have := nl_le (gS T (sS T f 0) (qS T f 0)); unfold FU; omega) (by have := nl_le (gS T (sS T f 0) (qS T f 0)); unfold FU; omega) k2 rfl
              have j1' : X5_suffixOf (nI (cA (VAL T f 0 (eN T f 0)) (gS T (sS T f 0) (qS T f 0)))) = some S := j1
              have j2' : X10_read_46 (nI f) FU 0 (up τ1 0 41 0) = some (nI (VAL T f 0 (eN T f 0)), τ2) := j2
              have g40 : FR [] [41] τ1 τ2 := (FR.rf.fld (by decide)).tr j3
              rw [if_pos (show nI (qS T f 0) = nI T.length by rw [hl]), if_pos (show τ1 0 4 = τ1 0 3 by rw [k3, h03, hl]), hnum, bd_s, j1', bd_s, j2']
              refine ⟨_, _, _, rfl, rfl, out ((fs.fld (by decide)).cel (by decide) (by decide)) rfl (ft.tr (g40.mono (by decide) (by decide))) (q2.fr g40 (by decide) (by decide)) ((g40.2 2 (by decide)).trans h02) ⟨?_, ?_, ?_, ?_⟩⟩
              · exact (fss 11 (by decide)).trans (s4.1.trans ((g40.2 12 (by decide)).trans (ft'.2 12 (by decide))).symm)
              · exact (fss 12 (by decide)).trans (s4.2.1.trans ((g40.2 13 (by decide)).trans (ft'.2 13 (by decide))).symm)
              · exact (fss 13 (by decide)).trans (s4.2.2.1.trans ((g40.2 40 (by decide)).trans (ft'.2 40 (by decide))).symm)
              · exact j4.symm
            · rw [if_neg (show ¬ nI (qS T f 0) = nI T.length from fun z => hl ((nI_eq (by omega) (by omega)).mp z)), if_neg (show ¬ τ1 0 4 = τ1 0 3 from fun z => hl ((nI_eq (by omega) (by omega)).mp (by rw [← k3, ← h03]; exact z)))]
              refine ⟨-1, _, τ1, rfl, rfl, out (fs.cel (by decide) (by decide)) rfl ft q2 h02 ?_⟩
              exact ⟨s4.1.trans (ft'.2 12 (by decide)).symm, s4.2.1.trans (ft'.2 13 (by decide)).symm, s4.2.2.1.trans (ft'.2 40 (by decide)).symm, s4.2.2.2.trans (ft'.2 41 (by decide)).symm⟩
          · exact bad ((q6 he hd).2 hG).1 (by rw [((p5 he hd).2 hG).1]; decide)
