/-! printed: the walks -/
def rmX10_strike : Room := { frames := 1, cells := 0, slots := 0, locals := 23 }
set_option maxHeartbeats 4000000 in
set_option maxRecDepth 100000 in
theorem bX10_strike (l : Launch) (D : va_G) (cI cZ cB : ClassId) (ad : Nat → Nat) (w : Int64) (σ : Mem) (a1 : Int32) (res : Int32 × Mem) (h : X10_strike a1 σ = some res) : BW l yX10_strike wsX10_strike rmX10_strike cX10_strike 2 (some .boolean) D cI cZ cB (wdX10 cI cZ cB ad w σ) [.ref (ad 0), .int a1] (some (.int res.1)) (wdX10 cI cZ cB ad w res.2) := by
  intro p e s m args below meth c ls Q A hx hb hml hts hown hK hA hP hD hS hl0 hR
  have hinX10 : ∀ w ∈ u_ws RX10 TX10 42, w ∈ wsX10_strike := (fun _ h => List.mem_cons_of_mem _ (List.mem_append_right _ h))
  have fl1 := hts (.fieldLink RX10 86 "LawNumbererModel" "thrown" "I") (by decide +kernel)
  have fl2 := hts (.fieldLink RX10 46 "LawNumbererModel" "struck" "[Z") (by decide +kernel)
  have hl : lv_has ls 2 [(0, .ref (ad 0)), (1, .int a1)] := hl0
  rw [X10_strike] at h
  have hS := hS
  refine lv_aload_n hx hb dX10_strike_0 rfl (lv_at hl 0 rfl) ?_
  refine lv_iconst (v := 0) hx hb dX10_strike_1 (by decide) ?_
  obtain ⟨σ1, eσ1, h⟩ := lt_e h
  refine va_put (ci := 8) (v := .int 0) (ty := .int) (C := RX10) (T := TX10) (N := 42) hx hb hts hinX10 tyX10 tyX10_ok nmX10 hown hK hP hD hS 0 rfl rfl 0 (by decide) fl1 (fun _ h9 => h9) rfl (by decide +kernel) rfl rfl (Nat.le_of_ble_eq_true rfl) dX10_strike_2 (fun H locs hP1 hD1 hS => ?_)
  have hP : va_P D vwCl (wdX10 cI cZ cB ad w σ1) H := by rw [eσ1]; exact hP1
  have hD : va_D A (wdX10 cI cZ cB ad w σ1) := D_of (by rfl) hD
  refine lv_aload_n hx hb dX10_strike_5 rfl (lv_at hl 0 rfl) ?_
  refine lv_iload_n hx hb dX10_strike_6 rfl (lv_at hl 1 rfl) ?_
  obtain ⟨r2, hr2, h⟩ := bd_e h
  refine cl_RV (rest := []) (ci := 8) (q0 := 0) ⟨hx, hb, hml, hown, hts⟩ (mX10_isItem l D cI cZ cB ad w σ1 a1 r2 hr2) (cwV 1 hts gX10_strike_X10_isItem rfl rfl rfl (by decide +kernel) ⟨Nat.le_of_ble_eq_true rfl, Nat.le_of_ble_eq_true rfl⟩) hK hP rfl rfl rfl rfl hl.1 rfl (Nat.le_of_ble_eq_true rfl) dX10_strike_7 ⟨Nat.zero_le _, Nat.zero_le _⟩ ?_
  refine W.eq (g2 := F0 m 10 ls [.int r2]) rfl ?_
  refine lv_if_eq (tgt := 22) hx hb dX10_strike_10 (by decide) (fun c3 => ?_) (fun c3 => ?_)
  · have h := ite_t c3 h
    refine lv_iconst (v := 0) hx hb dX10_strike_22 (by decide) ?_
    exact hR (some (.int 0)) (wdX10 cI cZ cB ad w σ1) _ _ _ _ (by rw [← Option.some.inj h]) (by rw [← Option.some.inj h]) nb0 dX10_strike_23 hP hS
  · have h := ite_f c3 h
    refine lv_aload_n hx hb dX10_strike_13 rfl (lv_at hl 0 rfl) ?_
    refine va_get (ci := 8) (v := .ref (ad 10)) (C := RX10) (T := TX10) (N := 42) hx hb hts hinX10 hown hK hP 0 rfl rfl 20 (by decide) fl2 (fun _ h9 => h9) rfl dX10_strike_14 ?_
    refine lv_iload_n hx hb dX10_strike_17 rfl (lv_at hl 1 rfl) ?_
    obtain ⟨hin4, h⟩ := gd_e h
    refine va_zald hx hb hK hP 10 1 rfl rfl hin4 dX10_strike_18 ?_
    refine lv_if_eq (tgt := 24) hx hb dX10_strike_19 (by decide) (fun c5 => ?_) (fun c5 => ?_)
    · have h := ite_t c5 h
      refine lv_aload_n hx hb dX10_strike_24 rfl (lv_at hl 0 rfl) ?_
      refine lv_iconst (v := 1) hx hb dX10_strike_25 (by decide) ?_
      refine lv_iload_n hx hb dX10_strike_26 rfl (lv_at hl 1 rfl) ?_
      obtain ⟨r6, hr6, h⟩ := bd_e h
      obtain ⟨σ7, eσ7, h⟩ := lt_e h
      refine cl_WVs (rest := []) (wn := (wdX10 cI cZ cB ad w σ7)) (ci := 8) (q0 := 0) ⟨hx, hb, hml, hown, hts⟩ (mX10_act l D cI cZ cB ad w σ1 H.size 1 a1 r6 hr6) (cwV 2 hts gX10_strike_X10_act rfl rfl rfl (by decide +kernel) ⟨Nat.le_of_ble_eq_true rfl, Nat.le_of_ble_eq_true rfl⟩) hK hP hD hS hA (by rw [eσ7]) rfl rfl rfl rfl rfl hl.1 rfl (Nat.le_of_ble_eq_true rfl) dX10_strike_27 ⟨Nat.zero_le _, Nat.zero_le _⟩ (fun H locs hP hD hS => ?_)
      refine W.eq (g2 := F0 m 30 ls []) rfl ?_
      refine lv_aload_n hx hb dX10_strike_30 rfl (lv_at hl 0 rfl) ?_
      refine va_get (ci := 8) (v := .ref (ad 10)) (C := RX10) (T := TX10) (N := 42) hx hb hts hinX10 hown hK hP 0 rfl rfl 20 (by decide) fl2 (fun _ h9 => h9) rfl dX10_strike_31 ?_
      refine lv_iload_n hx hb dX10_strike_34 rfl (lv_at hl 1 rfl) ?_
      refine lv_iconst (v := 1) hx hb dX10_strike_35 (by decide) ?_
      obtain ⟨hin8, h⟩ := gd_e h
      obtain ⟨σ9, eσ9, h⟩ := lt_e h
      refine va_zast hx hb hK hP hD hS 10 1 rfl rfl hin8 dX10_strike_36 (fun H locs hP1 hD1 hS => ?_)
      have hP : va_P D vwCl (wdX10 cI cZ cB ad w σ9) H := by rw [eσ9]; exact hP1
      have hD : va_D A (wdX10 cI cZ cB ad w σ9) := D_of (by rfl) hD
      refine lv_iconst (v := 1) hx hb dX10_strike_37 (by decide) ?_
      exact hR (some (.int 1)) (wdX10 cI cZ cB ad w σ9) _ _ _ _ (by rw [← Option.some.inj h]) (by rw [← Option.some.inj h]) nb1 dX10_strike_38 hP hS
    · have h := ite_f c5 h
      refine lv_iconst (v := 0) hx hb dX10_strike_22 (by decide) ?_
      exact hR (some (.int 0)) (wdX10 cI cZ cB ad w σ1) _ _ _ _ (by rw [← Option.some.inj h]) (by rw [← Option.some.inj h]) nb0 dX10_strike_23 hP hS
set_option maxHeartbeats 4000000 in
set_option maxRecDepth 100000 in
theorem mX10_strike (l : Launch) (D : va_G) (cI cZ cB : ClassId) (ad : Nat → Nat) (w : Int64) (σ : Mem) (sz : Nat) (a1 : Int32) (res : Int32 × Mem) (h : X10_strike a1 σ = some res) : Met l yX10_strike wsX10_strike rmX10_strike (pW D cI cZ cB (wdX10 cI cZ cB ad w σ) sz [.ref (ad 0), .int a1]) (qW D (some (.int res.1)) (wdX10 cI cZ cB ad w res.2) (va_A (wdX10 cI cZ cB ad w σ) sz)) 0 0 (va_A (wdX10 cI cZ cB ad w σ) sz) := (bX10_strike l D cI cZ cB ad w σ a1 res h).met (by decide +kernel) rfl (Nat.le_of_ble_eq_true rfl)
def rmX10_renumber : Room := { frames := 1, cells := 0, slots := 0, locals := 23 }
set_option maxHeartbeats 4000000 in
set_option maxRecDepth 100000 in
theorem bX10_renumber (l : Launch) (D : va_G) (cI cZ cB : ClassId) (ad : Nat → Nat) (w : Int64) (σ : Mem) (a1 : Int32) (res : Int32 × Mem) (h : X10_renumber a1 σ = some res) : BW l yX10_renumber wsX10_renumber rmX10_renumber cX10_renumber 5 (some .boolean) D cI cZ cB (wdX10 cI cZ cB ad w σ) [.ref (ad 0), .int a1] (some (.int res.1)) (wdX10 cI cZ cB ad w res.2) := by
  intro p e s m args below meth c ls Q A hx hb hml hts hown hK hA hP hD hS hl0 hR
  have hinX10 : ∀ w ∈ u_ws RX10 TX10 42, w ∈ wsX10_renumber := (fun _ h => List.mem_cons_of_mem _ (List.mem_append_right _ h))
  have fl1 := hts (.fieldLink RX10 46 "LawNumbererModel" "struck" "[Z") (by decide +kernel)
  have fl2 := hts (.constant RX10 173 (531441)) (by decide +kernel)
  have fl3 := hts (.fieldLink RX10 157 "LawNumbererModel" "items" "I") (by decide +kernel)
  have fl4 := hts (.fieldLink RX10 43 "LawNumbererModel" "order" "[I") (by decide +kernel)
  have fl5 := hts (.fieldLink RX10 86 "LawNumbererModel" "thrown" "I") (by decide +kernel)
  have hl : lv_has ls 5 [(0, .ref (ad 0)), (1, .int a1)] := hl0
  have n25 : ∀ (n : Nat) (x2 : Int32) (x3 : Int32) (σ : Mem) (H : Heap) (locs : List Loc), va_P D vwCl (wdX10 cI cZ cB ad w σ) H → va_D A (wdX10 cI cZ cB ad w σ) → va_S A s.heap H locs → ∀ (ls : Array Slot), lv_has ls 5 [(0, .ref (ad 0)), (1, .int a1), (2, .int x2), (3, .int x3)] → X10_renumber_25 a1 n x2 x3 σ = some res → W p l e rmX10_renumber s m args below meth c H locs 0 0 Q (F0 m 25 ls []) := by
    intro n
    induction n with
    | zero =>
      intro x2 x3 σ H locs hP hD hS ls hl h
      rw [X10_renumber_25] at h
      cases h
    | succ n_25 ih25 =>
      have n88 : ∀ (x2 : Int32) (x3 : Int32) (y1 : Int32) (y2 : Int32) (σ : Mem) (H : Heap) (locs : List Loc), va_P D vwCl (wdX10 cI cZ cB ad w σ) H → va_D A (wdX10 cI cZ cB ad w σ) → va_S A s.heap H locs → ∀ (ls : Array Slot), lv_has ls 5 [(0, .ref (ad 0)), (1, .int a1), (2, .int x2), (3, .int x3)] → X10_renumber_88 a1 (X10_renumber_25 a1 n_25) x2 x3 y1 y2 σ = some res → W p l e rmX10_renumber s m args below meth c H locs 0 0 Q (F0 m 88 ls [.int y2, .int y1, .ref (ad 0)]) := by
        intro x2 x3 y1 y2 σ H locs hP hD hS ls hl h
        rw [X10_renumber_88] at h
        obtain ⟨r1, hr1, h⟩ := bd_e h
        obtain ⟨σ2, eσ2, h⟩ := lt_e h
        refine cl_WVs (rest := []) (wn := (wdX10 cI cZ cB ad w σ2)) (ci := 8) (q0 := 0) ⟨hx, hb, hml, hown, hts⟩ (mX10_change l D cI cZ cB ad w σ H.size y1 y2 r1 hr1) (cwV 2 hts gX10_renumber_X10_change rfl rfl rfl (by decide +kernel) ⟨Nat.le_of_ble_eq_true rfl, Nat.le_of_ble_eq_true rfl⟩) hK hP hD hS hA (by rw [eσ2]) rfl rfl rfl rfl rfl hl.1 rfl (Nat.le_of_ble_eq_true rfl) dX10_renumber_88 ⟨Nat.zero_le _, Nat.zero_le _⟩ (fun H locs hP hD hS => ?_)
        refine W.eq (g2 := F0 m 91 ls []) rfl ?_
        obtain ⟨x3_3, ex3_3, h⟩ := lt_e h
        refine lv_iinc (v := x3_3) (lv' := [(3, .int x3_3), (0, .ref (ad 0)), (1, .int a1), (2, .int x2)]) hx hb dX10_renumber_91 hl (k := 3) rfl (by rw [ex3_3]; rfl) (by decide) rfl (fun ls hl => ?_)
        refine lv_goto (tgt := 25) hx hb dX10_renumber_94 (by decide) ?_
        exact ih25 x2 x3_3 σ2 _ _ hP hD hS _ (lv_sub hl [1, 2, 3, 0] rfl) h
      have n67 : ∀ (x2 : Int32) (x3 : Int32) (x4 : Int32) (σ : Mem) (H : Heap) (locs : List Loc), va_P D vwCl (wdX10 cI cZ cB ad w σ) H → va_D A (wdX10 cI cZ cB ad w σ) → va_S A s.heap H locs → ∀ (ls : Array Slot), lv_has ls 5 [(0, .ref (ad 0)), (1, .int a1), (2, .int x2), (3, .int x3), (4, .int x4)] → X10_renumber_67 a1 (X10_renumber_25 a1 n_25) x2 x3 x4 σ = some res → W p l e rmX10_renumber s m args below meth c H locs 0 0 Q (F0 m 67 ls []) := by
        intro x2 x3 x4 σ H locs hP hD hS ls hl h
        rw [X10_renumber_67] at h
        refine lv_aload_n hx hb dX10_renumber_67 rfl (lv_at hl 0 rfl) ?_
        refine lv_iload hx hb dX10_renumber_68 (lv_at hl 4 rfl) ?_
        refine lv_aload_n hx hb dX10_renumber_70 rfl (lv_at hl 0 rfl) ?_
        refine va_get (ci := 8) (v := .ref (ad 10)) (C := RX10) (T := TX10) (N := 42) hx hb hts hinX10 hown hK hP 0 rfl rfl 20 (by decide) fl1 (fun _ h9 => h9) rfl dX10_renumber_71 ?_
        refine lv_iload hx hb dX10_renumber_74 (lv_at hl 4 rfl) ?_
        obtain ⟨hin4, h⟩ := gd_e h
        refine va_zald hx hb hK hP 10 1 rfl rfl hin4 dX10_renumber_76 ?_
        refine lv_if_eq (tgt := 84) hx hb dX10_renumber_77 (by decide) (fun c5 => ?_) (fun c5 => ?_)
        · have h := ite_t c5 h
          refine lv_iload_n hx hb dX10_renumber_84 rfl (lv_at hl 2 rfl) ?_
          refine lv_ldc (v := 531441) hx hb hown fl2 dX10_renumber_85 ?_
          refine lv_imul hx hb dX10_renumber_87 ?_
          exact n88 x2 x3 x4 (x2 * 531441) σ _ _ hP hD hS _ (lv_sub hl [0, 1, 2, 3] rfl) h
        · have h := ite_f c5 h
          refine lv_iconst (v := 0) hx hb dX10_renumber_80 (by decide) ?_
          refine lv_goto (tgt := 88) hx hb dX10_renumber_81 (by decide) ?_
          exact n88 x2 x3 x4 0 σ _ _ hP hD hS _ (lv_sub hl [0, 1, 2, 3] rfl) h
      intro x2 x3 σ H locs hP hD hS ls hl h
      rw [X10_renumber_25] at h
      refine lv_iload_n hx hb dX10_renumber_25 rfl (lv_at hl 3 rfl) ?_
      refine lv_aload_n hx hb dX10_renumber_26 rfl (lv_at hl 0 rfl) ?_
      refine va_get (ci := 8) (v := .int (σ 0 21)) (C := RX10) (T := TX10) (N := 42) hx hb hts hinX10 hown hK hP 0 rfl rfl 21 (by decide) fl3 (fun _ h9 => h9) rfl dX10_renumber_27 ?_
      refine lv_icmp_ge (tgt := 97) hx hb dX10_renumber_30 (by decide) (fun c6 => ?_) (fun c6 => ?_)
      · have h := ite_t c6 h
        refine lv_iconst (v := 1) hx hb dX10_renumber_97 (by decide) ?_
        exact hR (some (.int 1)) (wdX10 cI cZ cB ad w σ) _ _ _ _ (by rw [← Option.some.inj h]) (by rw [← Option.some.inj h]) nb1 dX10_renumber_98 hP hS
      · have h := ite_f c6 h
        refine lv_aload_n hx hb dX10_renumber_33 rfl (lv_at hl 0 rfl) ?_
        refine va_get (ci := 8) (v := .ref (ad 9)) (C := RX10) (T := TX10) (N := 42) hx hb hts hinX10 hown hK hP 0 rfl rfl 19 (by decide) fl4 (fun _ h9 => h9) rfl dX10_renumber_34 ?_
        refine lv_iload_n hx hb dX10_renumber_37 rfl (lv_at hl 3 rfl) ?_
        obtain ⟨hin7, h⟩ := gd_e h
        refine va_iald hx hb hK hP 9 0 rfl rfl hin7 dX10_renumber_38 ?_
        obtain ⟨x4_8, ex4_8, h⟩ := lt_e h
        refine lv_topE ex4_8 ?_
        refine lv_istore (lv' := [(4, .int x4_8), (0, .ref (ad 0)), (1, .int a1), (2, .int x2), (3, .int x3)]) hx hb dX10_renumber_39 hl (by decide) rfl (fun ls hl => ?_)
        refine lv_aload_n hx hb dX10_renumber_41 rfl (lv_at hl 1 rfl) ?_
        refine lv_iload hx hb dX10_renumber_42 (lv_at hl 0 rfl) ?_
        refine lv_iload_n hx hb dX10_renumber_44 rfl (lv_at hl 2 rfl) ?_
        obtain ⟨r9, hr9, h⟩ := bd_e h
        refine cl_RV (rest := []) (ci := 8) (q0 := 0) ⟨hx, hb, hml, hown, hts⟩ (mX10_isInRow l D cI cZ cB ad w σ x4_8 a1 r9 hr9) (cwV 2 hts gX10_renumber_X10_isInRow rfl rfl rfl (by decide +kernel) ⟨Nat.le_of_ble_eq_true rfl, Nat.le_of_ble_eq_true rfl⟩) hK hP rfl rfl rfl rfl hl.1 rfl (Nat.le_of_ble_eq_true rfl) dX10_renumber_45 ⟨Nat.zero_le _, Nat.zero_le _⟩ ?_
        refine W.eq (g2 := F0 m 48 ls [.int r9]) rfl ?_
        refine lv_if_ne (tgt := 54) hx hb dX10_renumber_48 (by decide) (fun c10 => ?_) (fun c10 => ?_)
        · have h := ite_f c10 h
          refine lv_aload_n hx hb dX10_renumber_54 rfl (lv_at hl 1 rfl) ?_
          refine va_get (ci := 8) (v := .ref (ad 10)) (C := RX10) (T := TX10) (N := 42) hx hb hts hinX10 hown hK hP 0 rfl rfl 20 (by decide) fl1 (fun _ h9 => h9) rfl dX10_renumber_55 ?_
          refine lv_iload hx hb dX10_renumber_58 (lv_at hl 0 rfl) ?_
          obtain ⟨hin11, h⟩ := gd_e h
          refine va_zald hx hb hK hP 10 1 rfl rfl hin11 dX10_renumber_60 ?_
          refine lv_if_ne (tgt := 67) hx hb dX10_renumber_61 (by decide) (fun c12 => ?_) (fun c12 => ?_)
          · have h := ite_f c12 h
            exact n67 x2 x3 x4_8 σ _ _ hP hD hS _ (lv_sub hl [1, 2, 3, 4, 0] rfl) h
          · have h := ite_t c12 h
            obtain ⟨x2_13, ex2_13, h⟩ := lt_e h
            refine lv_iinc (v := x2_13) (lv' := [(2, .int x2_13), (4, .int x4_8), (0, .ref (ad 0)), (1, .int a1), (3, .int x3)]) hx hb dX10_renumber_64 hl (k := 3) rfl (by rw [ex2_13]; rfl) (by decide) rfl (fun ls hl => ?_)
            exact n67 x2_13 x3 x4_8 σ _ _ hP hD hS _ (lv_sub hl [2, 3, 0, 4, 1] rfl) h
        · have h := ite_t c10 h
          refine lv_goto (tgt := 91) hx hb dX10_renumber_51 (by decide) ?_
          obtain ⟨x3_14, ex3_14, h⟩ := lt_e h
          refine lv_iinc (v := x3_14) (lv' := [(3, .int x3_14), (4, .int x4_8), (0, .ref (ad 0)), (1, .int a1), (2, .int x2)]) hx hb dX10_renumber_91 hl (k := 4) rfl (by rw [ex3_14]; rfl) (by decide) rfl (fun ls hl => ?_)
          refine lv_goto (tgt := 25) hx hb dX10_renumber_94 (by decide) ?_
          exact ih25 x2 x3_14 σ _ _ hP hD hS _ (lv_sub hl [2, 3, 4, 0] rfl) h
  rw [X10_renumber] at h
  have hS := hS
  refine lv_aload_n hx hb dX10_renumber_0 rfl (lv_at hl 0 rfl) ?_
  refine lv_iconst (v := 0) hx hb dX10_renumber_1 (by decide) ?_
  obtain ⟨σ15, eσ15, h⟩ := lt_e h
  refine va_put (ci := 8) (v := .int 0) (ty := .int) (C := RX10) (T := TX10) (N := 42) hx hb hts hinX10 tyX10 tyX10_ok nmX10 hown hK hP hD hS 0 rfl rfl 0 (by decide) fl5 (fun _ h9 => h9) rfl (by decide +kernel) rfl rfl (Nat.le_of_ble_eq_true rfl) dX10_renumber_2 (fun H locs hP1 hD1 hS => ?_)
  have hP : va_P D vwCl (wdX10 cI cZ cB ad w σ15) H := by rw [eσ15]; exact hP1
  have hD : va_D A (wdX10 cI cZ cB ad w σ15) := D_of (by rfl) hD
  refine lv_aload_n hx hb dX10_renumber_5 rfl (lv_at hl 0 rfl) ?_
  refine lv_iload_n hx hb dX10_renumber_6 rfl (lv_at hl 1 rfl) ?_
  obtain ⟨r16, hr16, h⟩ := bd_e h
  refine cl_RV (rest := []) (ci := 8) (q0 := 0) ⟨hx, hb, hml, hown, hts⟩ (mX10_isItem l D cI cZ cB ad w σ15 a1 r16 hr16) (cwV 1 hts gX10_renumber_X10_isItem rfl rfl rfl (by decide +kernel) ⟨Nat.le_of_ble_eq_true rfl, Nat.le_of_ble_eq_true rfl⟩) hK hP rfl rfl rfl rfl hl.1 rfl (Nat.le_of_ble_eq_true rfl) dX10_renumber_7 ⟨Nat.zero_le _, Nat.zero_le _⟩ ?_
  refine W.eq (g2 := F0 m 10 ls [.int r16]) rfl ?_
  refine lv_if_ne (tgt := 15) hx hb dX10_renumber_10 (by decide) (fun c17 => ?_) (fun c17 => ?_)
  · have h := ite_f c17 h
    refine lv_aload_n hx hb dX10_renumber_15 rfl (lv_at hl 0 rfl) ?_
    refine lv_iconst (v := 2) hx hb dX10_renumber_16 (by decide) ?_
    refine lv_iload_n hx hb dX10_renumber_17 rfl (lv_at hl 1 rfl) ?_
    obtain ⟨r18, hr18, h⟩ := bd_e h
    obtain ⟨σ19, eσ19, h⟩ := lt_e h
    refine cl_WVs (rest := []) (wn := (wdX10 cI cZ cB ad w σ19)) (ci := 8) (q0 := 0) ⟨hx, hb, hml, hown, hts⟩ (mX10_act l D cI cZ cB ad w σ15 H.size 2 a1 r18 hr18) (cwV 2 hts gX10_renumber_X10_act rfl rfl rfl (by decide +kernel) ⟨Nat.le_of_ble_eq_true rfl, Nat.le_of_ble_eq_true rfl⟩) hK hP hD hS hA (by rw [eσ19]) rfl rfl rfl rfl rfl hl.1 rfl (Nat.le_of_ble_eq_true rfl) dX10_renumber_18 ⟨Nat.zero_le _, Nat.zero_le _⟩ (fun H locs hP hD hS => ?_)
    refine W.eq (g2 := F0 m 21 ls []) rfl ?_
    refine lv_iconst (v := 0) hx hb dX10_renumber_21 (by decide) ?_
    refine lv_istore_n (lv' := [(2, .int 0), (0, .ref (ad 0)), (1, .int a1)]) hx hb dX10_renumber_22 rfl hl (by decide) rfl (fun ls hl => ?_)
    refine lv_iconst (v := 0) hx hb dX10_renumber_23 (by decide) ?_
    refine lv_istore_n (lv' := [(3, .int 0), (2, .int 0), (0, .ref (ad 0)), (1, .int a1)]) hx hb dX10_renumber_24 rfl hl (by decide) rfl (fun ls hl => ?_)
    exact n25 FU 0 0 σ19 _ _ hP hD hS _ (lv_sub hl [2, 3, 1, 0] rfl) h
  · have h := ite_t c17 h
    refine lv_iconst (v := 0) hx hb dX10_renumber_13 (by decide) ?_
    exact hR (some (.int 0)) (wdX10 cI cZ cB ad w σ15) _ _ _ _ (by rw [← Option.some.inj h]) (by rw [← Option.some.inj h]) nb0 dX10_renumber_14 hP hS
set_option maxHeartbeats 4000000 in
set_option maxRecDepth 100000 in
theorem mX10_renumber (l : Launch) (D : va_G) (cI cZ cB : ClassId) (ad : Nat → Nat) (w : Int64) (σ : Mem) (sz : Nat) (a1 : Int32) (res : Int32 × Mem) (h : X10_renumber a1 σ = some res) : Met l yX10_renumber wsX10_renumber rmX10_renumber (pW D cI cZ cB (wdX10 cI cZ cB ad w σ) sz [.ref (ad 0), .int a1]) (qW D (some (.int res.1)) (wdX10 cI cZ cB ad w res.2) (va_A (wdX10 cI cZ cB ad w σ) sz)) 0 0 (va_A (wdX10 cI cZ cB ad w σ) sz) := (bX10_renumber l D cI cZ cB ad w σ a1 res h).met (by decide +kernel) rfl (Nat.le_of_ble_eq_true rfl)
def rmX10_error : Room := { frames := 1, cells := 0, slots := 0, locals := 23 }
set_option maxHeartbeats 4000000 in
set_option maxRecDepth 100000 in
theorem bX10_error (l : Launch) (D : va_G) (cI cZ cB : ClassId) (ad : Nat → Nat) (w : Int64) (σ : Mem) (a1 : Int32) (a2 : Int32) (a3 : Int32) (res : Int32 × Mem) (h : X10_error a1 a2 a3 σ = some res) : BW l yX10_error wsX10_error rmX10_error cX10_error 7 (some .boolean) D cI cZ cB (wdX10 cI cZ cB ad w σ) [.ref (ad 0), .int a1, .int a2, .int a3] (some (.int res.1)) (wdX10 cI cZ cB ad w res.2) := by
  intro p e s m args below meth c ls Q A hx hb hml hts hown hK hA hP hD hS hl0 hR
  have hinX10 : ∀ w ∈ u_ws RX10 TX10 42, w ∈ wsX10_error := (fun _ h => List.mem_cons_of_mem _ (List.mem_append_right _ h))
  have fl1 := hts (.fieldLink RX10 68 "LawNumbererModel" "hand" "[I") (by decide +kernel)
  have fl2 := hts (.constant RX10 173 (531441)) (by decide +kernel)
  have fl3 := hts (.fieldLink RX10 86 "LawNumbererModel" "thrown" "I") (by decide +kernel)
  have hl : lv_has ls 7 [(0, .ref (ad 0)), (1, .int a1), (2, .int a2), (3, .int a3)] := hl0
  have n57 : ∀ (n : Nat) (x4 : Int32) (x5 : Int32) (σ : Mem) (H : Heap) (locs : List Loc), va_P D vwCl (wdX10 cI cZ cB ad w σ) H → va_D A (wdX10 cI cZ cB ad w σ) → va_S A s.heap H locs → ∀ (ls : Array Slot), lv_has ls 7 [(0, .ref (ad 0)), (1, .int a1), (2, .int a2), (3, .int a3), (4, .int x4), (5, .int x5)] → X10_error_57 a1 a2 a3 n x4 x5 σ = some res → W p l e rmX10_error s m args below meth c H locs 0 0 Q (F0 m 57 ls []) := by
    intro n
    induction n with
    | zero =>
      intro x4 x5 σ H locs hP hD hS ls hl h
      rw [X10_error_57] at h
      cases h
    | succ n_57 ih57 =>
      have n85 : ∀ (x4 : Int32) (x5 : Int32) (x6 : Int32) (σ : Mem) (H : Heap) (locs : List Loc), va_P D vwCl (wdX10 cI cZ cB ad w σ) H → va_D A (wdX10 cI cZ cB ad w σ) → va_S A s.heap H locs → ∀ (ls : Array Slot), lv_has ls 7 [(0, .ref (ad 0)), (1, .int a1), (2, .int a2), (3, .int a3), (4, .int x4), (5, .int x5), (6, .int x6)] → X10_error_85 a1 a2 a3 (X10_error_57 a1 a2 a3 n_57) x4 x5 x6 σ = some res → W p l e rmX10_error s m args below meth c H locs 0 0 Q (F0 m 85 ls []) := by
        intro x4 x5 x6 σ H locs hP hD hS ls hl h
        rw [X10_error_85] at h
        refine lv_iload hx hb dX10_error_85 (lv_at hl 6 rfl) ?_
        obtain ⟨r1, hr1, h⟩ := bd_e h
        refine cl_RS (rest := []) ⟨hx, hb, hml, hown, hts⟩ (mX10_isGreat l D cI cZ cB x6 r1 hr1) (va_cwS 1 hts gX10_error_X10_isGreat rfl rfl rfl (by decide +kernel) ⟨Nat.le_of_ble_eq_true rfl, Nat.le_of_ble_eq_true rfl⟩) hK wd0_P rfl hl.1 rfl (Nat.le_of_ble_eq_true rfl) dX10_error_87 ⟨Nat.zero_le _, Nat.zero_le _⟩ ?_
        refine W.eq (g2 := F0 m 90 ls [.int r1]) rfl ?_
        refine lv_if_ne (tgt := 95) hx hb dX10_error_90 (by decide) (fun c2 => ?_) (fun c2 => ?_)
        · have h := ite_f c2 h
          refine lv_aload_n hx hb dX10_error_95 rfl (lv_at hl 0 rfl) ?_
          refine va_get (ci := 8) (v := .ref (ad 17)) (C := RX10) (T := TX10) (N := 42) hx hb hts hinX10 hown hK hP 0 rfl rfl 30 (by decide) fl1 (fun _ h9 => h9) rfl dX10_error_96 ?_
          refine lv_iload hx hb dX10_error_99 (lv_at hl 4 rfl) ?_
          refine lv_iload hx hb dX10_error_101 (lv_at hl 6 rfl) ?_
          refine lv_bipush (v := 64) hx hb dX10_error_103 (by decide) ?_
          refine lv_isub hx hb dX10_error_105 ?_
          obtain ⟨hin3, h⟩ := gd_e h
          obtain ⟨σ4, eσ4, h⟩ := lt_e h
          refine va_iast hx hb hK hP hD hS 17 0 rfl rfl hin3 dX10_error_106 (fun H locs hP1 hD1 hS => ?_)
          have hP : va_P D vwCl (wdX10 cI cZ cB ad w σ4) H := by rw [eσ4]; exact hP1
          have hD : va_D A (wdX10 cI cZ cB ad w σ4) := D_of (by rfl) hD
          obtain ⟨x4_5, ex4_5, h⟩ := lt_e h
          refine lv_iinc (v := x4_5) (lv' := [(4, .int x4_5), (0, .ref (ad 0)), (1, .int a1), (2, .int a2), (3, .int a3), (5, .int x5), (6, .int x6)]) hx hb dX10_error_107 hl (k := 4) rfl (by rw [ex4_5]; rfl) (by decide) rfl (fun ls hl => ?_)
          obtain ⟨x5_6, ex5_6, h⟩ := lt_e h
          refine lv_iinc (v := x5_6) (lv' := [(5, .int x5_6), (4, .int x4_5), (0, .ref (ad 0)), (1, .int a1), (2, .int a2), (3, .int a3), (6, .int x6)]) hx hb dX10_error_110 hl (k := 5) rfl (by rw [ex5_6]; rfl) (by decide) rfl (fun ls hl => ?_)
          refine lv_goto (tgt := 57) hx hb dX10_error_113 (by decide) ?_
          exact ih57 x4_5 x5_6 σ4 _ _ hP hD hS _ (lv_sub hl [2, 3, 4, 5, 1, 0] rfl) h
        · have h := ite_t c2 h
          refine lv_iconst (v := 0) hx hb dX10_error_93 (by decide) ?_
          exact hR (some (.int 0)) (wdX10 cI cZ cB ad w σ) _ _ _ _ (by rw [← Option.some.inj h]) (by rw [← Option.some.inj h]) nb0 dX10_error_94 hP hS
      intro x4 x5 σ H locs hP hD hS ls hl h
      rw [X10_error_57] at h
      refine lv_iload hx hb dX10_error_57 (lv_at hl 5 rfl) ?_
      refine lv_if_lt (tgt := 116) hx hb dX10_error_59 (by decide) (fun c7 => ?_) (fun c7 => ?_)
      · have h := ite_t c7 h
        refine lv_aload_n hx hb dX10_error_116 rfl (lv_at hl 0 rfl) ?_
        refine lv_iconst (v := 3) hx hb dX10_error_117 (by decide) ?_
        refine lv_iload_n hx hb dX10_error_118 rfl (lv_at hl 1 rfl) ?_
        obtain ⟨r8, hr8, h⟩ := bd_e h
        obtain ⟨σ9, eσ9, h⟩ := lt_e h
        refine cl_WVs (rest := []) (wn := (wdX10 cI cZ cB ad w σ9)) (ci := 8) (q0 := 0) ⟨hx, hb, hml, hown, hts⟩ (mX10_act l D cI cZ cB ad w σ H.size 3 a1 r8 hr8) (cwV 2 hts gX10_error_X10_act rfl rfl rfl (by decide +kernel) ⟨Nat.le_of_ble_eq_true rfl, Nat.le_of_ble_eq_true rfl⟩) hK hP hD hS hA (by rw [eσ9]) rfl rfl rfl rfl rfl hl.1 rfl (Nat.le_of_ble_eq_true rfl) dX10_error_119 ⟨Nat.zero_le _, Nat.zero_le _⟩ (fun H locs hP hD hS => ?_)
        refine W.eq (g2 := F0 m 122 ls []) rfl ?_
        refine lv_aload_n hx hb dX10_error_122 rfl (lv_at hl 0 rfl) ?_
        refine lv_iload_n hx hb dX10_error_123 rfl (lv_at hl 1 rfl) ?_
        refine lv_iload_n hx hb dX10_error_124 rfl (lv_at hl 2 rfl) ?_
        refine lv_ldc (v := 531441) hx hb hown fl2 dX10_error_125 ?_
        refine lv_imul hx hb dX10_error_127 ?_
        refine lv_aload_n hx hb dX10_error_128 rfl (lv_at hl 0 rfl) ?_
        obtain ⟨r10, hr10, h⟩ := bd_e h
        refine cl_RV (rest := [.int (a2 * 531441), .int a1, .ref (ad 0)]) (ci := 8) (q0 := 0) ⟨hx, hb, hml, hown, hts⟩ (mX10_suffixInHand l D cI cZ cB ad w σ9 r10 hr10) (cwV 0 hts gX10_error_X10_suffixInHand rfl rfl rfl (by decide +kernel) ⟨Nat.le_of_ble_eq_true rfl, Nat.le_of_ble_eq_true rfl⟩) hK hP rfl rfl rfl rfl hl.1 rfl (Nat.le_of_ble_eq_true rfl) dX10_error_129 ⟨Nat.zero_le _, Nat.zero_le _⟩ ?_
        refine W.eq (g2 := F0 m 132 ls [.int r10, .int (a2 * 531441), .int a1, .ref (ad 0)]) rfl ?_
        refine lv_iadd hx hb dX10_error_132 ?_
        obtain ⟨r11, hr11, h⟩ := bd_e h
        obtain ⟨σ12, eσ12, h⟩ := lt_e h
        refine cl_WVs (rest := []) (wn := (wdX10 cI cZ cB ad w σ12)) (ci := 8) (q0 := 0) ⟨hx, hb, hml, hown, hts⟩ (mX10_change l D cI cZ cB ad w σ9 H.size a1 ((a2 * 531441) + r10) r11 hr11) (cwV 2 hts gX10_error_X10_change rfl rfl rfl (by decide +kernel) ⟨Nat.le_of_ble_eq_true rfl, Nat.le_of_ble_eq_true rfl⟩) hK hP hD hS hA (by rw [eσ12]) rfl rfl rfl rfl rfl hl.1 rfl (Nat.le_of_ble_eq_true rfl) dX10_error_133 ⟨Nat.zero_le _, Nat.zero_le _⟩ (fun H locs hP hD hS => ?_)
        refine W.eq (g2 := F0 m 136 ls []) rfl ?_
        refine lv_iconst (v := 1) hx hb dX10_error_136 (by decide) ?_
        exact hR (some (.int 1)) (wdX10 cI cZ cB ad w σ12) _ _ _ _ (by rw [← Option.some.inj h]) (by rw [← Option.some.inj h]) nb1 dX10_error_137 hP hS
      · have h := ite_f c7 h
        refine lv_iload_n hx hb dX10_error_62 rfl (lv_at hl 3 rfl) ?_
        refine lv_iload hx hb dX10_error_63 (lv_at hl 5 rfl) ?_
        refine lv_ishr hx hb dX10_error_65 ?_
        refine lv_sipush (v := 255) hx hb dX10_error_66 (by decide) ?_
        refine lv_iand hx hb dX10_error_69 ?_
        obtain ⟨x6_13, ex6_13, h⟩ := lt_e h
        refine lv_topE ex6_13 ?_
        refine lv_istore (lv' := [(6, .int x6_13), (0, .ref (ad 0)), (1, .int a1), (2, .int a2), (3, .int a3), (4, .int x4), (5, .int x5)]) hx hb dX10_error_70 hl (by decide) rfl (fun ls hl => ?_)
        refine lv_iload hx hb dX10_error_72 (lv_at hl 0 rfl) ?_
        refine lv_if_ne (tgt := 85) hx hb dX10_error_74 (by decide) (fun c14 => ?_) (fun c14 => ?_)
        · have h := ite_f c14 h
          exact n85 x4 x5 x6_13 σ _ _ hP hD hS _ (lv_sub hl [1, 2, 3, 4, 5, 6, 0] rfl) h
        · have h := ite_t c14 h
          refine lv_iload hx hb dX10_error_77 (lv_at hl 5 rfl) ?_
          refine lv_if_ne (tgt := 85) hx hb dX10_error_79 (by decide) (fun c15 => ?_) (fun c15 => ?_)
          · have h := ite_f c15 h
            exact n85 x4 x5 x6_13 σ _ _ hP hD hS _ (lv_sub hl [1, 2, 3, 4, 5, 6, 0] rfl) h
          · have h := ite_t c15 h
            refine lv_goto (tgt := 110) hx hb dX10_error_82 (by decide) ?_
            obtain ⟨x5_16, ex5_16, h⟩ := lt_e h
            refine lv_iinc (v := x5_16) (lv' := [(5, .int x5_16), (6, .int x6_13), (0, .ref (ad 0)), (1, .int a1), (2, .int a2), (3, .int a3), (4, .int x4)]) hx hb dX10_error_110 hl (k := 6) rfl (by rw [ex5_16]; rfl) (by decide) rfl (fun ls hl => ?_)
            refine lv_goto (tgt := 57) hx hb dX10_error_113 (by decide) ?_
            exact ih57 x4 x5_16 σ _ _ hP hD hS _ (lv_sub hl [2, 3, 4, 5, 6, 0] rfl) h
  have n33 : ∀ (n : Nat) (x4 : Int32) (x5 : Int32) (σ : Mem) (H : Heap) (locs : List Loc), va_P D vwCl (wdX10 cI cZ cB ad w σ) H → va_D A (wdX10 cI cZ cB ad w σ) → va_S A s.heap H locs → ∀ (ls : Array Slot), lv_has ls 7 [(0, .ref (ad 0)), (1, .int a1), (2, .int a2), (3, .int a3), (4, .int x4), (5, .int x5)] → X10_error_33 a1 a2 a3 n x4 x5 σ = some res → W p l e rmX10_error s m args below meth c H locs 0 0 Q (F0 m 33 ls []) := by
    intro n
    induction n with
    | zero =>
      intro x4 x5 σ H locs hP hD hS ls hl h
      rw [X10_error_33] at h
      cases h
    | succ n_33 ih33 =>
      intro x4 x5 σ H locs hP hD hS ls hl h
      rw [X10_error_33] at h
      refine lv_iload hx hb dX10_error_33 (lv_at hl 5 rfl) ?_
      refine lv_iconst (v := 4) hx hb dX10_error_35 (by decide) ?_
      refine lv_icmp_ge (tgt := 53) hx hb dX10_error_36 (by decide) (fun c17 => ?_) (fun c17 => ?_)
      · have h := ite_t c17 h
        refine lv_bipush (v := 24) hx hb dX10_error_53 (by decide) ?_
        refine lv_istore (lv' := [(5, .int 24), (0, .ref (ad 0)), (1, .int a1), (2, .int a2), (3, .int a3), (4, .int x4)]) hx hb dX10_error_55 hl (by decide) rfl (fun ls hl => ?_)
        exact n57 FU x4 24 σ _ _ hP hD hS _ (lv_sub hl [1, 2, 3, 4, 5, 0] rfl) h
      · have h := ite_f c17 h
        refine lv_aload_n hx hb dX10_error_39 rfl (lv_at hl 0 rfl) ?_
        refine va_get (ci := 8) (v := .ref (ad 17)) (C := RX10) (T := TX10) (N := 42) hx hb hts hinX10 hown hK hP 0 rfl rfl 30 (by decide) fl1 (fun _ h9 => h9) rfl dX10_error_40 ?_
        refine lv_iload hx hb dX10_error_43 (lv_at hl 5 rfl) ?_
        refine lv_iconst (v := 0) hx hb dX10_error_45 (by decide) ?_
        obtain ⟨hin18, h⟩ := gd_e h
        obtain ⟨σ19, eσ19, h⟩ := lt_e h
        refine va_iast hx hb hK hP hD hS 17 0 rfl rfl hin18 dX10_error_46 (fun H locs hP1 hD1 hS => ?_)
        have hP : va_P D vwCl (wdX10 cI cZ cB ad w σ19) H := by rw [eσ19]; exact hP1
        have hD : va_D A (wdX10 cI cZ cB ad w σ19) := D_of (by rfl) hD
        obtain ⟨x5_20, ex5_20, h⟩ := lt_e h
        refine lv_iinc (v := x5_20) (lv' := [(5, .int x5_20), (0, .ref (ad 0)), (1, .int a1), (2, .int a2), (3, .int a3), (4, .int x4)]) hx hb dX10_error_47 hl (k := 5) rfl (by rw [ex5_20]; rfl) (by decide) rfl (fun ls hl => ?_)
        refine lv_goto (tgt := 33) hx hb dX10_error_50 (by decide) ?_
        exact ih33 x4 x5_20 σ19 _ _ hP hD hS _ (lv_sub hl [1, 2, 3, 4, 5, 0] rfl) h
  rw [X10_error] at h
  have hS := hS
  refine lv_aload_n hx hb dX10_error_0 rfl (lv_at hl 0 rfl) ?_
  refine lv_iconst (v := 0) hx hb dX10_error_1 (by decide) ?_
  obtain ⟨σ21, eσ21, h⟩ := lt_e h
  refine va_put (ci := 8) (v := .int 0) (ty := .int) (C := RX10) (T := TX10) (N := 42) hx hb hts hinX10 tyX10 tyX10_ok nmX10 hown hK hP hD hS 0 rfl rfl 0 (by decide) fl3 (fun _ h9 => h9) rfl (by decide +kernel) rfl rfl (Nat.le_of_ble_eq_true rfl) dX10_error_2 (fun H locs hP1 hD1 hS => ?_)
  have hP : va_P D vwCl (wdX10 cI cZ cB ad w σ21) H := by rw [eσ21]; exact hP1
  have hD : va_D A (wdX10 cI cZ cB ad w σ21) := D_of (by rfl) hD
  refine lv_aload_n hx hb dX10_error_5 rfl (lv_at hl 0 rfl) ?_
  refine lv_iload_n hx hb dX10_error_6 rfl (lv_at hl 1 rfl) ?_
  obtain ⟨r22, hr22, h⟩ := bd_e h
  refine cl_RV (rest := []) (ci := 8) (q0 := 0) ⟨hx, hb, hml, hown, hts⟩ (mX10_isItem l D cI cZ cB ad w σ21 a1 r22 hr22) (cwV 1 hts gX10_error_X10_isItem rfl rfl rfl (by decide +kernel) ⟨Nat.le_of_ble_eq_true rfl, Nat.le_of_ble_eq_true rfl⟩) hK hP rfl rfl rfl rfl hl.1 rfl (Nat.le_of_ble_eq_true rfl) dX10_error_7 ⟨Nat.zero_le _, Nat.zero_le _⟩ ?_
  refine W.eq (g2 := F0 m 10 ls [.int r22]) rfl ?_
  refine lv_if_eq (tgt := 25) hx hb dX10_error_10 (by decide) (fun c23 => ?_) (fun c23 => ?_)
  · have h := ite_t c23 h
    refine lv_iconst (v := 0) hx hb dX10_error_25 (by decide) ?_
    exact hR (some (.int 0)) (wdX10 cI cZ cB ad w σ21) _ _ _ _ (by rw [← Option.some.inj h]) (by rw [← Option.some.inj h]) nb0 dX10_error_26 hP hS
  · have h := ite_f c23 h
    refine lv_iload_n hx hb dX10_error_13 rfl (lv_at hl 2 rfl) ?_
    refine lv_iconst (v := 1) hx hb dX10_error_14 (by decide) ?_
    refine lv_icmp_lt (tgt := 25) hx hb dX10_error_15 (by decide) (fun c24 => ?_) (fun c24 => ?_)
    · have h := ite_t c24 h
      refine lv_iconst (v := 0) hx hb dX10_error_25 (by decide) ?_
      exact hR (some (.int 0)) (wdX10 cI cZ cB ad w σ21) _ _ _ _ (by rw [← Option.some.inj h]) (by rw [← Option.some.inj h]) nb0 dX10_error_26 hP hS
    · have h := ite_f c24 h
      refine lv_iload_n hx hb dX10_error_18 rfl (lv_at hl 2 rfl) ?_
      refine lv_sipush (v := 999) hx hb dX10_error_19 (by decide) ?_
      refine lv_icmp_le (tgt := 27) hx hb dX10_error_22 (by decide) (fun c25 => ?_) (fun c25 => ?_)
      · have h := ite_t c25 h
        refine lv_iconst (v := 0) hx hb dX10_error_27 (by decide) ?_
        refine lv_istore (lv' := [(4, .int 0), (0, .ref (ad 0)), (1, .int a1), (2, .int a2), (3, .int a3)]) hx hb dX10_error_28 hl (by decide) rfl (fun ls hl => ?_)
        refine lv_iconst (v := 0) hx hb dX10_error_30 (by decide) ?_
        refine lv_istore (lv' := [(5, .int 0), (4, .int 0), (0, .ref (ad 0)), (1, .int a1), (2, .int a2), (3, .int a3)]) hx hb dX10_error_31 hl (by decide) rfl (fun ls hl => ?_)
        exact n33 FU 0 0 σ21 _ _ hP hD hS _ (lv_sub hl [2, 3, 4, 5, 1, 0] rfl) h
      · have h := ite_f c25 h
        refine lv_iconst (v := 0) hx hb dX10_error_25 (by decide) ?_
        exact hR (some (.int 0)) (wdX10 cI cZ cB ad w σ21) _ _ _ _ (by rw [← Option.some.inj h]) (by rw [← Option.some.inj h]) nb0 dX10_error_26 hP hS
set_option maxHeartbeats 4000000 in
set_option maxRecDepth 100000 in
theorem mX10_error (l : Launch) (D : va_G) (cI cZ cB : ClassId) (ad : Nat → Nat) (w : Int64) (σ : Mem) (sz : Nat) (a1 : Int32) (a2 : Int32) (a3 : Int32) (res : Int32 × Mem) (h : X10_error a1 a2 a3 σ = some res) : Met l yX10_error wsX10_error rmX10_error (pW D cI cZ cB (wdX10 cI cZ cB ad w σ) sz [.ref (ad 0), .int a1, .int a2, .int a3]) (qW D (some (.int res.1)) (wdX10 cI cZ cB ad w res.2) (va_A (wdX10 cI cZ cB ad w σ) sz)) 0 0 (va_A (wdX10 cI cZ cB ad w σ) sz) := (bX10_error l D cI cZ cB ad w σ a1 a2 a3 res h).met (by decide +kernel) rfl (Nat.le_of_ble_eq_true rfl)
def rmX10_undo : Room := { frames := 1, cells := 0, slots := 0, locals := 22 }
set_option maxHeartbeats 4000000 in
set_option maxRecDepth 100000 in
theorem bX10_undo (l : Launch) (D : va_G) (cI cZ cB : ClassId) (ad : Nat → Nat) (w : Int64) (σ : Mem) (res : Int32 × Mem) (h : X10_undo σ = some res) : BW l yX10_undo wsX10_undo rmX10_undo cX10_undo 4 (some .boolean) D cI cZ cB (wdX10 cI cZ cB ad w σ) [.ref (ad 0)] (some (.int res.1)) (wdX10 cI cZ cB ad w res.2) := by
  intro p e s m args below meth c ls Q A hx hb hml hts hown hK hA hP hD hS hl0 hR
  have hinX10 : ∀ w ∈ u_ws RX10 TX10 42, w ∈ wsX10_undo := (fun _ h => List.mem_cons_of_mem _ (List.mem_append_right _ h))
  have fl1 := hts (.fieldLink RX10 157 "LawNumbererModel" "items" "I") (by decide +kernel)
  have fl2 := hts (.fieldLink RX10 43 "LawNumbererModel" "order" "[I") (by decide +kernel)
  have fl3 := hts (.fieldLink RX10 59 "LawNumbererModel" "actKind" "[I") (by decide +kernel)
  have fl4 := hts (.fieldLink RX10 163 "LawNumbererModel" "acts" "I") (by decide +kernel)
  have fl5 := hts (.fieldLink RX10 86 "LawNumbererModel" "thrown" "I") (by decide +kernel)
  have fl6 := hts (.fieldLink RX10 65 "LawNumbererModel" "actFrom" "[I") (by decide +kernel)
  have fl7 := hts (.fieldLink RX10 160 "LawNumbererModel" "changes" "I") (by decide +kernel)
  have fl8 := hts (.fieldLink RX10 62 "LawNumbererModel" "actItem" "[I") (by decide +kernel)
  have fl9 := hts (.fieldLink RX10 46 "LawNumbererModel" "struck" "[Z") (by decide +kernel)
  have hl : lv_has ls 4 [(0, .ref (ad 0))] := hl0
  have n99 : ∀ (n : Nat) (x3 : Int32) (σ : Mem) (H : Heap) (locs : List Loc), va_P D vwCl (wdX10 cI cZ cB ad w σ) H → va_D A (wdX10 cI cZ cB ad w σ) → va_S A s.heap H locs → ∀ (ls : Array Slot), lv_has ls 4 [(0, .ref (ad 0)), (3, .int x3)] → X10_undo_99 n x3 σ = some res → W p l e rmX10_undo s m args below meth c H locs 0 0 Q (F0 m 99 ls []) := by
    intro n
    induction n with
    | zero =>
      intro x3 σ H locs hP hD hS ls hl h
      rw [X10_undo_99] at h
      cases h
    | succ n_99 ih99 =>
      intro x3 σ H locs hP hD hS ls hl h
      rw [X10_undo_99] at h
      refine lv_iload_n hx hb dX10_undo_99 rfl (lv_at hl 1 rfl) ?_
      refine lv_aload_n hx hb dX10_undo_100 rfl (lv_at hl 0 rfl) ?_
      refine va_get (ci := 8) (v := .int (σ 0 21)) (C := RX10) (T := TX10) (N := 42) hx hb hts hinX10 hown hK hP 0 rfl rfl 21 (by decide) fl1 (fun _ h9 => h9) rfl dX10_undo_101 ?_
      refine lv_icmp_ge (tgt := 127) hx hb dX10_undo_104 (by decide) (fun c1 => ?_) (fun c1 => ?_)
      · have h := ite_t c1 h
        refine lv_iconst (v := 1) hx hb dX10_undo_127 (by decide) ?_
        exact hR (some (.int 1)) (wdX10 cI cZ cB ad w σ) _ _ _ _ (by rw [← Option.some.inj h]) (by rw [← Option.some.inj h]) nb1 dX10_undo_128 hP hS
      · have h := ite_f c1 h
        refine lv_aload_n hx hb dX10_undo_107 rfl (lv_at hl 0 rfl) ?_
        refine va_get (ci := 8) (v := .ref (ad 9)) (C := RX10) (T := TX10) (N := 42) hx hb hts hinX10 hown hK hP 0 rfl rfl 19 (by decide) fl2 (fun _ h9 => h9) rfl dX10_undo_108 ?_
        refine lv_iload_n hx hb dX10_undo_111 rfl (lv_at hl 1 rfl) ?_
        refine lv_aload_n hx hb dX10_undo_112 rfl (lv_at hl 0 rfl) ?_
        refine va_get (ci := 8) (v := .ref (ad 9)) (C := RX10) (T := TX10) (N := 42) hx hb hts hinX10 hown hK hP 0 rfl rfl 19 (by decide) fl2 (fun _ h9 => h9) rfl dX10_undo_113 ?_
        refine lv_iload_n hx hb dX10_undo_116 rfl (lv_at hl 1 rfl) ?_
        refine lv_iconst (v := 1) hx hb dX10_undo_117 (by decide) ?_
        refine lv_iadd hx hb dX10_undo_118 ?_
        obtain ⟨hin2, h⟩ := gd_e h
        refine va_iald hx hb hK hP 9 0 rfl rfl hin2 dX10_undo_119 ?_
        obtain ⟨hin3, h⟩ := gd_e h
        obtain ⟨σ4, eσ4, h⟩ := lt_e h
        refine va_iast hx hb hK hP hD hS 9 0 rfl rfl hin3 dX10_undo_120 (fun H locs hP1 hD1 hS => ?_)
        have hP : va_P D vwCl (wdX10 cI cZ cB ad w σ4) H := by rw [eσ4]; exact hP1
        have hD : va_D A (wdX10 cI cZ cB ad w σ4) := D_of (by rfl) hD
        obtain ⟨x3_5, ex3_5, h⟩ := lt_e h
        refine lv_iinc (v := x3_5) (lv' := [(3, .int x3_5), (0, .ref (ad 0))]) hx hb dX10_undo_121 hl (k := 1) rfl (by rw [ex3_5]; rfl) (by decide) rfl (fun ls hl => ?_)
        refine lv_goto (tgt := 99) hx hb dX10_undo_124 (by decide) ?_
        exact ih99 x3_5 σ4 _ _ hP hD hS _ (lv_sub hl [1, 0] rfl) h
  have n67 : ∀ (x1 : Int32) (σ : Mem) (H : Heap) (locs : List Loc), va_P D vwCl (wdX10 cI cZ cB ad w σ) H → va_D A (wdX10 cI cZ cB ad w σ) → va_S A s.heap H locs → ∀ (ls : Array Slot), lv_has ls 4 [(0, .ref (ad 0)), (1, .int x1)] → X10_undo_67 x1 σ = some res → W p l e rmX10_undo s m args below meth c H locs 0 0 Q (F0 m 67 ls []) := by
    intro x1 σ H locs hP hD hS ls hl h
    rw [X10_undo_67] at h
    refine lv_aload_n hx hb dX10_undo_67 rfl (lv_at hl 0 rfl) ?_
    refine va_get (ci := 8) (v := .ref (ad 14)) (C := RX10) (T := TX10) (N := 42) hx hb hts hinX10 hown hK hP 0 rfl rfl 26 (by decide) fl3 (fun _ h9 => h9) rfl dX10_undo_68 ?_
    refine lv_aload_n hx hb dX10_undo_71 rfl (lv_at hl 0 rfl) ?_
    refine va_get (ci := 8) (v := .int (σ 0 29)) (C := RX10) (T := TX10) (N := 42) hx hb hts hinX10 hown hK hP 0 rfl rfl 29 (by decide) fl4 (fun _ h9 => h9) rfl dX10_undo_72 ?_
    obtain ⟨hin6, h⟩ := gd_e h
    refine va_iald hx hb hK hP 14 0 rfl rfl hin6 dX10_undo_75 ?_
    refine lv_if_eq (tgt := 81) hx hb dX10_undo_76 (by decide) (fun c7 => ?_) (fun c7 => ?_)
    · have h := ite_t c7 h
      refine lv_aload_n hx hb dX10_undo_81 rfl (lv_at hl 0 rfl) ?_
      refine lv_iload_n hx hb dX10_undo_82 rfl (lv_at hl 1 rfl) ?_
      obtain ⟨r8, hr8, h⟩ := bd_e h
      refine cl_RV (rest := []) (ci := 8) (q0 := 0) ⟨hx, hb, hml, hown, hts⟩ (mX10_placeOf l D cI cZ cB ad w σ x1 r8 hr8) (cwV 1 hts gX10_undo_X10_placeOf rfl rfl rfl (by decide +kernel) ⟨Nat.le_of_ble_eq_true rfl, Nat.le_of_ble_eq_true rfl⟩) hK hP rfl rfl rfl rfl hl.1 rfl (Nat.le_of_ble_eq_true rfl) dX10_undo_83 ⟨Nat.zero_le _, Nat.zero_le _⟩ ?_
      refine W.eq (g2 := F0 m 86 ls [.int r8]) rfl ?_
      refine lv_istore_n (lv' := [(2, .int r8), (0, .ref (ad 0)), (1, .int x1)]) hx hb dX10_undo_86 rfl hl (by decide) rfl (fun ls hl => ?_)
      refine lv_aload_n hx hb dX10_undo_87 rfl (lv_at hl 1 rfl) ?_
      refine lv_dup hx hb dX10_undo_88 rfl ?_
      refine va_get (ci := 8) (v := .int (σ 0 21)) (C := RX10) (T := TX10) (N := 42) hx hb hts hinX10 hown hK hP 0 rfl rfl 21 (by decide) fl1 (fun _ h9 => h9) rfl dX10_undo_89 ?_
      refine lv_iconst (v := 1) hx hb dX10_undo_92 (by decide) ?_
      refine lv_isub hx hb dX10_undo_93 ?_
      obtain ⟨σ9, eσ9, h⟩ := lt_e h
      refine va_put (ci := 8) (v := .int ((σ 0 21) - 1)) (ty := .int) (C := RX10) (T := TX10) (N := 42) hx hb hts hinX10 tyX10 tyX10_ok nmX10 hown hK hP hD hS 0 rfl rfl 21 (by decide) fl1 (fun _ h9 => h9) rfl (by decide +kernel) rfl rfl (Nat.le_of_ble_eq_true rfl) dX10_undo_94 (fun H locs hP1 hD1 hS => ?_)
      have hP : va_P D vwCl (wdX10 cI cZ cB ad w σ9) H := by rw [eσ9]; exact hP1
      have hD : va_D A (wdX10 cI cZ cB ad w σ9) := D_of (by rfl) hD
      refine lv_iload_n hx hb dX10_undo_97 rfl (lv_at hl 0 rfl) ?_
      refine lv_istore_n (lv' := [(3, .int r8), (2, .int r8), (0, .ref (ad 0)), (1, .int x1)]) hx hb dX10_undo_98 rfl hl (by decide) rfl (fun ls hl => ?_)
      exact n99 FU r8 σ9 _ _ hP hD hS _ (lv_sub hl [2, 0] rfl) h
    · have h := ite_f c7 h
      refine lv_iconst (v := 1) hx hb dX10_undo_79 (by decide) ?_
      exact hR (some (.int 1)) (wdX10 cI cZ cB ad w σ) _ _ _ _ (by rw [← Option.some.inj h]) (by rw [← Option.some.inj h]) nb1 dX10_undo_80 hP hS
  rw [X10_undo] at h
  have hS := hS
  refine lv_aload_n hx hb dX10_undo_0 rfl (lv_at hl 0 rfl) ?_
  refine lv_iconst (v := 0) hx hb dX10_undo_1 (by decide) ?_
  obtain ⟨σ10, eσ10, h⟩ := lt_e h
  refine va_put (ci := 8) (v := .int 0) (ty := .int) (C := RX10) (T := TX10) (N := 42) hx hb hts hinX10 tyX10 tyX10_ok nmX10 hown hK hP hD hS 0 rfl rfl 0 (by decide) fl5 (fun _ h9 => h9) rfl (by decide +kernel) rfl rfl (Nat.le_of_ble_eq_true rfl) dX10_undo_2 (fun H locs hP1 hD1 hS => ?_)
  have hP : va_P D vwCl (wdX10 cI cZ cB ad w σ10) H := by rw [eσ10]; exact hP1
  have hD : va_D A (wdX10 cI cZ cB ad w σ10) := D_of (by rfl) hD
  refine lv_aload_n hx hb dX10_undo_5 rfl (lv_at hl 0 rfl) ?_
  refine va_get (ci := 8) (v := .int (σ10 0 29)) (C := RX10) (T := TX10) (N := 42) hx hb hts hinX10 hown hK hP 0 rfl rfl 29 (by decide) fl4 (fun _ h9 => h9) rfl dX10_undo_6 ?_
  refine lv_if_ne (tgt := 14) hx hb dX10_undo_9 (by decide) (fun c11 => ?_) (fun c11 => ?_)
  · have h := ite_f c11 h
    refine lv_aload_n hx hb dX10_undo_14 rfl (lv_at hl 0 rfl) ?_
    refine lv_dup hx hb dX10_undo_15 rfl ?_
    refine va_get (ci := 8) (v := .int (σ10 0 29)) (C := RX10) (T := TX10) (N := 42) hx hb hts hinX10 hown hK hP 0 rfl rfl 29 (by decide) fl4 (fun _ h9 => h9) rfl dX10_undo_16 ?_
    refine lv_iconst (v := 1) hx hb dX10_undo_19 (by decide) ?_
    refine lv_isub hx hb dX10_undo_20 ?_
    obtain ⟨σ12, eσ12, h⟩ := lt_e h
    refine va_put (ci := 8) (v := .int ((σ10 0 29) - 1)) (ty := .int) (C := RX10) (T := TX10) (N := 42) hx hb hts hinX10 tyX10 tyX10_ok nmX10 hown hK hP hD hS 0 rfl rfl 29 (by decide) fl4 (fun _ h9 => h9) rfl (by decide +kernel) rfl rfl (Nat.le_of_ble_eq_true rfl) dX10_undo_21 (fun H locs hP1 hD1 hS => ?_)
    have hP : va_P D vwCl (wdX10 cI cZ cB ad w σ12) H := by rw [eσ12]; exact hP1
    have hD : va_D A (wdX10 cI cZ cB ad w σ12) := D_of (by rfl) hD
    refine lv_aload_n hx hb dX10_undo_24 rfl (lv_at hl 0 rfl) ?_
    refine lv_aload_n hx hb dX10_undo_25 rfl (lv_at hl 0 rfl) ?_
    refine va_get (ci := 8) (v := .ref (ad 16)) (C := RX10) (T := TX10) (N := 42) hx hb hts hinX10 hown hK hP 0 rfl rfl 28 (by decide) fl6 (fun _ h9 => h9) rfl dX10_undo_26 ?_
    refine lv_aload_n hx hb dX10_undo_29 rfl (lv_at hl 0 rfl) ?_
    refine va_get (ci := 8) (v := .int (σ12 0 29)) (C := RX10) (T := TX10) (N := 42) hx hb hts hinX10 hown hK hP 0 rfl rfl 29 (by decide) fl4 (fun _ h9 => h9) rfl dX10_undo_30 ?_
    obtain ⟨hin13, h⟩ := gd_e h
    refine va_iald hx hb hK hP 16 0 rfl rfl hin13 dX10_undo_33 ?_
    obtain ⟨σ14, eσ14, h⟩ := lt_e h
    refine va_put (ci := 8) (v := .int (σ12 16 (Int32.toNatClampNeg (σ12 0 29)))) (ty := .int) (C := RX10) (T := TX10) (N := 42) hx hb hts hinX10 tyX10 tyX10_ok nmX10 hown hK hP hD hS 0 rfl rfl 25 (by decide) fl7 (fun _ h9 => h9) rfl (by decide +kernel) rfl rfl (Nat.le_of_ble_eq_true rfl) dX10_undo_34 (fun H locs hP1 hD1 hS => ?_)
    have hP : va_P D vwCl (wdX10 cI cZ cB ad w σ14) H := by rw [eσ14]; exact hP1
    have hD : va_D A (wdX10 cI cZ cB ad w σ14) := D_of (by rfl) hD
    refine lv_aload_n hx hb dX10_undo_37 rfl (lv_at hl 0 rfl) ?_
    refine va_get (ci := 8) (v := .ref (ad 15)) (C := RX10) (T := TX10) (N := 42) hx hb hts hinX10 hown hK hP 0 rfl rfl 27 (by decide) fl8 (fun _ h9 => h9) rfl dX10_undo_38 ?_
    refine lv_aload_n hx hb dX10_undo_41 rfl (lv_at hl 0 rfl) ?_
    refine va_get (ci := 8) (v := .int (σ14 0 29)) (C := RX10) (T := TX10) (N := 42) hx hb hts hinX10 hown hK hP 0 rfl rfl 29 (by decide) fl4 (fun _ h9 => h9) rfl dX10_undo_42 ?_
    obtain ⟨hin15, h⟩ := gd_e h
    refine va_iald hx hb hK hP 15 0 rfl rfl hin15 dX10_undo_45 ?_
    obtain ⟨x1_16, ex1_16, h⟩ := lt_e h
    refine lv_topE ex1_16 ?_
    refine lv_istore_n (lv' := [(1, .int x1_16), (0, .ref (ad 0))]) hx hb dX10_undo_46 rfl hl (by decide) rfl (fun ls hl => ?_)
    refine lv_aload_n hx hb dX10_undo_47 rfl (lv_at hl 1 rfl) ?_
    refine va_get (ci := 8) (v := .ref (ad 14)) (C := RX10) (T := TX10) (N := 42) hx hb hts hinX10 hown hK hP 0 rfl rfl 26 (by decide) fl3 (fun _ h9 => h9) rfl dX10_undo_48 ?_
    refine lv_aload_n hx hb dX10_undo_51 rfl (lv_at hl 1 rfl) ?_
    refine va_get (ci := 8) (v := .int (σ14 0 29)) (C := RX10) (T := TX10) (N := 42) hx hb hts hinX10 hown hK hP 0 rfl rfl 29 (by decide) fl4 (fun _ h9 => h9) rfl dX10_undo_52 ?_
    obtain ⟨hin17, h⟩ := gd_e h
    refine va_iald hx hb hK hP 14 0 rfl rfl hin17 dX10_undo_55 ?_
    refine lv_iconst (v := 1) hx hb dX10_undo_56 (by decide) ?_
    refine lv_icmp_ne (tgt := 67) hx hb dX10_undo_57 (by decide) (fun c18 => ?_) (fun c18 => ?_)
    · have h := ite_f c18 h
      exact n67 x1_16 σ14 _ _ hP hD hS _ (lv_sub hl [1, 0] rfl) h
    · have h := ite_t c18 h
      refine lv_aload_n hx hb dX10_undo_60 rfl (lv_at hl 1 rfl) ?_
      refine va_get (ci := 8) (v := .ref (ad 10)) (C := RX10) (T := TX10) (N := 42) hx hb hts hinX10 hown hK hP 0 rfl rfl 20 (by decide) fl9 (fun _ h9 => h9) rfl dX10_undo_61 ?_
      refine lv_iload_n hx hb dX10_undo_64 rfl (lv_at hl 0 rfl) ?_
      refine lv_iconst (v := 0) hx hb dX10_undo_65 (by decide) ?_
      obtain ⟨hin19, h⟩ := gd_e h
      obtain ⟨σ20, eσ20, h⟩ := lt_e h
      refine va_zast hx hb hK hP hD hS 10 1 rfl rfl hin19 dX10_undo_66 (fun H locs hP1 hD1 hS => ?_)
      have hP : va_P D vwCl (wdX10 cI cZ cB ad w σ20) H := by rw [eσ20]; exact hP1
      have hD : va_D A (wdX10 cI cZ cB ad w σ20) := D_of (by rfl) hD
      exact n67 x1_16 σ20 _ _ hP hD hS _ (lv_sub hl [1, 0] rfl) h
  · have h := ite_t c11 h
    refine lv_iconst (v := 0) hx hb dX10_undo_12 (by decide) ?_
    exact hR (some (.int 0)) (wdX10 cI cZ cB ad w σ10) _ _ _ _ (by rw [← Option.some.inj h]) (by rw [← Option.some.inj h]) nb0 dX10_undo_13 hP hS
set_option maxHeartbeats 4000000 in
set_option maxRecDepth 100000 in
theorem mX10_undo (l : Launch) (D : va_G) (cI cZ cB : ClassId) (ad : Nat → Nat) (w : Int64) (σ : Mem) (sz : Nat) (res : Int32 × Mem) (h : X10_undo σ = some res) : Met l yX10_undo wsX10_undo rmX10_undo (pW D cI cZ cB (wdX10 cI cZ cB ad w σ) sz [.ref (ad 0)]) (qW D (some (.int res.1)) (wdX10 cI cZ cB ad w res.2) (va_A (wdX10 cI cZ cB ad w σ) sz)) 0 0 (va_A (wdX10 cI cZ cB ad w σ) sz) := (bX10_undo l D cI cZ cB ad w σ res h).met (by decide +kernel) rfl (Nat.le_of_ble_eq_true rfl)
def rmX10_wait : Room := { frames := 0, cells := 0, slots := 0, locals := 0 }
set_option maxHeartbeats 4000000 in
set_option maxRecDepth 100000 in
theorem bX10_wait (l : Launch) (D : va_G) (cI cZ cB : ClassId) (ad : Nat → Nat) (w : Int64) (σ : Mem) (a1 : Int32) (res : Int32 × Mem) (h : X10_wait a1 σ = some res) : BW l yX10_wait wsX10_wait rmX10_wait cX10_wait 2 (some .boolean) D cI cZ cB (wdX10 cI cZ cB ad w σ) [.ref (ad 0), .int a1] (some (.int res.1)) (wdX10 cI cZ cB ad w res.2) := by
  intro p e s m args below meth c ls Q A hx hb hml hts hown hK hA hP hD hS hl0 hR
  have hinX10 : ∀ w ∈ u_ws RX10 TX10 42, w ∈ wsX10_wait := (fun _ h => List.mem_cons_of_mem _ (List.mem_append_right _ h))
  have fl1 := hts (.fieldLink RX10 86 "LawNumbererModel" "thrown" "I") (by decide +kernel)
  have fl2 := hts (.fieldLink RX10 166 "LawNumbererModel" "day" "I") (by decide +kernel)
  have hl : lv_has ls 2 [(0, .ref (ad 0)), (1, .int a1)] := hl0
  rw [X10_wait] at h
  have hS := hS
  refine lv_aload_n hx hb dX10_wait_0 rfl (lv_at hl 0 rfl) ?_
  refine lv_iconst (v := 0) hx hb dX10_wait_1 (by decide) ?_
  obtain ⟨σ1, eσ1, h⟩ := lt_e h
  refine va_put (ci := 8) (v := .int 0) (ty := .int) (C := RX10) (T := TX10) (N := 42) hx hb hts hinX10 tyX10 tyX10_ok nmX10 hown hK hP hD hS 0 rfl rfl 0 (by decide) fl1 (fun _ h9 => h9) rfl (by decide +kernel) rfl rfl (Nat.le_of_ble_eq_true rfl) dX10_wait_2 (fun H locs hP1 hD1 hS => ?_)
  have hP : va_P D vwCl (wdX10 cI cZ cB ad w σ1) H := by rw [eσ1]; exact hP1
  have hD : va_D A (wdX10 cI cZ cB ad w σ1) := D_of (by rfl) hD
  refine lv_iload_n hx hb dX10_wait_5 rfl (lv_at hl 1 rfl) ?_
  refine lv_if_lt (tgt := 28) hx hb dX10_wait_6 (by decide) (fun c2 => ?_) (fun c2 => ?_)
  · have h := ite_t c2 h
    refine lv_iconst (v := 0) hx hb dX10_wait_28 (by decide) ?_
    exact hR (some (.int 0)) (wdX10 cI cZ cB ad w σ1) _ _ _ _ (by rw [← Option.some.inj h]) (by rw [← Option.some.inj h]) nb0 dX10_wait_29 hP hS
  · have h := ite_f c2 h
    refine lv_iload_n hx hb dX10_wait_9 rfl (lv_at hl 1 rfl) ?_
    refine lv_sipush (v := 1000) hx hb dX10_wait_10 (by decide) ?_
    refine lv_icmp_gt (tgt := 28) hx hb dX10_wait_13 (by decide) (fun c3 => ?_) (fun c3 => ?_)
    · have h := ite_t c3 h
      refine lv_iconst (v := 0) hx hb dX10_wait_28 (by decide) ?_
      exact hR (some (.int 0)) (wdX10 cI cZ cB ad w σ1) _ _ _ _ (by rw [← Option.some.inj h]) (by rw [← Option.some.inj h]) nb0 dX10_wait_29 hP hS
    · have h := ite_f c3 h
      refine lv_aload_n hx hb dX10_wait_16 rfl (lv_at hl 0 rfl) ?_
      refine va_get (ci := 8) (v := .int (σ1 0 11)) (C := RX10) (T := TX10) (N := 42) hx hb hts hinX10 hown hK hP 0 rfl rfl 11 (by decide) fl2 (fun _ h9 => h9) rfl dX10_wait_17 ?_
      refine lv_iload_n hx hb dX10_wait_20 rfl (lv_at hl 1 rfl) ?_
      refine lv_iadd hx hb dX10_wait_21 ?_
      refine lv_sipush (v := 9999) hx hb dX10_wait_22 (by decide) ?_
      refine lv_icmp_le (tgt := 30) hx hb dX10_wait_25 (by decide) (fun c4 => ?_) (fun c4 => ?_)
      · have h := ite_t c4 h
        refine lv_aload_n hx hb dX10_wait_30 rfl (lv_at hl 0 rfl) ?_
        refine lv_dup hx hb dX10_wait_31 rfl ?_
        refine va_get (ci := 8) (v := .int (σ1 0 11)) (C := RX10) (T := TX10) (N := 42) hx hb hts hinX10 hown hK hP 0 rfl rfl 11 (by decide) fl2 (fun _ h9 => h9) rfl dX10_wait_32 ?_
        refine lv_iload_n hx hb dX10_wait_35 rfl (lv_at hl 1 rfl) ?_
        refine lv_iadd hx hb dX10_wait_36 ?_
        obtain ⟨σ5, eσ5, h⟩ := lt_e h
        refine va_put (ci := 8) (v := .int ((σ1 0 11) + a1)) (ty := .int) (C := RX10) (T := TX10) (N := 42) hx hb hts hinX10 tyX10 tyX10_ok nmX10 hown hK hP hD hS 0 rfl rfl 11 (by decide) fl2 (fun _ h9 => h9) rfl (by decide +kernel) rfl rfl (Nat.le_of_ble_eq_true rfl) dX10_wait_37 (fun H locs hP1 hD1 hS => ?_)
        have hP : va_P D vwCl (wdX10 cI cZ cB ad w σ5) H := by rw [eσ5]; exact hP1
        have hD : va_D A (wdX10 cI cZ cB ad w σ5) := D_of (by rfl) hD
        refine lv_iconst (v := 1) hx hb dX10_wait_40 (by decide) ?_
        exact hR (some (.int 1)) (wdX10 cI cZ cB ad w σ5) _ _ _ _ (by rw [← Option.some.inj h]) (by rw [← Option.some.inj h]) nb1 dX10_wait_41 hP hS
      · have h := ite_f c4 h
        refine lv_iconst (v := 0) hx hb dX10_wait_28 (by decide) ?_
        exact hR (some (.int 0)) (wdX10 cI cZ cB ad w σ1) _ _ _ _ (by rw [← Option.some.inj h]) (by rw [← Option.some.inj h]) nb0 dX10_wait_29 hP hS
set_option maxHeartbeats 4000000 in
set_option maxRecDepth 100000 in
theorem mX10_wait (l : Launch) (D : va_G) (cI cZ cB : ClassId) (ad : Nat → Nat) (w : Int64) (σ : Mem) (sz : Nat) (a1 : Int32) (res : Int32 × Mem) (h : X10_wait a1 σ = some res) : Met l yX10_wait wsX10_wait rmX10_wait (pW D cI cZ cB (wdX10 cI cZ cB ad w σ) sz [.ref (ad 0), .int a1]) (qW D (some (.int res.1)) (wdX10 cI cZ cB ad w res.2) (va_A (wdX10 cI cZ cB ad w σ) sz)) 0 0 (va_A (wdX10 cI cZ cB ad w σ) sz) := (bX10_wait l D cI cZ cB ad w σ a1 res h).met (by decide +kernel) rfl (Nat.le_of_ble_eq_true rfl)
def rmX10_about : Room := { frames := 1, cells := 0, slots := 0, locals := 22 }
set_option maxHeartbeats 4000000 in
set_option maxRecDepth 100000 in
theorem bX10_about (l : Launch) (D : va_G) (cI cZ cB : ClassId) (ad : Nat → Nat) (w : Int64) (σ : Mem) (a1 : Int32) (a2 : Int32) (res : Int32 × Mem) (h : X10_about a1 a2 σ = some res) : BW l yX10_about wsX10_about rmX10_about cX10_about 5 (some .int) D cI cZ cB (wdX10 cI cZ cB ad w σ) [.ref (ad 0), .int a1, .int a2] (some (.int res.1)) (wdX10 cI cZ cB ad w res.2) := by
  intro p e s m args below meth c ls Q A hx hb hml hts hown hK hA hP hD hS hl0 hR
  have hinX10 : ∀ w ∈ u_ws RX10 TX10 42, w ∈ wsX10_about := (fun _ h => List.mem_cons_of_mem _ (List.mem_append_right _ h))
  have fl1 := hts (.fieldLink RX10 43 "LawNumbererModel" "order" "[I") (by decide +kernel)
  have fl2 := hts (.fieldLink RX10 34 "LawNumbererModel" "level" "[I") (by decide +kernel)
  have fl3 := hts (.fieldLink RX10 37 "LawNumbererModel" "up" "[I") (by decide +kernel)
  have fl4 := hts (.fieldLink RX10 46 "LawNumbererModel" "struck" "[Z") (by decide +kernel)
  have fl5 := hts (.fieldLink RX10 40 "LawNumbererModel" "came" "[I") (by decide +kernel)
  have hl : lv_has ls 5 [(0, .ref (ad 0)), (1, .int a1), (2, .int a2)] := hl0
  have n100 : ∀ (n : Nat) (x3 : Int32) (x4 : Int32) (σ : Mem) (H : Heap) (locs : List Loc), va_P D vwCl (wdX10 cI cZ cB ad w σ) H → va_D A (wdX10 cI cZ cB ad w σ) → va_S A s.heap H locs → ∀ (ls : Array Slot), lv_has ls 5 [(0, .ref (ad 0)), (1, .int a1), (3, .int x3), (4, .int x4)] → X10_about_100 a1 a2 n x3 x4 σ = some res → W p l e rmX10_about s m args below meth c H locs 0 0 Q (F0 m 100 ls []) := by
    intro n
    induction n with
    | zero =>
      intro x3 x4 σ H locs hP hD hS ls hl h
      rw [X10_about_100] at h
      cases h
    | succ n_100 ih100 =>
      intro x3 x4 σ H locs hP hD hS ls hl h
      rw [X10_about_100] at h
      refine lv_iload hx hb dX10_about_100 (lv_at hl 3 rfl) ?_
      refine lv_aload_n hx hb dX10_about_102 rfl (lv_at hl 0 rfl) ?_
      refine lv_iload_n hx hb dX10_about_103 rfl (lv_at hl 1 rfl) ?_
      obtain ⟨r1, hr1, h⟩ := bd_e h
      refine cl_RV (rest := [.int x4]) (ci := 8) (q0 := 0) ⟨hx, hb, hml, hown, hts⟩ (mX10_placeOf l D cI cZ cB ad w σ a1 r1 hr1) (cwV 1 hts gX10_about_X10_placeOf rfl rfl rfl (by decide +kernel) ⟨Nat.le_of_ble_eq_true rfl, Nat.le_of_ble_eq_true rfl⟩) hK hP rfl rfl rfl rfl hl.1 rfl (Nat.le_of_ble_eq_true rfl) dX10_about_104 ⟨Nat.zero_le _, Nat.zero_le _⟩ ?_
      refine W.eq (g2 := F0 m 107 ls [.int r1, .int x4]) rfl ?_
      refine lv_icmp_ge (tgt := 139) hx hb dX10_about_107 (by decide) (fun c2 => ?_) (fun c2 => ?_)
      · have h := ite_t c2 h
        refine lv_iload_n hx hb dX10_about_139 rfl (lv_at hl 2 rfl) ?_
        exact hR (some (.int x3)) (wdX10 cI cZ cB ad w σ) _ _ _ _ (by rw [← Option.some.inj h]) (by rw [← Option.some.inj h]) rfl dX10_about_140 hP hS
      · have h := ite_f c2 h
        refine lv_iload_n hx hb dX10_about_110 rfl (lv_at hl 2 rfl) ?_
        refine lv_aload_n hx hb dX10_about_111 rfl (lv_at hl 0 rfl) ?_
        refine lv_aload_n hx hb dX10_about_112 rfl (lv_at hl 0 rfl) ?_
        refine va_get (ci := 8) (v := .ref (ad 9)) (C := RX10) (T := TX10) (N := 42) hx hb hts hinX10 hown hK hP 0 rfl rfl 19 (by decide) fl1 (fun _ h9 => h9) rfl dX10_about_113 ?_
        refine lv_iload hx hb dX10_about_116 (lv_at hl 3 rfl) ?_
        obtain ⟨hin3, h⟩ := gd_e h
        refine va_iald hx hb hK hP 9 0 rfl rfl hin3 dX10_about_118 ?_
        refine lv_iload_n hx hb dX10_about_119 rfl (lv_at hl 1 rfl) ?_
        obtain ⟨r4, hr4, h⟩ := bd_e h
        refine cl_RV (rest := [.int x3]) (ci := 8) (q0 := 0) ⟨hx, hb, hml, hown, hts⟩ (mX10_isInRow l D cI cZ cB ad w σ (σ 9 (Int32.toNatClampNeg x4)) a1 r4 hr4) (cwV 2 hts gX10_about_X10_isInRow rfl rfl rfl (by decide +kernel) ⟨Nat.le_of_ble_eq_true rfl, Nat.le_of_ble_eq_true rfl⟩) hK hP rfl rfl rfl rfl hl.1 rfl (Nat.le_of_ble_eq_true rfl) dX10_about_120 ⟨Nat.zero_le _, Nat.zero_le _⟩ ?_
        refine W.eq (g2 := F0 m 123 ls [.int r4, .int x3]) rfl ?_
        refine lv_if_eq (tgt := 130) hx hb dX10_about_123 (by decide) (fun c5 => ?_) (fun c5 => ?_)
        · have h := ite_t c5 h
          refine lv_iconst (v := 0) hx hb dX10_about_130 (by decide) ?_
          refine lv_iadd hx hb dX10_about_131 ?_
          obtain ⟨x3_6, ex3_6, h⟩ := lt_e h
          refine lv_topE ex3_6 ?_
          refine lv_istore_n (lv' := [(3, .int x3_6), (0, .ref (ad 0)), (1, .int a1), (4, .int x4)]) hx hb dX10_about_132 rfl hl (by decide) rfl (fun ls hl => ?_)
          obtain ⟨x4_7, ex4_7, h⟩ := lt_e h
          refine lv_iinc (v := x4_7) (lv' := [(4, .int x4_7), (3, .int x3_6), (0, .ref (ad 0)), (1, .int a1)]) hx hb dX10_about_133 hl (k := 3) rfl (by rw [ex4_7]; rfl) (by decide) rfl (fun ls hl => ?_)
          refine lv_goto (tgt := 100) hx hb dX10_about_136 (by decide) ?_
          exact ih100 x3_6 x4_7 σ _ _ hP hD hS _ (lv_sub hl [2, 3, 1, 0] rfl) h
        · have h := ite_f c5 h
          refine lv_iconst (v := 1) hx hb dX10_about_126 (by decide) ?_
          refine lv_goto (tgt := 131) hx hb dX10_about_127 (by decide) ?_
          refine lv_iadd hx hb dX10_about_131 ?_
          obtain ⟨x3_8, ex3_8, h⟩ := lt_e h
          refine lv_topE ex3_8 ?_
          refine lv_istore_n (lv' := [(3, .int x3_8), (0, .ref (ad 0)), (1, .int a1), (4, .int x4)]) hx hb dX10_about_132 rfl hl (by decide) rfl (fun ls hl => ?_)
          obtain ⟨x4_9, ex4_9, h⟩ := lt_e h
          refine lv_iinc (v := x4_9) (lv' := [(4, .int x4_9), (3, .int x3_8), (0, .ref (ad 0)), (1, .int a1)]) hx hb dX10_about_133 hl (k := 3) rfl (by rw [ex4_9]; rfl) (by decide) rfl (fun ls hl => ?_)
          refine lv_goto (tgt := 100) hx hb dX10_about_136 (by decide) ?_
          exact ih100 x3_8 x4_9 σ _ _ hP hD hS _ (lv_sub hl [2, 3, 1, 0] rfl) h
  have n23 : ∀ (y1 : Int32) (σ : Mem) (H : Heap) (locs : List Loc), va_P D vwCl (wdX10 cI cZ cB ad w σ) H → va_D A (wdX10 cI cZ cB ad w σ) → va_S A s.heap H locs → ∀ (ls : Array Slot), lv_has ls 5 [(0, .ref (ad 0)), (1, .int a1), (2, .int a2)] → X10_about_23 a1 a2 y1 σ = some res → W p l e rmX10_about s m args below meth c H locs 0 0 Q (F0 m 23 ls [.int y1, .ref (ad 0)]) := by
    intro y1 σ H locs hP hD hS ls hl h
    rw [X10_about_23] at h
    obtain ⟨r10, hr10, h⟩ := bd_e h
    obtain ⟨σ11, eσ11, h⟩ := lt_e h
    refine cl_WVs (rest := []) (wn := (wdX10 cI cZ cB ad w σ11)) (ci := 8) (q0 := 0) ⟨hx, hb, hml, hown, hts⟩ (mX10_throwsIf l D cI cZ cB ad w σ H.size y1 r10 hr10) (cwV 1 hts gX10_about_X10_throwsIf rfl rfl rfl (by decide +kernel) ⟨Nat.le_of_ble_eq_true rfl, Nat.le_of_ble_eq_true rfl⟩) hK hP hD hS hA (by rw [eσ11]) rfl rfl rfl rfl rfl hl.1 rfl (Nat.le_of_ble_eq_true rfl) dX10_about_23 ⟨Nat.zero_le _, Nat.zero_le _⟩ (fun H locs hP hD hS => ?_)
    refine W.eq (g2 := F0 m 26 ls [.int r10.1]) rfl ?_
    refine lv_if_eq (tgt := 31) hx hb dX10_about_26 (by decide) (fun c12 => ?_) (fun c12 => ?_)
    · have h := ite_t c12 h
      refine lv_iconst (v := 0) hx hb dX10_about_31 (by decide) ?_
      refine lv_istore_n (lv' := [(3, .int 0), (0, .ref (ad 0)), (1, .int a1), (2, .int a2)]) hx hb dX10_about_32 rfl hl (by decide) rfl (fun ls hl => ?_)
      refine lv_iload_n hx hb dX10_about_33 rfl (lv_at hl 3 rfl) ?_
      by_cases c13 : a2 = 0
      · have h := ite_t c13 h
        refine lv_tableIn (tgt := 68) (off := 34) hx hb dX10_about_34 (by rw [c13]; decide) (by rw [c13]; decide) (by rw [c13]; rfl) (by decide) ?_
        refine lv_aload_n hx hb dX10_about_68 rfl (lv_at hl 1 rfl) ?_
        refine va_get (ci := 8) (v := .ref (ad 6)) (C := RX10) (T := TX10) (N := 42) hx hb hts hinX10 hown hK hP 0 rfl rfl 16 (by decide) fl2 (fun _ h9 => h9) rfl dX10_about_69 ?_
        refine lv_iload_n hx hb dX10_about_72 rfl (lv_at hl 2 rfl) ?_
        obtain ⟨hin14, h⟩ := gd_e h
        refine va_iald hx hb hK hP 6 0 rfl rfl hin14 dX10_about_73 ?_
        exact hR (some (.int (σ11 6 (Int32.toNatClampNeg a1)))) (wdX10 cI cZ cB ad w σ11) _ _ _ _ (by rw [← Option.some.inj h]) (by rw [← Option.some.inj h]) rfl dX10_about_74 hP hS
      have h := ite_f c13 h
      by_cases c15 : a2 = 1
      · have h := ite_t c15 h
        refine lv_tableIn (tgt := 75) (off := 41) hx hb dX10_about_34 (by rw [c15]; decide) (by rw [c15]; decide) (by rw [c15]; rfl) (by decide) ?_
        refine lv_aload_n hx hb dX10_about_75 rfl (lv_at hl 1 rfl) ?_
        refine va_get (ci := 8) (v := .ref (ad 7)) (C := RX10) (T := TX10) (N := 42) hx hb hts hinX10 hown hK hP 0 rfl rfl 17 (by decide) fl3 (fun _ h9 => h9) rfl dX10_about_76 ?_
        refine lv_iload_n hx hb dX10_about_79 rfl (lv_at hl 2 rfl) ?_
        obtain ⟨hin16, h⟩ := gd_e h
        refine va_iald hx hb hK hP 7 0 rfl rfl hin16 dX10_about_80 ?_
        exact hR (some (.int (σ11 7 (Int32.toNatClampNeg a1)))) (wdX10 cI cZ cB ad w σ11) _ _ _ _ (by rw [← Option.some.inj h]) (by rw [← Option.some.inj h]) rfl dX10_about_81 hP hS
      have h := ite_f c15 h
      by_cases c17 : a2 = 2
      · have h := ite_t c17 h
        refine lv_tableIn (tgt := 82) (off := 48) hx hb dX10_about_34 (by rw [c17]; decide) (by rw [c17]; decide) (by rw [c17]; rfl) (by decide) ?_
        refine lv_aload_n hx hb dX10_about_82 rfl (lv_at hl 1 rfl) ?_
        refine va_get (ci := 8) (v := .ref (ad 10)) (C := RX10) (T := TX10) (N := 42) hx hb hts hinX10 hown hK hP 0 rfl rfl 20 (by decide) fl4 (fun _ h9 => h9) rfl dX10_about_83 ?_
        refine lv_iload_n hx hb dX10_about_86 rfl (lv_at hl 2 rfl) ?_
        obtain ⟨hin18, h⟩ := gd_e h
        refine va_zald hx hb hK hP 10 1 rfl rfl hin18 dX10_about_87 ?_
        refine lv_if_eq (tgt := 95) hx hb dX10_about_88 (by decide) (fun c19 => ?_) (fun c19 => ?_)
        · have h := ite_t c19 h
          refine lv_iconst (v := 0) hx hb dX10_about_95 (by decide) ?_
          exact hR (some (.int 0)) (wdX10 cI cZ cB ad w σ11) _ _ _ _ (by rw [← Option.some.inj h]) (by rw [← Option.some.inj h]) rfl dX10_about_96 hP hS
        · have h := ite_f c19 h
          refine lv_iconst (v := 1) hx hb dX10_about_91 (by decide) ?_
          refine lv_goto (tgt := 96) hx hb dX10_about_92 (by decide) ?_
          exact hR (some (.int 1)) (wdX10 cI cZ cB ad w σ11) _ _ _ _ (by rw [← Option.some.inj h]) (by rw [← Option.some.inj h]) rfl dX10_about_96 hP hS
      have h := ite_f c17 h
      by_cases c20 : a2 = 3
      · have h := ite_t c20 h
        refine lv_tableIn (tgt := 97) (off := 63) hx hb dX10_about_34 (by rw [c20]; decide) (by rw [c20]; decide) (by rw [c20]; rfl) (by decide) ?_
        refine lv_iconst (v := 0) hx hb dX10_about_97 (by decide) ?_
        refine lv_istore (lv' := [(4, .int 0), (3, .int 0), (0, .ref (ad 0)), (1, .int a1), (2, .int a2)]) hx hb dX10_about_98 hl (by decide) rfl (fun ls hl => ?_)
        exact n100 FU 0 0 σ11 _ _ hP hD hS _ (lv_sub hl [2, 3, 1, 0] rfl) h
      have h := ite_f c20 h
      by_cases c21 : a2 = 4
      · have h := ite_t c21 h
        refine lv_tableIn (tgt := 141) (off := 107) hx hb dX10_about_34 (by rw [c21]; decide) (by rw [c21]; decide) (by rw [c21]; rfl) (by decide) ?_
        refine lv_aload_n hx hb dX10_about_141 rfl (lv_at hl 1 rfl) ?_
        refine lv_iload_n hx hb dX10_about_142 rfl (lv_at hl 2 rfl) ?_
        obtain ⟨r22, hr22, h⟩ := bd_e h
        refine cl_RV (rest := []) (ci := 8) (q0 := 0) ⟨hx, hb, hml, hown, hts⟩ (mX10_placeOf l D cI cZ cB ad w σ11 a1 r22 hr22) (cwV 1 hts gX10_about_X10_placeOf rfl rfl rfl (by decide +kernel) ⟨Nat.le_of_ble_eq_true rfl, Nat.le_of_ble_eq_true rfl⟩) hK hP rfl rfl rfl rfl hl.1 rfl (Nat.le_of_ble_eq_true rfl) dX10_about_143 ⟨Nat.zero_le _, Nat.zero_le _⟩ ?_
        refine W.eq (g2 := F0 m 146 ls [.int r22]) rfl ?_
        exact hR (some (.int r22)) (wdX10 cI cZ cB ad w σ11) _ _ _ _ (by rw [← Option.some.inj h]) (by rw [← Option.some.inj h]) rfl dX10_about_146 hP hS
      have h := ite_f c21 h
      refine lv_tableOut (tgt := 147) hx hb dX10_about_34 (tb_out 0 4 (fun k h1 h2 => by
        rcases (show k = 0 ∨ k = 1 ∨ k = 2 ∨ k = 3 ∨ k = 4 by omega) with rfl | rfl | rfl | rfl | rfl
        · exact c13
        · exact c15
        · exact c17
        · exact c20
        · exact c21)) (by decide) ?_
      refine lv_aload_n hx hb dX10_about_147 rfl (lv_at hl 1 rfl) ?_
      refine va_get (ci := 8) (v := .ref (ad 8)) (C := RX10) (T := TX10) (N := 42) hx hb hts hinX10 hown hK hP 0 rfl rfl 18 (by decide) fl5 (fun _ h9 => h9) rfl dX10_about_148 ?_
      refine lv_iload_n hx hb dX10_about_151 rfl (lv_at hl 2 rfl) ?_
      obtain ⟨hin23, h⟩ := gd_e h
      refine va_iald hx hb hK hP 8 0 rfl rfl hin23 dX10_about_152 ?_
      exact hR (some (.int (σ11 8 (Int32.toNatClampNeg a1)))) (wdX10 cI cZ cB ad w σ11) _ _ _ _ (by rw [← Option.some.inj h]) (by rw [← Option.some.inj h]) rfl dX10_about_153 hP hS
    · have h := ite_f c12 h
      refine lv_iconst (v := 0) hx hb dX10_about_29 (by decide) ?_
      exact hR (some (.int 0)) (wdX10 cI cZ cB ad w σ11) _ _ _ _ (by rw [← Option.some.inj h]) (by rw [← Option.some.inj h]) rfl dX10_about_30 hP hS
  have n18 : ∀ (σ : Mem) (H : Heap) (locs : List Loc), va_P D vwCl (wdX10 cI cZ cB ad w σ) H → va_D A (wdX10 cI cZ cB ad w σ) → va_S A s.heap H locs → ∀ (ls : Array Slot), lv_has ls 5 [(0, .ref (ad 0)), (1, .int a1), (2, .int a2)] → X10_about_18 a1 a2 σ = some res → W p l e rmX10_about s m args below meth c H locs 0 0 Q (F0 m 18 ls [.ref (ad 0)]) := by
    intro σ H locs hP hD hS ls hl h
    rw [X10_about_18] at h
    refine lv_iconst (v := 1) hx hb dX10_about_18 (by decide) ?_
    refine lv_goto (tgt := 23) hx hb dX10_about_19 (by decide) ?_
    exact n23 1 σ _ _ hP hD hS _ (lv_sub hl [0, 1, 2] rfl) h
  rw [X10_about] at h
  have hS := hS
  refine lv_aload_n hx hb dX10_about_0 rfl (lv_at hl 0 rfl) ?_
  refine lv_aload_n hx hb dX10_about_1 rfl (lv_at hl 0 rfl) ?_
  refine lv_iload_n hx hb dX10_about_2 rfl (lv_at hl 1 rfl) ?_
  obtain ⟨r24, hr24, h⟩ := bd_e h
  refine cl_RV (rest := [.ref (ad 0)]) (ci := 8) (q0 := 0) ⟨hx, hb, hml, hown, hts⟩ (mX10_isItem l D cI cZ cB ad w σ a1 r24 hr24) (cwV 1 hts gX10_about_X10_isItem rfl rfl rfl (by decide +kernel) ⟨Nat.le_of_ble_eq_true rfl, Nat.le_of_ble_eq_true rfl⟩) hK hP rfl rfl rfl rfl hl.1 rfl (Nat.le_of_ble_eq_true rfl) dX10_about_3 ⟨Nat.zero_le _, Nat.zero_le _⟩ ?_
  refine W.eq (g2 := F0 m 6 ls [.int r24, .ref (ad 0)]) rfl ?_
  refine lv_if_eq (tgt := 18) hx hb dX10_about_6 (by decide) (fun c25 => ?_) (fun c25 => ?_)
  · have h := ite_t c25 h
    exact n18 σ _ _ hP hD hS _ (lv_sub hl [0, 1, 2] rfl) h
  · have h := ite_f c25 h
    refine lv_iload_n hx hb dX10_about_9 rfl (lv_at hl 2 rfl) ?_
    refine lv_if_lt (tgt := 18) hx hb dX10_about_10 (by decide) (fun c26 => ?_) (fun c26 => ?_)
    · have h := ite_t c26 h
      exact n18 σ _ _ hP hD hS _ (lv_sub hl [0, 1, 2] rfl) h
    · have h := ite_f c26 h
      refine lv_iload_n hx hb dX10_about_13 rfl (lv_at hl 2 rfl) ?_
      refine lv_iconst (v := 5) hx hb dX10_about_14 (by decide) ?_
      refine lv_icmp_le (tgt := 22) hx hb dX10_about_15 (by decide) (fun c27 => ?_) (fun c27 => ?_)
      · have h := ite_t c27 h
        refine lv_iconst (v := 0) hx hb dX10_about_22 (by decide) ?_
        exact n23 0 σ _ _ hP hD hS _ (lv_sub hl [0, 1, 2] rfl) h
      · have h := ite_f c27 h
        exact n18 σ _ _ hP hD hS _ (lv_sub hl [0, 1, 2] rfl) h
set_option maxHeartbeats 4000000 in
set_option maxRecDepth 100000 in
theorem mX10_about (l : Launch) (D : va_G) (cI cZ cB : ClassId) (ad : Nat → Nat) (w : Int64) (σ : Mem) (sz : Nat) (a1 : Int32) (a2 : Int32) (res : Int32 × Mem) (h : X10_about a1 a2 σ = some res) : Met l yX10_about wsX10_about rmX10_about (pW D cI cZ cB (wdX10 cI cZ cB ad w σ) sz [.ref (ad 0), .int a1, .int a2]) (qW D (some (.int res.1)) (wdX10 cI cZ cB ad w res.2) (va_A (wdX10 cI cZ cB ad w σ) sz)) 0 0 (va_A (wdX10 cI cZ cB ad w σ) sz) := (bX10_about l D cI cZ cB ad w σ a1 a2 res h).met (by decide +kernel) rfl (Nat.le_of_ble_eq_true rfl)
def rmX10_put : Room := { frames := 0, cells := 0, slots := 0, locals := 0 }
set_option maxHeartbeats 4000000 in
set_option maxRecDepth 100000 in
theorem bX10_put (l : Launch) (D : va_G) (cI cZ cB : ClassId) (ad : Nat → Nat) (w : Int64) (σ : Mem) (a1 : Int32) (res : Mem) (h : X10_put a1 σ = some res) : BW l yX10_put wsX10_put rmX10_put cX10_put 2 none D cI cZ cB (wdX10 cI cZ cB ad w σ) [.ref (ad 0), .int a1] none (wdX10 cI cZ cB ad w res) := by
  intro p e s m args below meth c ls Q A hx hb hml hts hown hK hA hP hD hS hl0 hR
  have hinX10 : ∀ w ∈ u_ws RX10 TX10 42, w ∈ wsX10_put := (fun _ h => List.mem_cons_of_mem _ (List.mem_append_right _ h))
  have fl1 := hts (.fieldLink RX10 71 "LawNumbererModel" "out" "[B") (by decide +kernel)
  have fl2 := hts (.fieldLink RX10 213 "LawNumbererModel" "outMany" "I") (by decide +kernel)
  have hl : lv_has ls 2 [(0, .ref (ad 0)), (1, .int a1)] := hl0
  rw [X10_put] at h
  have hS := hS
  refine lv_aload_n hx hb dX10_put_0 rfl (lv_at hl 0 rfl) ?_
  refine va_get (ci := 8) (v := .ref (ad 18)) (C := RX10) (T := TX10) (N := 42) hx hb hts hinX10 hown hK hP 0 rfl rfl 31 (by decide) fl1 (fun _ h9 => h9) rfl dX10_put_1 ?_
  refine lv_aload_n hx hb dX10_put_4 rfl (lv_at hl 0 rfl) ?_
  refine va_get (ci := 8) (v := .int (σ 0 32)) (C := RX10) (T := TX10) (N := 42) hx hb hts hinX10 hown hK hP 0 rfl rfl 32 (by decide) fl2 (fun _ h9 => h9) rfl dX10_put_5 ?_
  refine lv_iload_n hx hb dX10_put_8 rfl (lv_at hl 1 rfl) ?_
  refine lv_i2b (v := Int8.toInt32 (Int32.toInt8 a1)) hx hb dX10_put_9 rfl ?_
  obtain ⟨hin1, h⟩ := gd_e h
  obtain ⟨σ2, eσ2, h⟩ := lt_e h
  refine va_bast hx hb hK hP hD hS 18 2 rfl rfl hin1 dX10_put_10 (fun H locs hP1 hD1 hS => ?_)
  have hP : va_P D vwCl (wdX10 cI cZ cB ad w σ2) H := by rw [eσ2]; exact hP1
  have hD : va_D A (wdX10 cI cZ cB ad w σ2) := D_of (by rfl) hD
  refine lv_aload_n hx hb dX10_put_11 rfl (lv_at hl 0 rfl) ?_
  refine lv_dup hx hb dX10_put_12 rfl ?_
  refine va_get (ci := 8) (v := .int (σ2 0 32)) (C := RX10) (T := TX10) (N := 42) hx hb hts hinX10 hown hK hP 0 rfl rfl 32 (by decide) fl2 (fun _ h9 => h9) rfl dX10_put_13 ?_
  refine lv_iconst (v := 1) hx hb dX10_put_16 (by decide) ?_
  refine lv_iadd hx hb dX10_put_17 ?_
  obtain ⟨σ3, eσ3, h⟩ := lt_e h
  refine va_put (ci := 8) (v := .int ((σ2 0 32) + 1)) (ty := .int) (C := RX10) (T := TX10) (N := 42) hx hb hts hinX10 tyX10 tyX10_ok nmX10 hown hK hP hD hS 0 rfl rfl 32 (by decide) fl2 (fun _ h9 => h9) rfl (by decide +kernel) rfl rfl (Nat.le_of_ble_eq_true rfl) dX10_put_18 (fun H locs hP1 hD1 hS => ?_)
  have hP : va_P D vwCl (wdX10 cI cZ cB ad w σ3) H := by rw [eσ3]; exact hP1
  have hD : va_D A (wdX10 cI cZ cB ad w σ3) := D_of (by rfl) hD
  exact hR none (wdX10 cI cZ cB ad w σ3) _ _ _ _ rfl (by rw [← Option.some.inj h]) trivial dX10_put_21 hP hS
set_option maxHeartbeats 4000000 in
set_option maxRecDepth 100000 in
theorem mX10_put (l : Launch) (D : va_G) (cI cZ cB : ClassId) (ad : Nat → Nat) (w : Int64) (σ : Mem) (sz : Nat) (a1 : Int32) (res : Mem) (h : X10_put a1 σ = some res) : Met l yX10_put wsX10_put rmX10_put (pW D cI cZ cB (wdX10 cI cZ cB ad w σ) sz [.ref (ad 0), .int a1]) (qW D none (wdX10 cI cZ cB ad w res) (va_A (wdX10 cI cZ cB ad w σ) sz)) 0 0 (va_A (wdX10 cI cZ cB ad w σ) sz) := (bX10_put l D cI cZ cB ad w σ a1 res h).metv (by decide +kernel) rfl (Nat.le_of_ble_eq_true rfl)
def rmX10_romanLetter : Room := { frames := 0, cells := 0, slots := 0, locals := 0 }
set_option maxHeartbeats 4000000 in
set_option maxRecDepth 100000 in
theorem bX10_romanLetter (l : Launch) (D : va_G) (cI cZ cB : ClassId) (a0 : Int32) (res : Int32) (h : X10_romanLetter a0 = some res) : BR l yX10_romanLetter wsX10_romanLetter rmX10_romanLetter cX10_romanLetter 1 (some .int) D cI cZ cB wd0 [.int a0] (some (.int res)) := by
  intro p e s m args below meth c ls Q hx hb hml hts hown hK hP hl0 hR
  have hl : lv_has ls 1 [(0, .int a0)] := hl0
  rw [X10_romanLetter] at h
  refine lv_iload_n hx hb dX10_romanLetter_0 rfl (lv_at hl 0 rfl) ?_
  refine lv_iconst (v := 1) hx hb dX10_romanLetter_1 (by decide) ?_
  refine lv_icmp_ne (tgt := 10) hx hb dX10_romanLetter_2 (by decide) (fun c1 => ?_) (fun c1 => ?_)
  · have h := ite_f c1 h
    refine lv_iload_n hx hb dX10_romanLetter_10 rfl (lv_at hl 0 rfl) ?_
    refine lv_iconst (v := 2) hx hb dX10_romanLetter_11 (by decide) ?_
    refine lv_icmp_ne (tgt := 20) hx hb dX10_romanLetter_12 (by decide) (fun c2 => ?_) (fun c2 => ?_)
    · have h := ite_f c2 h
      refine lv_iload_n hx hb dX10_romanLetter_20 rfl (lv_at hl 0 rfl) ?_
      refine lv_iconst (v := 3) hx hb dX10_romanLetter_21 (by decide) ?_
      refine lv_icmp_ne (tgt := 30) hx hb dX10_romanLetter_22 (by decide) (fun c3 => ?_) (fun c3 => ?_)
      · have h := ite_f c3 h
        refine lv_iload_n hx hb dX10_romanLetter_30 rfl (lv_at hl 0 rfl) ?_
        refine lv_iconst (v := 4) hx hb dX10_romanLetter_31 (by decide) ?_
        refine lv_icmp_ne (tgt := 40) hx hb dX10_romanLetter_32 (by decide) (fun c4 => ?_) (fun c4 => ?_)
        · have h := ite_f c4 h
          refine lv_iload_n hx hb dX10_romanLetter_40 rfl (lv_at hl 0 rfl) ?_
          refine lv_iconst (v := 5) hx hb dX10_romanLetter_41 (by decide) ?_
          refine lv_icmp_ne (tgt := 50) hx hb dX10_romanLetter_42 (by decide) (fun c5 => ?_) (fun c5 => ?_)
          · have h := ite_f c5 h
            refine lv_iload_n hx hb dX10_romanLetter_50 rfl (lv_at hl 0 rfl) ?_
            refine lv_bipush (v := 6) hx hb dX10_romanLetter_51 (by decide) ?_
            refine lv_icmp_ne (tgt := 61) hx hb dX10_romanLetter_53 (by decide) (fun c6 => ?_) (fun c6 => ?_)
            · have h := ite_f c6 h
              refine lv_bipush (v := 77) hx hb dX10_romanLetter_61 (by decide) ?_
              exact hR (some (.int 77)) _ _ (by rw [← Option.some.inj h]) rfl dX10_romanLetter_63
            · have h := ite_t c6 h
              refine lv_bipush (v := 68) hx hb dX10_romanLetter_56 (by decide) ?_
              refine lv_goto (tgt := 63) hx hb dX10_romanLetter_58 (by decide) ?_
              exact hR (some (.int 68)) _ _ (by rw [← Option.some.inj h]) rfl dX10_romanLetter_63
          · have h := ite_t c5 h
            refine lv_bipush (v := 67) hx hb dX10_romanLetter_45 (by decide) ?_
            refine lv_goto (tgt := 63) hx hb dX10_romanLetter_47 (by decide) ?_
            exact hR (some (.int 67)) _ _ (by rw [← Option.some.inj h]) rfl dX10_romanLetter_63
        · have h := ite_t c4 h
          refine lv_bipush (v := 76) hx hb dX10_romanLetter_35 (by decide) ?_
          refine lv_goto (tgt := 63) hx hb dX10_romanLetter_37 (by decide) ?_
          exact hR (some (.int 76)) _ _ (by rw [← Option.some.inj h]) rfl dX10_romanLetter_63
      · have h := ite_t c3 h
        refine lv_bipush (v := 88) hx hb dX10_romanLetter_25 (by decide) ?_
        refine lv_goto (tgt := 63) hx hb dX10_romanLetter_27 (by decide) ?_
        exact hR (some (.int 88)) _ _ (by rw [← Option.some.inj h]) rfl dX10_romanLetter_63
    · have h := ite_t c2 h
      refine lv_bipush (v := 86) hx hb dX10_romanLetter_15 (by decide) ?_
      refine lv_goto (tgt := 63) hx hb dX10_romanLetter_17 (by decide) ?_
      exact hR (some (.int 86)) _ _ (by rw [← Option.some.inj h]) rfl dX10_romanLetter_63
  · have h := ite_t c1 h
    refine lv_bipush (v := 73) hx hb dX10_romanLetter_5 (by decide) ?_
    refine lv_goto (tgt := 63) hx hb dX10_romanLetter_7 (by decide) ?_
    exact hR (some (.int 73)) _ _ (by rw [← Option.some.inj h]) rfl dX10_romanLetter_63
set_option maxHeartbeats 4000000 in
set_option maxRecDepth 100000 in
theorem mX10_romanLetter (l : Launch) (D : va_G) (cI cZ cB : ClassId) (a0 : Int32) (res : Int32) (h : X10_romanLetter a0 = some res) : Met l yX10_romanLetter wsX10_romanLetter rmX10_romanLetter (pR D cI cZ cB wd0 [.int a0]) (qR (some (.int res))) 0 0 (fun _ => False) := (bX10_romanLetter l D cI cZ cB a0 res h).met (by decide +kernel) rfl (Nat.le_of_ble_eq_true rfl)
def rmX10_roman : Room := { frames := 1, cells := 0, slots := 0, locals := 21 }
set_option maxHeartbeats 4000000 in
set_option maxRecDepth 100000 in
theorem bX10_roman (l : Launch) (D : va_G) (cI cZ cB : ClassId) (ad : Nat → Nat) (w : Int64) (σ : Mem) (a1 : Int32) (a2 : Int32) (res : Mem) (h : X10_roman a1 a2 σ = some res) : BW l yX10_roman wsX10_roman rmX10_roman cX10_roman 5 none D cI cZ cB (wdX10 cI cZ cB ad w σ) [.ref (ad 0), .int a1, .int a2] none (wdX10 cI cZ cB ad w res) := by
  intro p e s m args below meth c ls Q A hx hb hml hts hown hK hA hP hD hS hl0 hR
  have hinX10 : ∀ w ∈ u_ws RX10 TX10 42, w ∈ wsX10_roman := (fun _ h => List.mem_cons_of_mem _ (List.mem_append_right _ h))
  have fl1 := hts (.fieldLink RX10 77 "LawNumbererModel" "sign" "[I") (by decide +kernel)
  have fl2 := hts (.fieldLink RX10 74 "LawNumbererModel" "worth" "[I") (by decide +kernel)
  have hl : lv_has ls 5 [(0, .ref (ad 0)), (1, .int a1), (2, .int a2)] := hl0
  have n5 : ∀ (n : Nat) (x3 : Int32) (x4 : Int32) (σ : Mem) (H : Heap) (locs : List Loc), va_P D vwCl (wdX10 cI cZ cB ad w σ) H → va_D A (wdX10 cI cZ cB ad w σ) → va_S A s.heap H locs → ∀ (ls : Array Slot), lv_has ls 5 [(0, .ref (ad 0)), (2, .int a2), (3, .int x3), (4, .int x4)] → X10_roman_5 a1 a2 n x3 x4 σ = some res → W p l e rmX10_roman s m args below meth c H locs 0 0 Q (F0 m 5 ls []) := by
    intro n
    induction n with
    | zero =>
      intro x3 x4 σ H locs hP hD hS ls hl h
      rw [X10_roman_5] at h
      cases h
    | succ n_5 ih5 =>
      have n12 : ∀ (n : Nat) (x3 : Int32) (x4 : Int32) (σ : Mem) (H : Heap) (locs : List Loc), va_P D vwCl (wdX10 cI cZ cB ad w σ) H → va_D A (wdX10 cI cZ cB ad w σ) → va_S A s.heap H locs → ∀ (ls : Array Slot), lv_has ls 5 [(0, .ref (ad 0)), (2, .int a2), (3, .int x3), (4, .int x4)] → X10_roman_12 a1 a2 (X10_roman_5 a1 a2 n_5) n x3 x4 σ = some res → W p l e rmX10_roman s m args below meth c H locs 0 0 Q (F0 m 12 ls []) := by
        intro n
        induction n with
        | zero =>
          intro x3 x4 σ H locs hP hD hS ls hl h
          rw [X10_roman_12] at h
          cases h
        | succ n_12 ih12 =>
          have n64 : ∀ (x3 : Int32) (x4 : Int32) (σ : Mem) (H : Heap) (locs : List Loc), va_P D vwCl (wdX10 cI cZ cB ad w σ) H → va_D A (wdX10 cI cZ cB ad w σ) → va_S A s.heap H locs → ∀ (ls : Array Slot), lv_has ls 5 [(0, .ref (ad 0)), (2, .int a2), (3, .int x3), (4, .int x4)] → X10_roman_64 a1 a2 (X10_roman_12 a1 a2 (X10_roman_5 a1 a2 n_5) n_12) (X10_roman_5 a1 a2 n_5) x3 x4 σ = some res → W p l e rmX10_roman s m args below meth c H locs 0 0 Q (F0 m 64 ls []) := by
            intro x3 x4 σ H locs hP hD hS ls hl h
            rw [X10_roman_64] at h
            refine lv_aload_n hx hb dX10_roman_64 rfl (lv_at hl 0 rfl) ?_
            refine lv_aload_n hx hb dX10_roman_65 rfl (lv_at hl 0 rfl) ?_
            refine va_get (ci := 8) (v := .ref (ad 20)) (C := RX10) (T := TX10) (N := 42) hx hb hts hinX10 hown hK hP 0 rfl rfl 34 (by decide) fl1 (fun _ h9 => h9) rfl dX10_roman_66 ?_
            refine lv_iload hx hb dX10_roman_69 (lv_at hl 3 rfl) ?_
            obtain ⟨hin1, h⟩ := gd_e h
            refine va_iald hx hb hK hP 20 0 rfl rfl hin1 dX10_roman_71 ?_
            refine lv_bipush (v := 10) hx hb dX10_roman_72 (by decide) ?_
            refine lv_irem hx hb dX10_roman_74 (by decide) ?_
            obtain ⟨r2, hr2, h⟩ := bd_e h
            refine cl_RS (rest := [.ref (ad 0)]) ⟨hx, hb, hml, hown, hts⟩ (mX10_romanLetter l D cI cZ cB ((σ 20 (Int32.toNatClampNeg x4)) - (σ 20 (Int32.toNatClampNeg x4)) / 10 * 10) r2 hr2) (va_cwS 1 hts gX10_roman_X10_romanLetter rfl rfl rfl (by decide +kernel) ⟨Nat.le_of_ble_eq_true rfl, Nat.le_of_ble_eq_true rfl⟩) hK wd0_P rfl hl.1 rfl (Nat.le_of_ble_eq_true rfl) dX10_roman_75 ⟨Nat.zero_le _, Nat.zero_le _⟩ ?_
            refine W.eq (g2 := F0 m 78 ls [.int r2, .ref (ad 0)]) rfl ?_
            refine lv_iload_n hx hb dX10_roman_78 rfl (lv_at hl 1 rfl) ?_
            refine lv_iadd hx hb dX10_roman_79 ?_
            obtain ⟨r3, hr3, h⟩ := bd_e h
            obtain ⟨σ4, eσ4, h⟩ := lt_e h
            refine cl_WVs (rest := []) (wn := (wdX10 cI cZ cB ad w σ4)) (ci := 8) (q0 := 0) ⟨hx, hb, hml, hown, hts⟩ (mX10_put l D cI cZ cB ad w σ H.size (r2 + a2) r3 hr3) (cwV 1 hts gX10_roman_X10_put rfl rfl rfl (by decide +kernel) ⟨Nat.le_of_ble_eq_true rfl, Nat.le_of_ble_eq_true rfl⟩) hK hP hD hS hA (by rw [eσ4]) rfl rfl rfl rfl rfl hl.1 rfl (Nat.le_of_ble_eq_true rfl) dX10_roman_80 ⟨Nat.zero_le _, Nat.zero_le _⟩ (fun H locs hP hD hS => ?_)
            refine W.eq (g2 := F0 m 83 ls []) rfl ?_
            refine lv_goto (tgt := 12) hx hb dX10_roman_83 (by decide) ?_
            exact ih12 x3 x4 σ4 _ _ hP hD hS _ (lv_sub hl [0, 1, 2, 3] rfl) h
          intro x3 x4 σ H locs hP hD hS ls hl h
          rw [X10_roman_12] at h
          refine lv_iload_n hx hb dX10_roman_12 rfl (lv_at hl 2 rfl) ?_
          refine lv_aload_n hx hb dX10_roman_13 rfl (lv_at hl 0 rfl) ?_
          refine va_get (ci := 8) (v := .ref (ad 19)) (C := RX10) (T := TX10) (N := 42) hx hb hts hinX10 hown hK hP 0 rfl rfl 33 (by decide) fl2 (fun _ h9 => h9) rfl dX10_roman_14 ?_
          refine lv_iload hx hb dX10_roman_17 (lv_at hl 3 rfl) ?_
          obtain ⟨hin5, h⟩ := gd_e h
          refine va_iald hx hb hK hP 19 0 rfl rfl hin5 dX10_roman_19 ?_
          refine lv_icmp_lt (tgt := 86) hx hb dX10_roman_20 (by decide) (fun c6 => ?_) (fun c6 => ?_)
          · have h := ite_t c6 h
            obtain ⟨x4_7, ex4_7, h⟩ := lt_e h
            refine lv_iinc (v := x4_7) (lv' := [(4, .int x4_7), (0, .ref (ad 0)), (2, .int a2), (3, .int x3)]) hx hb dX10_roman_86 hl (k := 3) rfl (by rw [ex4_7]; rfl) (by decide) rfl (fun ls hl => ?_)
            refine lv_goto (tgt := 5) hx hb dX10_roman_89 (by decide) ?_
            exact ih5 x3 x4_7 σ _ _ hP hD hS _ (lv_sub hl [1, 2, 3, 0] rfl) h
          · have h := ite_f c6 h
            refine lv_iload_n hx hb dX10_roman_23 rfl (lv_at hl 2 rfl) ?_
            refine lv_aload_n hx hb dX10_roman_24 rfl (lv_at hl 0 rfl) ?_
            refine va_get (ci := 8) (v := .ref (ad 19)) (C := RX10) (T := TX10) (N := 42) hx hb hts hinX10 hown hK hP 0 rfl rfl 33 (by decide) fl2 (fun _ h9 => h9) rfl dX10_roman_25 ?_
            refine lv_iload hx hb dX10_roman_28 (lv_at hl 3 rfl) ?_
            obtain ⟨hin8, h⟩ := gd_e h
            refine va_iald hx hb hK hP 19 0 rfl rfl hin8 dX10_roman_30 ?_
            refine lv_isub hx hb dX10_roman_31 ?_
            obtain ⟨x3_9, ex3_9, h⟩ := lt_e h
            refine lv_topE ex3_9 ?_
            refine lv_istore_n (lv' := [(3, .int x3_9), (0, .ref (ad 0)), (2, .int a2), (4, .int x4)]) hx hb dX10_roman_32 rfl hl (by decide) rfl (fun ls hl => ?_)
            refine lv_aload_n hx hb dX10_roman_33 rfl (lv_at hl 1 rfl) ?_
            refine va_get (ci := 8) (v := .ref (ad 20)) (C := RX10) (T := TX10) (N := 42) hx hb hts hinX10 hown hK hP 0 rfl rfl 34 (by decide) fl1 (fun _ h9 => h9) rfl dX10_roman_34 ?_
            refine lv_iload hx hb dX10_roman_37 (lv_at hl 3 rfl) ?_
            obtain ⟨hin10, h⟩ := gd_e h
            refine va_iald hx hb hK hP 20 0 rfl rfl hin10 dX10_roman_39 ?_
            refine lv_bipush (v := 9) hx hb dX10_roman_40 (by decide) ?_
            refine lv_icmp_le (tgt := 64) hx hb dX10_roman_42 (by decide) (fun c11 => ?_) (fun c11 => ?_)
            · have h := ite_t c11 h
              exact n64 x3_9 x4 σ _ _ hP hD hS _ (lv_sub hl [1, 2, 0, 3] rfl) h
            · have h := ite_f c11 h
              refine lv_aload_n hx hb dX10_roman_45 rfl (lv_at hl 1 rfl) ?_
              refine lv_aload_n hx hb dX10_roman_46 rfl (lv_at hl 1 rfl) ?_
              refine va_get (ci := 8) (v := .ref (ad 20)) (C := RX10) (T := TX10) (N := 42) hx hb hts hinX10 hown hK hP 0 rfl rfl 34 (by decide) fl1 (fun _ h9 => h9) rfl dX10_roman_47 ?_
              refine lv_iload hx hb dX10_roman_50 (lv_at hl 3 rfl) ?_
              obtain ⟨hin12, h⟩ := gd_e h
              refine va_iald hx hb hK hP 20 0 rfl rfl hin12 dX10_roman_52 ?_
              refine lv_bipush (v := 10) hx hb dX10_roman_53 (by decide) ?_
              refine lv_idiv hx hb dX10_roman_55 (by decide) ?_
              obtain ⟨r13, hr13, h⟩ := bd_e h
              refine cl_RS (rest := [.ref (ad 0)]) ⟨hx, hb, hml, hown, hts⟩ (mX10_romanLetter l D cI cZ cB ((σ 20 (Int32.toNatClampNeg x4)) / 10) r13 hr13) (va_cwS 1 hts gX10_roman_X10_romanLetter rfl rfl rfl (by decide +kernel) ⟨Nat.le_of_ble_eq_true rfl, Nat.le_of_ble_eq_true rfl⟩) hK wd0_P rfl hl.1 rfl (Nat.le_of_ble_eq_true rfl) dX10_roman_56 ⟨Nat.zero_le _, Nat.zero_le _⟩ ?_
              refine W.eq (g2 := F0 m 59 ls [.int r13, .ref (ad 0)]) rfl ?_
              refine lv_iload_n hx hb dX10_roman_59 rfl (lv_at hl 2 rfl) ?_
              refine lv_iadd hx hb dX10_roman_60 ?_
              obtain ⟨r14, hr14, h⟩ := bd_e h
              obtain ⟨σ15, eσ15, h⟩ := lt_e h
              refine cl_WVs (rest := []) (wn := (wdX10 cI cZ cB ad w σ15)) (ci := 8) (q0 := 0) ⟨hx, hb, hml, hown, hts⟩ (mX10_put l D cI cZ cB ad w σ H.size (r13 + a2) r14 hr14) (cwV 1 hts gX10_roman_X10_put rfl rfl rfl (by decide +kernel) ⟨Nat.le_of_ble_eq_true rfl, Nat.le_of_ble_eq_true rfl⟩) hK hP hD hS hA (by rw [eσ15]) rfl rfl rfl rfl rfl hl.1 rfl (Nat.le_of_ble_eq_true rfl) dX10_roman_61 ⟨Nat.zero_le _, Nat.zero_le _⟩ (fun H locs hP hD hS => ?_)
              refine W.eq (g2 := F0 m 64 ls []) rfl ?_
              exact n64 x3_9 x4 σ15 _ _ hP hD hS _ (lv_sub hl [1, 2, 0, 3] rfl) h
      intro x3 x4 σ H locs hP hD hS ls hl h
      rw [X10_roman_5] at h
      refine lv_iload hx hb dX10_roman_5 (lv_at hl 3 rfl) ?_
      refine lv_bipush (v := 12) hx hb dX10_roman_7 (by decide) ?_
      refine lv_icmp_ge (tgt := 92) hx hb dX10_roman_9 (by decide) (fun c16 => ?_) (fun c16 => ?_)
      · have h := ite_t c16 h
        exact hR none (wdX10 cI cZ cB ad w σ) _ _ _ _ rfl (by rw [← Option.some.inj h]) trivial dX10_roman_92 hP hS
      · have h := ite_f c16 h
        exact n12 FU x3 x4 σ _ _ hP hD hS _ (lv_sub hl [0, 1, 2, 3] rfl) h
  rw [X10_roman] at h
  have hS := hS
  refine lv_iload_n hx hb dX10_roman_0 rfl (lv_at hl 1 rfl) ?_
  refine lv_istore_n (lv' := [(3, .int a1), (0, .ref (ad 0)), (1, .int a1), (2, .int a2)]) hx hb dX10_roman_1 rfl hl (by decide) rfl (fun ls hl => ?_)
  refine lv_iconst (v := 0) hx hb dX10_roman_2 (by decide) ?_
  refine lv_istore (lv' := [(4, .int 0), (3, .int a1), (0, .ref (ad 0)), (1, .int a1), (2, .int a2)]) hx hb dX10_roman_3 hl (by decide) rfl (fun ls hl => ?_)
  exact n5 FU a1 0 σ _ _ hP hD hS _ (lv_sub hl [2, 4, 1, 0] rfl) h
set_option maxHeartbeats 4000000 in
set_option maxRecDepth 100000 in
theorem mX10_roman (l : Launch) (D : va_G) (cI cZ cB : ClassId) (ad : Nat → Nat) (w : Int64) (σ : Mem) (sz : Nat) (a1 : Int32) (a2 : Int32) (res : Mem) (h : X10_roman a1 a2 σ = some res) : Met l yX10_roman wsX10_roman rmX10_roman (pW D cI cZ cB (wdX10 cI cZ cB ad w σ) sz [.ref (ad 0), .int a1, .int a2]) (qW D none (wdX10 cI cZ cB ad w res) (va_A (wdX10 cI cZ cB ad w σ) sz)) 0 0 (va_A (wdX10 cI cZ cB ad w σ) sz) := (bX10_roman l D cI cZ cB ad w σ a1 a2 res h).metv (by decide +kernel) rfl (Nat.le_of_ble_eq_true rfl)
def rmX10_decimal : Room := { frames := 1, cells := 0, slots := 0, locals := 21 }
set_option maxHeartbeats 4000000 in
set_option maxRecDepth 100000 in
theorem bX10_decimal (l : Launch) (D : va_G) (cI cZ cB : ClassId) (ad : Nat → Nat) (w : Int64) (σ : Mem) (a1 : Int32) (res : Mem) (h : X10_decimal a1 σ = some res) : BW l yX10_decimal wsX10_decimal rmX10_decimal cX10_decimal 2 none D cI cZ cB (wdX10 cI cZ cB ad w σ) [.ref (ad 0), .int a1] none (wdX10 cI cZ cB ad w res) := by
  intro p e s m args below meth c ls Q A hx hb hml hts hown hK hA hP hD hS hl0 hR
  have hl : lv_has ls 2 [(0, .ref (ad 0)), (1, .int a1)] := hl0
  have n37 : ∀ (σ : Mem) (H : Heap) (locs : List Loc), va_P D vwCl (wdX10 cI cZ cB ad w σ) H → va_D A (wdX10 cI cZ cB ad w σ) → va_S A s.heap H locs → ∀ (ls : Array Slot), lv_has ls 2 [(0, .ref (ad 0)), (1, .int a1)] → X10_decimal_37 a1 σ = some res → W p l e rmX10_decimal s m args below meth c H locs 0 0 Q (F0 m 37 ls []) := by
    intro σ H locs hP hD hS ls hl h
    rw [X10_decimal_37] at h
    refine lv_aload_n hx hb dX10_decimal_37 rfl (lv_at hl 0 rfl) ?_
    refine lv_bipush (v := 48) hx hb dX10_decimal_38 (by decide) ?_
    refine lv_iload_n hx hb dX10_decimal_40 rfl (lv_at hl 1 rfl) ?_
    refine lv_bipush (v := 10) hx hb dX10_decimal_41 (by decide) ?_
    refine lv_irem hx hb dX10_decimal_43 (by decide) ?_
    refine lv_iadd hx hb dX10_decimal_44 ?_
    obtain ⟨r1, hr1, h⟩ := bd_e h
    obtain ⟨σ2, eσ2, h⟩ := lt_e h
    refine cl_WVs (rest := []) (wn := (wdX10 cI cZ cB ad w σ2)) (ci := 8) (q0 := 0) ⟨hx, hb, hml, hown, hts⟩ (mX10_put l D cI cZ cB ad w σ H.size (48 + (a1 - a1 / 10 * 10)) r1 hr1) (cwV 1 hts gX10_decimal_X10_put rfl rfl rfl (by decide +kernel) ⟨Nat.le_of_ble_eq_true rfl, Nat.le_of_ble_eq_true rfl⟩) hK hP hD hS hA (by rw [eσ2]) rfl rfl rfl rfl rfl hl.1 rfl (Nat.le_of_ble_eq_true rfl) dX10_decimal_45 ⟨Nat.zero_le _, Nat.zero_le _⟩ (fun H locs hP hD hS => ?_)
    refine W.eq (g2 := F0 m 48 ls []) rfl ?_
    exact hR none (wdX10 cI cZ cB ad w σ2) _ _ _ _ rfl (by rw [← Option.some.inj h]) trivial dX10_decimal_48 hP hS
  have n17 : ∀ (σ : Mem) (H : Heap) (locs : List Loc), va_P D vwCl (wdX10 cI cZ cB ad w σ) H → va_D A (wdX10 cI cZ cB ad w σ) → va_S A s.heap H locs → ∀ (ls : Array Slot), lv_has ls 2 [(0, .ref (ad 0)), (1, .int a1)] → X10_decimal_17 a1 σ = some res → W p l e rmX10_decimal s m args below meth c H locs 0 0 Q (F0 m 17 ls []) := by
    intro σ H locs hP hD hS ls hl h
    rw [X10_decimal_17] at h
    refine lv_iload_n hx hb dX10_decimal_17 rfl (lv_at hl 1 rfl) ?_
    refine lv_bipush (v := 9) hx hb dX10_decimal_18 (by decide) ?_
    refine lv_icmp_le (tgt := 37) hx hb dX10_decimal_20 (by decide) (fun c3 => ?_) (fun c3 => ?_)
    · have h := ite_t c3 h
      exact n37 σ _ _ hP hD hS _ (lv_sub hl [0, 1] rfl) h
    · have h := ite_f c3 h
      refine lv_aload_n hx hb dX10_decimal_23 rfl (lv_at hl 0 rfl) ?_
      refine lv_bipush (v := 48) hx hb dX10_decimal_24 (by decide) ?_
      refine lv_iload_n hx hb dX10_decimal_26 rfl (lv_at hl 1 rfl) ?_
      refine lv_bipush (v := 10) hx hb dX10_decimal_27 (by decide) ?_
      refine lv_idiv hx hb dX10_decimal_29 (by decide) ?_
      refine lv_bipush (v := 10) hx hb dX10_decimal_30 (by decide) ?_
      refine lv_irem hx hb dX10_decimal_32 (by decide) ?_
      refine lv_iadd hx hb dX10_decimal_33 ?_
      obtain ⟨r4, hr4, h⟩ := bd_e h
      obtain ⟨σ5, eσ5, h⟩ := lt_e h
      refine cl_WVs (rest := []) (wn := (wdX10 cI cZ cB ad w σ5)) (ci := 8) (q0 := 0) ⟨hx, hb, hml, hown, hts⟩ (mX10_put l D cI cZ cB ad w σ H.size (48 + ((a1 / 10) - (a1 / 10) / 10 * 10)) r4 hr4) (cwV 1 hts gX10_decimal_X10_put rfl rfl rfl (by decide +kernel) ⟨Nat.le_of_ble_eq_true rfl, Nat.le_of_ble_eq_true rfl⟩) hK hP hD hS hA (by rw [eσ5]) rfl rfl rfl rfl rfl hl.1 rfl (Nat.le_of_ble_eq_true rfl) dX10_decimal_34 ⟨Nat.zero_le _, Nat.zero_le _⟩ (fun H locs hP hD hS => ?_)
      refine W.eq (g2 := F0 m 37 ls []) rfl ?_
      exact n37 σ5 _ _ hP hD hS _ (lv_sub hl [0, 1] rfl) h
  rw [X10_decimal] at h
  have hS := hS
  refine lv_iload_n hx hb dX10_decimal_0 rfl (lv_at hl 1 rfl) ?_
  refine lv_bipush (v := 99) hx hb dX10_decimal_1 (by decide) ?_
  refine lv_icmp_le (tgt := 17) hx hb dX10_decimal_3 (by decide) (fun c6 => ?_) (fun c6 => ?_)
  · have h := ite_t c6 h
    exact n17 σ _ _ hP hD hS _ (lv_sub hl [0, 1] rfl) h
  · have h := ite_f c6 h
    refine lv_aload_n hx hb dX10_decimal_6 rfl (lv_at hl 0 rfl) ?_
    refine lv_bipush (v := 48) hx hb dX10_decimal_7 (by decide) ?_
    refine lv_iload_n hx hb dX10_decimal_9 rfl (lv_at hl 1 rfl) ?_
    refine lv_bipush (v := 100) hx hb dX10_decimal_10 (by decide) ?_
    refine lv_idiv hx hb dX10_decimal_12 (by decide) ?_
    refine lv_iadd hx hb dX10_decimal_13 ?_
    obtain ⟨r7, hr7, h⟩ := bd_e h
    obtain ⟨σ8, eσ8, h⟩ := lt_e h
    refine cl_WVs (rest := []) (wn := (wdX10 cI cZ cB ad w σ8)) (ci := 8) (q0 := 0) ⟨hx, hb, hml, hown, hts⟩ (mX10_put l D cI cZ cB ad w σ s.heap.size (48 + (a1 / 100)) r7 hr7) (cwV 1 hts gX10_decimal_X10_put rfl rfl rfl (by decide +kernel) ⟨Nat.le_of_ble_eq_true rfl, Nat.le_of_ble_eq_true rfl⟩) hK hP hD hS hA (by rw [eσ8]) rfl rfl rfl rfl rfl hl.1 rfl (Nat.le_of_ble_eq_true rfl) dX10_decimal_14 ⟨Nat.zero_le _, Nat.zero_le _⟩ (fun H locs hP hD hS => ?_)
    refine W.eq (g2 := F0 m 17 ls []) rfl ?_
    exact n17 σ8 _ _ hP hD hS _ (lv_sub hl [0, 1] rfl) h
set_option maxHeartbeats 4000000 in
set_option maxRecDepth 100000 in
theorem mX10_decimal (l : Launch) (D : va_G) (cI cZ cB : ClassId) (ad : Nat → Nat) (w : Int64) (σ : Mem) (sz : Nat) (a1 : Int32) (res : Mem) (h : X10_decimal a1 σ = some res) : Met l yX10_decimal wsX10_decimal rmX10_decimal (pW D cI cZ cB (wdX10 cI cZ cB ad w σ) sz [.ref (ad 0), .int a1]) (qW D none (wdX10 cI cZ cB ad w res) (va_A (wdX10 cI cZ cB ad w σ) sz)) 0 0 (va_A (wdX10 cI cZ cB ad w σ) sz) := (bX10_decimal l D cI cZ cB ad w σ a1 res h).metv (by decide +kernel) rfl (Nat.le_of_ble_eq_true rfl)
