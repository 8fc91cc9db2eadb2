/-! printed: the walks -/
def rmX10_thrown : Room := { frames := 0, cells := 0, slots := 0, locals := 0 }
set_option maxHeartbeats 4000000 in
set_option maxRecDepth 100000 in
theorem bX10_thrown (l : Launch) (D : va_G) (cI cZ cB : ClassId) (ad : Nat → Nat) (w : Int64) (σ : Mem) (res : Int32) (h : X10_thrown σ = some res) : BR l yX10_thrown wsX10_thrown rmX10_thrown cX10_thrown 1 (some .int) D cI cZ cB (wdX10 cI cZ cB ad w σ) [.ref (ad 0)] (some (.int res)) := by
  intro p e s m args below meth c ls Q hx hb hml hts hown hK hP hl0 hR
  have hinX10 : ∀ w ∈ u_ws RX10 TX10 42, w ∈ wsX10_thrown := (fun _ h => List.mem_cons_of_mem _ (List.mem_append_right _ h))
  have fl1 := hts (.fieldLink RX10 86 "LawNumbererModel" "thrown" "I") (by decide +kernel)
  have hl : lv_has ls 1 [(0, .ref (ad 0))] := hl0
  rw [X10_thrown] at h
  refine lv_aload_n hx hb dX10_thrown_0 rfl (lv_at hl 0 rfl) ?_
  refine va_get (ci := 8) (v := .int (σ 0 0)) (C := RX10) (T := TX10) (N := 42) hx hb hts hinX10 hown hK hP 0 rfl rfl 0 (by decide) fl1 (fun _ h9 => h9) rfl dX10_thrown_1 ?_
  exact hR (some (.int (σ 0 0))) _ _ (by rw [← Option.some.inj h]) rfl dX10_thrown_4
set_option maxHeartbeats 4000000 in
set_option maxRecDepth 100000 in
theorem mX10_thrown (l : Launch) (D : va_G) (cI cZ cB : ClassId) (ad : Nat → Nat) (w : Int64) (σ : Mem) (res : Int32) (h : X10_thrown σ = some res) : Met l yX10_thrown wsX10_thrown rmX10_thrown (pR D cI cZ cB (wdX10 cI cZ cB ad w σ) [.ref (ad 0)]) (qR (some (.int res))) 0 0 (fun _ => False) := (bX10_thrown l D cI cZ cB ad w σ res h).met (by decide +kernel) rfl (Nat.le_of_ble_eq_true rfl)
def rmX10_throwsIf : Room := { frames := 0, cells := 0, slots := 0, locals := 0 }
set_option maxHeartbeats 4000000 in
set_option maxRecDepth 100000 in
theorem bX10_throwsIf (l : Launch) (D : va_G) (cI cZ cB : ClassId) (ad : Nat → Nat) (w : Int64) (σ : Mem) (a1 : Int32) (res : Int32 × Mem) (h : X10_throwsIf a1 σ = some res) : BW l yX10_throwsIf wsX10_throwsIf rmX10_throwsIf cX10_throwsIf 2 (some .boolean) D cI cZ cB (wdX10 cI cZ cB ad w σ) [.ref (ad 0), .int a1] (some (.int res.1)) (wdX10 cI cZ cB ad w res.2) := by
  intro p e s m args below meth c ls Q A hx hb hml hts hown hK hA hP hD hS hl0 hR
  have hinX10 : ∀ w ∈ u_ws RX10 TX10 42, w ∈ wsX10_throwsIf := (fun _ h => List.mem_cons_of_mem _ (List.mem_append_right _ h))
  have fl1 := hts (.fieldLink RX10 86 "LawNumbererModel" "thrown" "I") (by decide +kernel)
  have hl : lv_has ls 2 [(0, .ref (ad 0)), (1, .int a1)] := hl0
  have n10 : ∀ (y1 : Int32) (σ : Mem) (H : Heap) (locs : List Loc), va_P D vwCl (wdX10 cI cZ cB ad w σ) H → va_D A (wdX10 cI cZ cB ad w σ) → va_S A s.heap H locs → ∀ (ls : Array Slot), lv_has ls 2 [(1, .int a1)] → X10_throwsIf_10 a1 y1 σ = some res → W p l e rmX10_throwsIf s m args below meth c H locs 0 0 Q (F0 m 10 ls [.int y1, .ref (ad 0)]) := by
    intro y1 σ H locs hP hD hS ls hl h
    rw [X10_throwsIf_10] at h
    obtain ⟨σ1, eσ1, h⟩ := lt_e h
    refine va_put (ci := 8) (v := .int y1) (ty := .int) (C := RX10) (T := TX10) (N := 42) hx hb hts hinX10 tyX10 tyX10_ok nmX10 hown hK hP hD hS 0 rfl rfl 0 (by decide) fl1 (fun _ h9 => h9) rfl (by decide +kernel) rfl rfl (Nat.le_of_ble_eq_true rfl) dX10_throwsIf_10 (fun H locs hP1 hD1 hS => ?_)
    have hP : va_P D vwCl (wdX10 cI cZ cB ad w σ1) H := by rw [eσ1]; exact hP1
    have hD : va_D A (wdX10 cI cZ cB ad w σ1) := D_of (by rfl) hD
    refine lv_iload_n hx hb dX10_throwsIf_13 rfl (lv_at hl 0 rfl) ?_
    obtain ⟨hg2, h⟩ := gp_e h
    exact hR (some (.int a1)) (wdX10 cI cZ cB ad w σ1) _ _ _ _ (by rw [← Option.some.inj h]) (by rw [← Option.some.inj h]) (nb_of hg2) dX10_throwsIf_14 hP hS
  rw [X10_throwsIf] at h
  have hS := hS
  refine lv_aload_n hx hb dX10_throwsIf_0 rfl (lv_at hl 0 rfl) ?_
  refine lv_iload_n hx hb dX10_throwsIf_1 rfl (lv_at hl 1 rfl) ?_
  refine lv_if_eq (tgt := 9) hx hb dX10_throwsIf_2 (by decide) (fun c3 => ?_) (fun c3 => ?_)
  · have h := ite_t c3 h
    refine lv_iconst (v := 0) hx hb dX10_throwsIf_9 (by decide) ?_
    exact n10 0 σ _ _ hP hD hS _ (lv_sub hl [1] rfl) h
  · have h := ite_f c3 h
    refine lv_iconst (v := 1) hx hb dX10_throwsIf_5 (by decide) ?_
    refine lv_goto (tgt := 10) hx hb dX10_throwsIf_6 (by decide) ?_
    exact n10 1 σ _ _ hP hD hS _ (lv_sub hl [1] rfl) h
set_option maxHeartbeats 4000000 in
set_option maxRecDepth 100000 in
theorem mX10_throwsIf (l : Launch) (D : va_G) (cI cZ cB : ClassId) (ad : Nat → Nat) (w : Int64) (σ : Mem) (sz : Nat) (a1 : Int32) (res : Int32 × Mem) (h : X10_throwsIf a1 σ = some res) : Met l yX10_throwsIf wsX10_throwsIf rmX10_throwsIf (pW D cI cZ cB (wdX10 cI cZ cB ad w σ) sz [.ref (ad 0), .int a1]) (qW D (some (.int res.1)) (wdX10 cI cZ cB ad w res.2) (va_A (wdX10 cI cZ cB ad w σ) sz)) 0 0 (va_A (wdX10 cI cZ cB ad w σ) sz) := (bX10_throwsIf l D cI cZ cB ad w σ a1 res h).met (by decide +kernel) rfl (Nat.le_of_ble_eq_true rfl)
def rmX10_four : Room := { frames := 0, cells := 0, slots := 0, locals := 0 }
set_option maxHeartbeats 4000000 in
set_option maxRecDepth 100000 in
theorem bX10_four (l : Launch) (D : va_G) (cI cZ cB : ClassId) (ad : Nat → Nat) (w : Int64) (σ : Mem) (a1 : Int32) (res : Mem) (h : X10_four a1 σ = some res) : BW l yX10_four wsX10_four rmX10_four cX10_four 3 none D cI cZ cB (wdX10 cI cZ cB ad w σ) [.ref (ad 0), .int a1] none (wdX10 cI cZ cB ad w res) := by
  intro p e s m args below meth c ls Q A hx hb hml hts hown hK hA hP hD hS hl0 hR
  have hinX10 : ∀ w ∈ u_ws RX10 TX10 42, w ∈ wsX10_four := (fun _ h => List.mem_cons_of_mem _ (List.mem_append_right _ h))
  have fl1 := hts (.fieldLink RX10 7 "LawNumbererModel" "tape" "[B") (by decide +kernel)
  have fl2 := hts (.fieldLink RX10 89 "LawNumbererModel" "length" "I") (by decide +kernel)
  have hl : lv_has ls 3 [(0, .ref (ad 0)), (1, .int a1)] := hl0
  have n3 : ∀ (n : Nat) (x2 : Int32) (σ : Mem) (H : Heap) (locs : List Loc), va_P D vwCl (wdX10 cI cZ cB ad w σ) H → va_D A (wdX10 cI cZ cB ad w σ) → va_S A s.heap H locs → ∀ (ls : Array Slot), lv_has ls 3 [(0, .ref (ad 0)), (1, .int a1), (2, .int x2)] → X10_four_3 a1 n x2 σ = some res → W p l e rmX10_four s m args below meth c H locs 0 0 Q (F0 m 3 ls []) := by
    intro n
    induction n with
    | zero =>
      intro x2 σ H locs hP hD hS ls hl h
      rw [X10_four_3] at h
      cases h
    | succ n_3 ih3 =>
      intro x2 σ H locs hP hD hS ls hl h
      rw [X10_four_3] at h
      refine lv_iload_n hx hb dX10_four_3 rfl (lv_at hl 2 rfl) ?_
      refine lv_if_lt (tgt := 36) hx hb dX10_four_4 (by decide) (fun c1 => ?_) (fun c1 => ?_)
      · have h := ite_t c1 h
        exact hR none (wdX10 cI cZ cB ad w σ) _ _ _ _ rfl (by rw [← Option.some.inj h]) trivial dX10_four_36 hP hS
      · have h := ite_f c1 h
        refine lv_aload_n hx hb dX10_four_7 rfl (lv_at hl 0 rfl) ?_
        refine va_get (ci := 8) (v := .ref (ad 1)) (C := RX10) (T := TX10) (N := 42) hx hb hts hinX10 hown hK hP 0 rfl rfl 1 (by decide) fl1 (fun _ h9 => h9) rfl dX10_four_8 ?_
        refine lv_aload_n hx hb dX10_four_11 rfl (lv_at hl 0 rfl) ?_
        refine va_get (ci := 8) (v := .int (σ 0 2)) (C := RX10) (T := TX10) (N := 42) hx hb hts hinX10 hown hK hP 0 rfl rfl 2 (by decide) fl2 (fun _ h9 => h9) rfl dX10_four_12 ?_
        refine lv_iload_n hx hb dX10_four_15 rfl (lv_at hl 1 rfl) ?_
        refine lv_iload_n hx hb dX10_four_16 rfl (lv_at hl 2 rfl) ?_
        refine lv_ishr hx hb dX10_four_17 ?_
        refine lv_i2b (v := Int8.toInt32 (Int32.toInt8 (a1 >>> (x2 &&& 31)))) hx hb dX10_four_18 rfl ?_
        obtain ⟨hin2, h⟩ := gd_e h
        obtain ⟨σ3, eσ3, h⟩ := lt_e h
        refine va_bast hx hb hK hP hD hS 1 2 rfl rfl hin2 dX10_four_19 (fun H locs hP1 hD1 hS => ?_)
        have hP : va_P D vwCl (wdX10 cI cZ cB ad w σ3) H := by rw [eσ3]; exact hP1
        have hD : va_D A (wdX10 cI cZ cB ad w σ3) := D_of (by rfl) hD
        refine lv_aload_n hx hb dX10_four_20 rfl (lv_at hl 0 rfl) ?_
        refine lv_dup hx hb dX10_four_21 rfl ?_
        refine va_get (ci := 8) (v := .int (σ3 0 2)) (C := RX10) (T := TX10) (N := 42) hx hb hts hinX10 hown hK hP 0 rfl rfl 2 (by decide) fl2 (fun _ h9 => h9) rfl dX10_four_22 ?_
        refine lv_iconst (v := 1) hx hb dX10_four_25 (by decide) ?_
        refine lv_iadd hx hb dX10_four_26 ?_
        obtain ⟨σ4, eσ4, h⟩ := lt_e h
        refine va_put (ci := 8) (v := .int ((σ3 0 2) + 1)) (ty := .int) (C := RX10) (T := TX10) (N := 42) hx hb hts hinX10 tyX10 tyX10_ok nmX10 hown hK hP hD hS 0 rfl rfl 2 (by decide) fl2 (fun _ h9 => h9) rfl (by decide +kernel) rfl rfl (Nat.le_of_ble_eq_true rfl) dX10_four_27 (fun H locs hP1 hD1 hS => ?_)
        have hP : va_P D vwCl (wdX10 cI cZ cB ad w σ4) H := by rw [eσ4]; exact hP1
        have hD : va_D A (wdX10 cI cZ cB ad w σ4) := D_of (by rfl) hD
        obtain ⟨x2_5, ex2_5, h⟩ := lt_e h
        refine lv_iinc (v := x2_5) (lv' := [(2, .int x2_5), (0, .ref (ad 0)), (1, .int a1)]) hx hb dX10_four_30 hl (k := 2) rfl (by rw [ex2_5]; rfl) (by decide) rfl (fun ls hl => ?_)
        refine lv_goto (tgt := 3) hx hb dX10_four_33 (by decide) ?_
        exact ih3 x2_5 σ4 _ _ hP hD hS _ (lv_sub hl [1, 2, 0] rfl) h
  rw [X10_four] at h
  have hS := hS
  refine lv_bipush (v := 24) hx hb dX10_four_0 (by decide) ?_
  refine lv_istore_n (lv' := [(2, .int 24), (0, .ref (ad 0)), (1, .int a1)]) hx hb dX10_four_2 rfl hl (by decide) rfl (fun ls hl => ?_)
  exact n3 FU 24 σ _ _ hP hD hS _ (lv_sub hl [1, 2, 0] rfl) h
set_option maxHeartbeats 4000000 in
set_option maxRecDepth 100000 in
theorem mX10_four (l : Launch) (D : va_G) (cI cZ cB : ClassId) (ad : Nat → Nat) (w : Int64) (σ : Mem) (sz : Nat) (a1 : Int32) (res : Mem) (h : X10_four a1 σ = some res) : Met l yX10_four wsX10_four rmX10_four (pW D cI cZ cB (wdX10 cI cZ cB ad w σ) sz [.ref (ad 0), .int a1]) (qW D none (wdX10 cI cZ cB ad w res) (va_A (wdX10 cI cZ cB ad w σ) sz)) 0 0 (va_A (wdX10 cI cZ cB ad w σ) sz) := (bX10_four l D cI cZ cB ad w σ a1 res h).metv (by decide +kernel) rfl (Nat.le_of_ble_eq_true rfl)
def rmX10_feed : Room := { frames := 1, cells := 0, slots := 0, locals := 22 }
set_option maxHeartbeats 4000000 in
set_option maxRecDepth 100000 in
theorem bX10_feed (l : Launch) (D : va_G) (cI cZ cB : ClassId) (ad : Nat → Nat) (w : Int64) (σ : Mem) (a1 : Int32) (a2 : Int32) (a3 : Int32) (a4 : Int32) (a5 : Int32) (res : Int32 × Mem) (h : X10_feed a1 a2 a3 a4 a5 σ = some res) : BW l yX10_feed wsX10_feed rmX10_feed cX10_feed 6 (some .int) D cI cZ cB (wdX10 cI cZ cB ad w σ) [.ref (ad 0), .int a1, .int a2, .int a3, .int a4, .int a5] (some (.int res.1)) (wdX10 cI cZ cB ad w res.2) := by
  intro p e s m args below meth c ls Q A hx hb hml hts hown hK hA hP hD hS hl0 hR
  have hinX10 : ∀ w ∈ u_ws RX10 TX10 42, w ∈ wsX10_feed := (fun _ h => List.mem_cons_of_mem _ (List.mem_append_right _ h))
  have fl1 := hts (.fieldLink RX10 86 "LawNumbererModel" "thrown" "I") (by decide +kernel)
  have fl2 := hts (.fieldLink RX10 89 "LawNumbererModel" "length" "I") (by decide +kernel)
  have hl : lv_has ls 6 [(0, .ref (ad 0)), (1, .int a1), (2, .int a2), (3, .int a3), (4, .int a4), (5, .int a5)] := hl0
  rw [X10_feed] at h
  have hS := hS
  refine lv_aload_n hx hb dX10_feed_0 rfl (lv_at hl 0 rfl) ?_
  refine lv_iconst (v := 0) hx hb dX10_feed_1 (by decide) ?_
  obtain ⟨σ1, eσ1, h⟩ := lt_e h
  refine va_put (ci := 8) (v := .int 0) (ty := .int) (C := RX10) (T := TX10) (N := 42) hx hb hts hinX10 tyX10 tyX10_ok nmX10 hown hK hP hD hS 0 rfl rfl 0 (by decide) fl1 (fun _ h9 => h9) rfl (by decide +kernel) rfl rfl (Nat.le_of_ble_eq_true rfl) dX10_feed_2 (fun H locs hP1 hD1 hS => ?_)
  have hP : va_P D vwCl (wdX10 cI cZ cB ad w σ1) H := by rw [eσ1]; exact hP1
  have hD : va_D A (wdX10 cI cZ cB ad w σ1) := D_of (by rfl) hD
  refine lv_aload_n hx hb dX10_feed_5 rfl (lv_at hl 0 rfl) ?_
  refine va_get (ci := 8) (v := .int (σ1 0 2)) (C := RX10) (T := TX10) (N := 42) hx hb hts hinX10 hown hK hP 0 rfl rfl 2 (by decide) fl2 (fun _ h9 => h9) rfl dX10_feed_6 ?_
  refine lv_bipush (v := 20) hx hb dX10_feed_9 (by decide) ?_
  refine lv_iadd hx hb dX10_feed_11 ?_
  refine lv_sipush (v := 200) hx hb dX10_feed_12 (by decide) ?_
  refine lv_icmp_le (tgt := 20) hx hb dX10_feed_15 (by decide) (fun c2 => ?_) (fun c2 => ?_)
  · have h := ite_t c2 h
    refine lv_aload_n hx hb dX10_feed_20 rfl (lv_at hl 0 rfl) ?_
    refine lv_iload_n hx hb dX10_feed_21 rfl (lv_at hl 1 rfl) ?_
    obtain ⟨r3, hr3, h⟩ := bd_e h
    obtain ⟨σ4, eσ4, h⟩ := lt_e h
    refine cl_WVs (rest := []) (wn := (wdX10 cI cZ cB ad w σ4)) (ci := 8) (q0 := 0) ⟨hx, hb, hml, hown, hts⟩ (mX10_four l D cI cZ cB ad w σ1 H.size a1 r3 hr3) (cwV 1 hts gX10_feed_X10_four rfl rfl rfl (by decide +kernel) ⟨Nat.le_of_ble_eq_true rfl, Nat.le_of_ble_eq_true rfl⟩) hK hP hD hS hA (by rw [eσ4]) rfl rfl rfl rfl rfl hl.1 rfl (Nat.le_of_ble_eq_true rfl) dX10_feed_22 ⟨Nat.zero_le _, Nat.zero_le _⟩ (fun H locs hP hD hS => ?_)
    refine W.eq (g2 := F0 m 25 ls []) rfl ?_
    refine lv_aload_n hx hb dX10_feed_25 rfl (lv_at hl 0 rfl) ?_
    refine lv_iload_n hx hb dX10_feed_26 rfl (lv_at hl 2 rfl) ?_
    obtain ⟨r5, hr5, h⟩ := bd_e h
    obtain ⟨σ6, eσ6, h⟩ := lt_e h
    refine cl_WVs (rest := []) (wn := (wdX10 cI cZ cB ad w σ6)) (ci := 8) (q0 := 0) ⟨hx, hb, hml, hown, hts⟩ (mX10_four l D cI cZ cB ad w σ4 H.size a2 r5 hr5) (cwV 1 hts gX10_feed_X10_four rfl rfl rfl (by decide +kernel) ⟨Nat.le_of_ble_eq_true rfl, Nat.le_of_ble_eq_true rfl⟩) hK hP hD hS hA (by rw [eσ6]) rfl rfl rfl rfl rfl hl.1 rfl (Nat.le_of_ble_eq_true rfl) dX10_feed_27 ⟨Nat.zero_le _, Nat.zero_le _⟩ (fun H locs hP hD hS => ?_)
    refine W.eq (g2 := F0 m 30 ls []) rfl ?_
    refine lv_aload_n hx hb dX10_feed_30 rfl (lv_at hl 0 rfl) ?_
    refine lv_iload_n hx hb dX10_feed_31 rfl (lv_at hl 3 rfl) ?_
    obtain ⟨r7, hr7, h⟩ := bd_e h
    obtain ⟨σ8, eσ8, h⟩ := lt_e h
    refine cl_WVs (rest := []) (wn := (wdX10 cI cZ cB ad w σ8)) (ci := 8) (q0 := 0) ⟨hx, hb, hml, hown, hts⟩ (mX10_four l D cI cZ cB ad w σ6 H.size a3 r7 hr7) (cwV 1 hts gX10_feed_X10_four rfl rfl rfl (by decide +kernel) ⟨Nat.le_of_ble_eq_true rfl, Nat.le_of_ble_eq_true rfl⟩) hK hP hD hS hA (by rw [eσ8]) rfl rfl rfl rfl rfl hl.1 rfl (Nat.le_of_ble_eq_true rfl) dX10_feed_32 ⟨Nat.zero_le _, Nat.zero_le _⟩ (fun H locs hP hD hS => ?_)
    refine W.eq (g2 := F0 m 35 ls []) rfl ?_
    refine lv_aload_n hx hb dX10_feed_35 rfl (lv_at hl 0 rfl) ?_
    refine lv_iload hx hb dX10_feed_36 (lv_at hl 4 rfl) ?_
    obtain ⟨r9, hr9, h⟩ := bd_e h
    obtain ⟨σ10, eσ10, h⟩ := lt_e h
    refine cl_WVs (rest := []) (wn := (wdX10 cI cZ cB ad w σ10)) (ci := 8) (q0 := 0) ⟨hx, hb, hml, hown, hts⟩ (mX10_four l D cI cZ cB ad w σ8 H.size a4 r9 hr9) (cwV 1 hts gX10_feed_X10_four rfl rfl rfl (by decide +kernel) ⟨Nat.le_of_ble_eq_true rfl, Nat.le_of_ble_eq_true rfl⟩) hK hP hD hS hA (by rw [eσ10]) rfl rfl rfl rfl rfl hl.1 rfl (Nat.le_of_ble_eq_true rfl) dX10_feed_38 ⟨Nat.zero_le _, Nat.zero_le _⟩ (fun H locs hP hD hS => ?_)
    refine W.eq (g2 := F0 m 41 ls []) rfl ?_
    refine lv_aload_n hx hb dX10_feed_41 rfl (lv_at hl 0 rfl) ?_
    refine lv_iload hx hb dX10_feed_42 (lv_at hl 5 rfl) ?_
    obtain ⟨r11, hr11, h⟩ := bd_e h
    obtain ⟨σ12, eσ12, h⟩ := lt_e h
    refine cl_WVs (rest := []) (wn := (wdX10 cI cZ cB ad w σ12)) (ci := 8) (q0 := 0) ⟨hx, hb, hml, hown, hts⟩ (mX10_four l D cI cZ cB ad w σ10 H.size a5 r11 hr11) (cwV 1 hts gX10_feed_X10_four rfl rfl rfl (by decide +kernel) ⟨Nat.le_of_ble_eq_true rfl, Nat.le_of_ble_eq_true rfl⟩) hK hP hD hS hA (by rw [eσ12]) rfl rfl rfl rfl rfl hl.1 rfl (Nat.le_of_ble_eq_true rfl) dX10_feed_44 ⟨Nat.zero_le _, Nat.zero_le _⟩ (fun H locs hP hD hS => ?_)
    refine W.eq (g2 := F0 m 47 ls []) rfl ?_
    refine lv_aload_n hx hb dX10_feed_47 rfl (lv_at hl 0 rfl) ?_
    refine va_get (ci := 8) (v := .int (σ12 0 2)) (C := RX10) (T := TX10) (N := 42) hx hb hts hinX10 hown hK hP 0 rfl rfl 2 (by decide) fl2 (fun _ h9 => h9) rfl dX10_feed_48 ?_
    exact hR (some (.int (σ12 0 2))) (wdX10 cI cZ cB ad w σ12) _ _ _ _ (by rw [← Option.some.inj h]) (by rw [← Option.some.inj h]) rfl dX10_feed_51 hP hS
  · have h := ite_f c2 h
    refine lv_iconst (v := (-1)) hx hb dX10_feed_18 (by decide) ?_
    exact hR (some (.int (-1))) (wdX10 cI cZ cB ad w σ1) _ _ _ _ (by rw [← Option.some.inj h]) (by rw [← Option.some.inj h]) rfl dX10_feed_19 hP hS
set_option maxHeartbeats 4000000 in
set_option maxRecDepth 100000 in
theorem mX10_feed (l : Launch) (D : va_G) (cI cZ cB : ClassId) (ad : Nat → Nat) (w : Int64) (σ : Mem) (sz : Nat) (a1 : Int32) (a2 : Int32) (a3 : Int32) (a4 : Int32) (a5 : Int32) (res : Int32 × Mem) (h : X10_feed a1 a2 a3 a4 a5 σ = some res) : Met l yX10_feed wsX10_feed rmX10_feed (pW D cI cZ cB (wdX10 cI cZ cB ad w σ) sz [.ref (ad 0), .int a1, .int a2, .int a3, .int a4, .int a5]) (qW D (some (.int res.1)) (wdX10 cI cZ cB ad w res.2) (va_A (wdX10 cI cZ cB ad w σ) sz)) 0 0 (va_A (wdX10 cI cZ cB ad w σ) sz) := (bX10_feed l D cI cZ cB ad w σ a1 a2 a3 a4 a5 res h).met (by decide +kernel) rfl (Nat.le_of_ble_eq_true rfl)
def rmX10_end : Room := { frames := 0, cells := 0, slots := 0, locals := 0 }
set_option maxHeartbeats 4000000 in
set_option maxRecDepth 100000 in
theorem bX10_end (l : Launch) (D : va_G) (cI cZ cB : ClassId) (ad : Nat → Nat) (w : Int64) (σ : Mem) (a1 : Int32) (res : Int32 × Mem) (h : X10_end a1 σ = some res) : BW l yX10_end wsX10_end rmX10_end cX10_end 2 (some .boolean) D cI cZ cB (wdX10 cI cZ cB ad w σ) [.ref (ad 0), .int a1] (some (.int res.1)) (wdX10 cI cZ cB ad w res.2) := by
  intro p e s m args below meth c ls Q A hx hb hml hts hown hK hA hP hD hS hl0 hR
  have hinX10 : ∀ w ∈ u_ws RX10 TX10 42, w ∈ wsX10_end := (fun _ h => List.mem_cons_of_mem _ (List.mem_append_right _ h))
  have fl1 := hts (.fieldLink RX10 86 "LawNumbererModel" "thrown" "I") (by decide +kernel)
  have fl2 := hts (.fieldLink RX10 89 "LawNumbererModel" "length" "I") (by decide +kernel)
  have hl : lv_has ls 2 [(0, .ref (ad 0)), (1, .int a1)] := hl0
  rw [X10_end] at h
  have hS := hS
  refine lv_aload_n hx hb dX10_end_0 rfl (lv_at hl 0 rfl) ?_
  refine lv_iconst (v := 0) hx hb dX10_end_1 (by decide) ?_
  obtain ⟨σ1, eσ1, h⟩ := lt_e h
  refine va_put (ci := 8) (v := .int 0) (ty := .int) (C := RX10) (T := TX10) (N := 42) hx hb hts hinX10 tyX10 tyX10_ok nmX10 hown hK hP hD hS 0 rfl rfl 0 (by decide) fl1 (fun _ h9 => h9) rfl (by decide +kernel) rfl rfl (Nat.le_of_ble_eq_true rfl) dX10_end_2 (fun H locs hP1 hD1 hS => ?_)
  have hP : va_P D vwCl (wdX10 cI cZ cB ad w σ1) H := by rw [eσ1]; exact hP1
  have hD : va_D A (wdX10 cI cZ cB ad w σ1) := D_of (by rfl) hD
  refine lv_iload_n hx hb dX10_end_5 rfl (lv_at hl 1 rfl) ?_
  refine lv_if_lt (tgt := 17) hx hb dX10_end_6 (by decide) (fun c2 => ?_) (fun c2 => ?_)
  · have h := ite_t c2 h
    refine lv_iconst (v := 0) hx hb dX10_end_17 (by decide) ?_
    exact hR (some (.int 0)) (wdX10 cI cZ cB ad w σ1) _ _ _ _ (by rw [← Option.some.inj h]) (by rw [← Option.some.inj h]) nb0 dX10_end_18 hP hS
  · have h := ite_f c2 h
    refine lv_iload_n hx hb dX10_end_9 rfl (lv_at hl 1 rfl) ?_
    refine lv_aload_n hx hb dX10_end_10 rfl (lv_at hl 0 rfl) ?_
    refine va_get (ci := 8) (v := .int (σ1 0 2)) (C := RX10) (T := TX10) (N := 42) hx hb hts hinX10 hown hK hP 0 rfl rfl 2 (by decide) fl2 (fun _ h9 => h9) rfl dX10_end_11 ?_
    refine lv_icmp_le (tgt := 19) hx hb dX10_end_14 (by decide) (fun c3 => ?_) (fun c3 => ?_)
    · have h := ite_t c3 h
      refine lv_aload_n hx hb dX10_end_19 rfl (lv_at hl 0 rfl) ?_
      refine lv_iload_n hx hb dX10_end_20 rfl (lv_at hl 1 rfl) ?_
      obtain ⟨σ4, eσ4, h⟩ := lt_e h
      refine va_put (ci := 8) (v := .int a1) (ty := .int) (C := RX10) (T := TX10) (N := 42) hx hb hts hinX10 tyX10 tyX10_ok nmX10 hown hK hP hD hS 0 rfl rfl 2 (by decide) fl2 (fun _ h9 => h9) rfl (by decide +kernel) rfl rfl (Nat.le_of_ble_eq_true rfl) dX10_end_21 (fun H locs hP1 hD1 hS => ?_)
      have hP : va_P D vwCl (wdX10 cI cZ cB ad w σ4) H := by rw [eσ4]; exact hP1
      have hD : va_D A (wdX10 cI cZ cB ad w σ4) := D_of (by rfl) hD
      refine lv_iconst (v := 1) hx hb dX10_end_24 (by decide) ?_
      exact hR (some (.int 1)) (wdX10 cI cZ cB ad w σ4) _ _ _ _ (by rw [← Option.some.inj h]) (by rw [← Option.some.inj h]) nb1 dX10_end_25 hP hS
    · have h := ite_f c3 h
      refine lv_iconst (v := 0) hx hb dX10_end_17 (by decide) ?_
      exact hR (some (.int 0)) (wdX10 cI cZ cB ad w σ1) _ _ _ _ (by rw [← Option.some.inj h]) (by rw [← Option.some.inj h]) nb0 dX10_end_18 hP hS
set_option maxHeartbeats 4000000 in
set_option maxRecDepth 100000 in
theorem mX10_end (l : Launch) (D : va_G) (cI cZ cB : ClassId) (ad : Nat → Nat) (w : Int64) (σ : Mem) (sz : Nat) (a1 : Int32) (res : Int32 × Mem) (h : X10_end a1 σ = some res) : Met l yX10_end wsX10_end rmX10_end (pW D cI cZ cB (wdX10 cI cZ cB ad w σ) sz [.ref (ad 0), .int a1]) (qW D (some (.int res.1)) (wdX10 cI cZ cB ad w res.2) (va_A (wdX10 cI cZ cB ad w σ) sz)) 0 0 (va_A (wdX10 cI cZ cB ad w σ) sz) := (bX10_end l D cI cZ cB ad w σ a1 res h).met (by decide +kernel) rfl (Nat.le_of_ble_eq_true rfl)
def rmX10_taken : Room := { frames := 0, cells := 0, slots := 0, locals := 0 }
set_option maxHeartbeats 4000000 in
set_option maxRecDepth 100000 in
theorem bX10_taken (l : Launch) (D : va_G) (cI cZ cB : ClassId) (ad : Nat → Nat) (w : Int64) (σ : Mem) (res : Mem) (h : X10_taken σ = some res) : BW l yX10_taken wsX10_taken rmX10_taken cX10_taken 1 none D cI cZ cB (wdX10 cI cZ cB ad w σ) [.ref (ad 0)] none (wdX10 cI cZ cB ad w res) := by
  intro p e s m args below meth c ls Q A hx hb hml hts hown hK hA hP hD hS hl0 hR
  have hinX10 : ∀ w ∈ u_ws RX10 TX10 42, w ∈ wsX10_taken := (fun _ h => List.mem_cons_of_mem _ (List.mem_append_right _ h))
  have fl1 := hts (.fieldLink RX10 89 "LawNumbererModel" "length" "I") (by decide +kernel)
  have fl2 := hts (.fieldLink RX10 96 "LawNumbererModel" "size" "I") (by decide +kernel)
  have fl3 := hts (.fieldLink RX10 99 "LawNumbererModel" "p" "I") (by decide +kernel)
  have hl : lv_has ls 1 [(0, .ref (ad 0))] := hl0
  rw [X10_taken] at h
  have hS := hS
  refine lv_aload_n hx hb dX10_taken_0 rfl (lv_at hl 0 rfl) ?_
  refine lv_aload_n hx hb dX10_taken_1 rfl (lv_at hl 0 rfl) ?_
  refine va_get (ci := 8) (v := .int (σ 0 2)) (C := RX10) (T := TX10) (N := 42) hx hb hts hinX10 hown hK hP 0 rfl rfl 2 (by decide) fl1 (fun _ h9 => h9) rfl dX10_taken_2 ?_
  obtain ⟨σ1, eσ1, h⟩ := lt_e h
  refine va_put (ci := 8) (v := .int (σ 0 2)) (ty := .int) (C := RX10) (T := TX10) (N := 42) hx hb hts hinX10 tyX10 tyX10_ok nmX10 hown hK hP hD hS 0 rfl rfl 3 (by decide) fl2 (fun _ h9 => h9) rfl (by decide +kernel) rfl rfl (Nat.le_of_ble_eq_true rfl) dX10_taken_5 (fun H locs hP1 hD1 hS => ?_)
  have hP : va_P D vwCl (wdX10 cI cZ cB ad w σ1) H := by rw [eσ1]; exact hP1
  have hD : va_D A (wdX10 cI cZ cB ad w σ1) := D_of (by rfl) hD
  refine lv_aload_n hx hb dX10_taken_8 rfl (lv_at hl 0 rfl) ?_
  refine lv_iconst (v := 0) hx hb dX10_taken_9 (by decide) ?_
  obtain ⟨σ2, eσ2, h⟩ := lt_e h
  refine va_put (ci := 8) (v := .int 0) (ty := .int) (C := RX10) (T := TX10) (N := 42) hx hb hts hinX10 tyX10 tyX10_ok nmX10 hown hK hP hD hS 0 rfl rfl 2 (by decide) fl1 (fun _ h9 => h9) rfl (by decide +kernel) rfl rfl (Nat.le_of_ble_eq_true rfl) dX10_taken_10 (fun H locs hP1 hD1 hS => ?_)
  have hP : va_P D vwCl (wdX10 cI cZ cB ad w σ2) H := by rw [eσ2]; exact hP1
  have hD : va_D A (wdX10 cI cZ cB ad w σ2) := D_of (by rfl) hD
  refine lv_aload_n hx hb dX10_taken_13 rfl (lv_at hl 0 rfl) ?_
  refine lv_iconst (v := 0) hx hb dX10_taken_14 (by decide) ?_
  obtain ⟨σ3, eσ3, h⟩ := lt_e h
  refine va_put (ci := 8) (v := .int 0) (ty := .int) (C := RX10) (T := TX10) (N := 42) hx hb hts hinX10 tyX10 tyX10_ok nmX10 hown hK hP hD hS 0 rfl rfl 4 (by decide) fl3 (fun _ h9 => h9) rfl (by decide +kernel) rfl rfl (Nat.le_of_ble_eq_true rfl) dX10_taken_15 (fun H locs hP1 hD1 hS => ?_)
  have hP : va_P D vwCl (wdX10 cI cZ cB ad w σ3) H := by rw [eσ3]; exact hP1
  have hD : va_D A (wdX10 cI cZ cB ad w σ3) := D_of (by rfl) hD
  exact hR none (wdX10 cI cZ cB ad w σ3) _ _ _ _ rfl (by rw [← Option.some.inj h]) trivial dX10_taken_18 hP hS
set_option maxHeartbeats 4000000 in
set_option maxRecDepth 100000 in
theorem mX10_taken (l : Launch) (D : va_G) (cI cZ cB : ClassId) (ad : Nat → Nat) (w : Int64) (σ : Mem) (sz : Nat) (res : Mem) (h : X10_taken σ = some res) : Met l yX10_taken wsX10_taken rmX10_taken (pW D cI cZ cB (wdX10 cI cZ cB ad w σ) sz [.ref (ad 0)]) (qW D none (wdX10 cI cZ cB ad w res) (va_A (wdX10 cI cZ cB ad w σ) sz)) 0 0 (va_A (wdX10 cI cZ cB ad w σ) sz) := (bX10_taken l D cI cZ cB ad w σ res h).metv (by decide +kernel) rfl (Nat.le_of_ble_eq_true rfl)
def rmX10_peek : Room := { frames := 0, cells := 0, slots := 0, locals := 0 }
set_option maxHeartbeats 4000000 in
set_option maxRecDepth 100000 in
theorem bX10_peek (l : Launch) (D : va_G) (cI cZ cB : ClassId) (ad : Nat → Nat) (w : Int64) (σ : Mem) (res : Int32) (h : X10_peek σ = some res) : BR l yX10_peek wsX10_peek rmX10_peek cX10_peek 1 (some .int) D cI cZ cB (wdX10 cI cZ cB ad w σ) [.ref (ad 0)] (some (.int res)) := by
  intro p e s m args below meth c ls Q hx hb hml hts hown hK hP hl0 hR
  have hinX10 : ∀ w ∈ u_ws RX10 TX10 42, w ∈ wsX10_peek := (fun _ h => List.mem_cons_of_mem _ (List.mem_append_right _ h))
  have fl1 := hts (.fieldLink RX10 99 "LawNumbererModel" "p" "I") (by decide +kernel)
  have fl2 := hts (.fieldLink RX10 96 "LawNumbererModel" "size" "I") (by decide +kernel)
  have fl3 := hts (.fieldLink RX10 7 "LawNumbererModel" "tape" "[B") (by decide +kernel)
  have hl : lv_has ls 1 [(0, .ref (ad 0))] := hl0
  rw [X10_peek] at h
  refine lv_aload_n hx hb dX10_peek_0 rfl (lv_at hl 0 rfl) ?_
  refine va_get (ci := 8) (v := .int (σ 0 4)) (C := RX10) (T := TX10) (N := 42) hx hb hts hinX10 hown hK hP 0 rfl rfl 4 (by decide) fl1 (fun _ h9 => h9) rfl dX10_peek_1 ?_
  refine lv_aload_n hx hb dX10_peek_4 rfl (lv_at hl 0 rfl) ?_
  refine va_get (ci := 8) (v := .int (σ 0 3)) (C := RX10) (T := TX10) (N := 42) hx hb hts hinX10 hown hK hP 0 rfl rfl 3 (by decide) fl2 (fun _ h9 => h9) rfl dX10_peek_5 ?_
  refine lv_icmp_ge (tgt := 27) hx hb dX10_peek_8 (by decide) (fun c1 => ?_) (fun c1 => ?_)
  · have h := ite_t c1 h
    refine lv_iconst (v := (-1)) hx hb dX10_peek_27 (by decide) ?_
    exact hR (some (.int (-1))) _ _ (by rw [← Option.some.inj h]) rfl dX10_peek_28
  · have h := ite_f c1 h
    refine lv_aload_n hx hb dX10_peek_11 rfl (lv_at hl 0 rfl) ?_
    refine va_get (ci := 8) (v := .ref (ad 1)) (C := RX10) (T := TX10) (N := 42) hx hb hts hinX10 hown hK hP 0 rfl rfl 1 (by decide) fl3 (fun _ h9 => h9) rfl dX10_peek_12 ?_
    refine lv_aload_n hx hb dX10_peek_15 rfl (lv_at hl 0 rfl) ?_
    refine va_get (ci := 8) (v := .int (σ 0 4)) (C := RX10) (T := TX10) (N := 42) hx hb hts hinX10 hown hK hP 0 rfl rfl 4 (by decide) fl1 (fun _ h9 => h9) rfl dX10_peek_16 ?_
    obtain ⟨hin2, h⟩ := gd_e h
    refine va_bald hx hb hK hP 1 2 rfl rfl hin2 dX10_peek_19 ?_
    refine lv_sipush (v := 255) hx hb dX10_peek_20 (by decide) ?_
    refine lv_iand hx hb dX10_peek_23 ?_
    refine lv_goto (tgt := 28) hx hb dX10_peek_24 (by decide) ?_
    exact hR (some (.int ((σ 1 (Int32.toNatClampNeg (σ 0 4))) &&& 255))) _ _ (by rw [← Option.some.inj h]) rfl dX10_peek_28
set_option maxHeartbeats 4000000 in
set_option maxRecDepth 100000 in
theorem mX10_peek (l : Launch) (D : va_G) (cI cZ cB : ClassId) (ad : Nat → Nat) (w : Int64) (σ : Mem) (res : Int32) (h : X10_peek σ = some res) : Met l yX10_peek wsX10_peek rmX10_peek (pR D cI cZ cB (wdX10 cI cZ cB ad w σ) [.ref (ad 0)]) (qR (some (.int res))) 0 0 (fun _ => False) := (bX10_peek l D cI cZ cB ad w σ res h).met (by decide +kernel) rfl (Nat.le_of_ble_eq_true rfl)
def rmX10_wrong : Room := { frames := 0, cells := 0, slots := 0, locals := 0 }
set_option maxHeartbeats 4000000 in
set_option maxRecDepth 100000 in
theorem bX10_wrong (l : Launch) (D : va_G) (cI cZ cB : ClassId) (ad : Nat → Nat) (w : Int64) (σ : Mem) (a1 : Int32) (a2 : Int32) (res : Int32 × Mem) (h : X10_wrong a1 a2 σ = some res) : BW l yX10_wrong wsX10_wrong rmX10_wrong cX10_wrong 3 (some .boolean) D cI cZ cB (wdX10 cI cZ cB ad w σ) [.ref (ad 0), .int a1, .int a2] (some (.int res.1)) (wdX10 cI cZ cB ad w res.2) := by
  intro p e s m args below meth c ls Q A hx hb hml hts hown hK hA hP hD hS hl0 hR
  have hinX10 : ∀ w ∈ u_ws RX10 TX10 42, w ∈ wsX10_wrong := (fun _ h => List.mem_cons_of_mem _ (List.mem_append_right _ h))
  have fl1 := hts (.fieldLink RX10 102 "LawNumbererModel" "fault" "I") (by decide +kernel)
  have fl2 := hts (.fieldLink RX10 31 "LawNumbererModel" "place" "I") (by decide +kernel)
  have hl : lv_has ls 3 [(0, .ref (ad 0)), (1, .int a1), (2, .int a2)] := hl0
  rw [X10_wrong] at h
  have hS := hS
  refine lv_aload_n hx hb dX10_wrong_0 rfl (lv_at hl 0 rfl) ?_
  refine lv_iload_n hx hb dX10_wrong_1 rfl (lv_at hl 1 rfl) ?_
  obtain ⟨σ1, eσ1, h⟩ := lt_e h
  refine va_put (ci := 8) (v := .int a1) (ty := .int) (C := RX10) (T := TX10) (N := 42) hx hb hts hinX10 tyX10 tyX10_ok nmX10 hown hK hP hD hS 0 rfl rfl 12 (by decide) fl1 (fun _ h9 => h9) rfl (by decide +kernel) rfl rfl (Nat.le_of_ble_eq_true rfl) dX10_wrong_2 (fun H locs hP1 hD1 hS => ?_)
  have hP : va_P D vwCl (wdX10 cI cZ cB ad w σ1) H := by rw [eσ1]; exact hP1
  have hD : va_D A (wdX10 cI cZ cB ad w σ1) := D_of (by rfl) hD
  refine lv_aload_n hx hb dX10_wrong_5 rfl (lv_at hl 0 rfl) ?_
  refine lv_iload_n hx hb dX10_wrong_6 rfl (lv_at hl 2 rfl) ?_
  obtain ⟨σ2, eσ2, h⟩ := lt_e h
  refine va_put (ci := 8) (v := .int a2) (ty := .int) (C := RX10) (T := TX10) (N := 42) hx hb hts hinX10 tyX10 tyX10_ok nmX10 hown hK hP hD hS 0 rfl rfl 13 (by decide) fl2 (fun _ h9 => h9) rfl (by decide +kernel) rfl rfl (Nat.le_of_ble_eq_true rfl) dX10_wrong_7 (fun H locs hP1 hD1 hS => ?_)
  have hP : va_P D vwCl (wdX10 cI cZ cB ad w σ2) H := by rw [eσ2]; exact hP1
  have hD : va_D A (wdX10 cI cZ cB ad w σ2) := D_of (by rfl) hD
  refine lv_iconst (v := 0) hx hb dX10_wrong_10 (by decide) ?_
  exact hR (some (.int 0)) (wdX10 cI cZ cB ad w σ2) _ _ _ _ (by rw [← Option.some.inj h]) (by rw [← Option.some.inj h]) nb0 dX10_wrong_11 hP hS
set_option maxHeartbeats 4000000 in
set_option maxRecDepth 100000 in
theorem mX10_wrong (l : Launch) (D : va_G) (cI cZ cB : ClassId) (ad : Nat → Nat) (w : Int64) (σ : Mem) (sz : Nat) (a1 : Int32) (a2 : Int32) (res : Int32 × Mem) (h : X10_wrong a1 a2 σ = some res) : Met l yX10_wrong wsX10_wrong rmX10_wrong (pW D cI cZ cB (wdX10 cI cZ cB ad w σ) sz [.ref (ad 0), .int a1, .int a2]) (qW D (some (.int res.1)) (wdX10 cI cZ cB ad w res.2) (va_A (wdX10 cI cZ cB ad w σ) sz)) 0 0 (va_A (wdX10 cI cZ cB ad w σ) sz) := (bX10_wrong l D cI cZ cB ad w σ a1 a2 res h).met (by decide +kernel) rfl (Nat.le_of_ble_eq_true rfl)
def rmX10_isSmall : Room := { frames := 0, cells := 0, slots := 0, locals := 0 }
set_option maxHeartbeats 4000000 in
set_option maxRecDepth 100000 in
theorem bX10_isSmall (l : Launch) (D : va_G) (cI cZ cB : ClassId) (a0 : Int32) (res : Int32) (h : X10_isSmall a0 = some res) : BR l yX10_isSmall wsX10_isSmall rmX10_isSmall cX10_isSmall 1 (some .boolean) D cI cZ cB wd0 [.int a0] (some (.int res)) := by
  intro p e s m args below meth c ls Q hx hb hml hts hown hK hP hl0 hR
  have hl : lv_has ls 1 [(0, .int a0)] := hl0
  rw [X10_isSmall] at h
  refine lv_iload_n hx hb dX10_isSmall_0 rfl (lv_at hl 0 rfl) ?_
  refine lv_bipush (v := 97) hx hb dX10_isSmall_1 (by decide) ?_
  refine lv_icmp_lt (tgt := 16) hx hb dX10_isSmall_3 (by decide) (fun c1 => ?_) (fun c1 => ?_)
  · have h := ite_t c1 h
    refine lv_iconst (v := 0) hx hb dX10_isSmall_16 (by decide) ?_
    exact hR (some (.int 0)) _ _ (by rw [← Option.some.inj h]) nb0 dX10_isSmall_17
  · have h := ite_f c1 h
    refine lv_iload_n hx hb dX10_isSmall_6 rfl (lv_at hl 0 rfl) ?_
    refine lv_bipush (v := 122) hx hb dX10_isSmall_7 (by decide) ?_
    refine lv_icmp_gt (tgt := 16) hx hb dX10_isSmall_9 (by decide) (fun c2 => ?_) (fun c2 => ?_)
    · have h := ite_t c2 h
      refine lv_iconst (v := 0) hx hb dX10_isSmall_16 (by decide) ?_
      exact hR (some (.int 0)) _ _ (by rw [← Option.some.inj h]) nb0 dX10_isSmall_17
    · have h := ite_f c2 h
      refine lv_iconst (v := 1) hx hb dX10_isSmall_12 (by decide) ?_
      refine lv_goto (tgt := 17) hx hb dX10_isSmall_13 (by decide) ?_
      exact hR (some (.int 1)) _ _ (by rw [← Option.some.inj h]) nb1 dX10_isSmall_17
set_option maxHeartbeats 4000000 in
set_option maxRecDepth 100000 in
theorem mX10_isSmall (l : Launch) (D : va_G) (cI cZ cB : ClassId) (a0 : Int32) (res : Int32) (h : X10_isSmall a0 = some res) : Met l yX10_isSmall wsX10_isSmall rmX10_isSmall (pR D cI cZ cB wd0 [.int a0]) (qR (some (.int res))) 0 0 (fun _ => False) := (bX10_isSmall l D cI cZ cB a0 res h).met (by decide +kernel) rfl (Nat.le_of_ble_eq_true rfl)
def rmX10_isGreat : Room := { frames := 0, cells := 0, slots := 0, locals := 0 }
set_option maxHeartbeats 4000000 in
set_option maxRecDepth 100000 in
theorem bX10_isGreat (l : Launch) (D : va_G) (cI cZ cB : ClassId) (a0 : Int32) (res : Int32) (h : X10_isGreat a0 = some res) : BR l yX10_isGreat wsX10_isGreat rmX10_isGreat cX10_isGreat 1 (some .boolean) D cI cZ cB wd0 [.int a0] (some (.int res)) := by
  intro p e s m args below meth c ls Q hx hb hml hts hown hK hP hl0 hR
  have hl : lv_has ls 1 [(0, .int a0)] := hl0
  rw [X10_isGreat] at h
  refine lv_iload_n hx hb dX10_isGreat_0 rfl (lv_at hl 0 rfl) ?_
  refine lv_bipush (v := 65) hx hb dX10_isGreat_1 (by decide) ?_
  refine lv_icmp_lt (tgt := 16) hx hb dX10_isGreat_3 (by decide) (fun c1 => ?_) (fun c1 => ?_)
  · have h := ite_t c1 h
    refine lv_iconst (v := 0) hx hb dX10_isGreat_16 (by decide) ?_
    exact hR (some (.int 0)) _ _ (by rw [← Option.some.inj h]) nb0 dX10_isGreat_17
  · have h := ite_f c1 h
    refine lv_iload_n hx hb dX10_isGreat_6 rfl (lv_at hl 0 rfl) ?_
    refine lv_bipush (v := 90) hx hb dX10_isGreat_7 (by decide) ?_
    refine lv_icmp_gt (tgt := 16) hx hb dX10_isGreat_9 (by decide) (fun c2 => ?_) (fun c2 => ?_)
    · have h := ite_t c2 h
      refine lv_iconst (v := 0) hx hb dX10_isGreat_16 (by decide) ?_
      exact hR (some (.int 0)) _ _ (by rw [← Option.some.inj h]) nb0 dX10_isGreat_17
    · have h := ite_f c2 h
      refine lv_iconst (v := 1) hx hb dX10_isGreat_12 (by decide) ?_
      refine lv_goto (tgt := 17) hx hb dX10_isGreat_13 (by decide) ?_
      exact hR (some (.int 1)) _ _ (by rw [← Option.some.inj h]) nb1 dX10_isGreat_17
set_option maxHeartbeats 4000000 in
set_option maxRecDepth 100000 in
theorem mX10_isGreat (l : Launch) (D : va_G) (cI cZ cB : ClassId) (a0 : Int32) (res : Int32) (h : X10_isGreat a0 = some res) : Met l yX10_isGreat wsX10_isGreat rmX10_isGreat (pR D cI cZ cB wd0 [.int a0]) (qR (some (.int res))) 0 0 (fun _ => False) := (bX10_isGreat l D cI cZ cB a0 res h).met (by decide +kernel) rfl (Nat.le_of_ble_eq_true rfl)
