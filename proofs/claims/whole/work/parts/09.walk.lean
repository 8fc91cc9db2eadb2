/-! printed: the walks -/
def rmX8_put : Room := { frames := 0, cells := 0, slots := 0, locals := 0 }
set_option maxHeartbeats 4000000 in
set_option maxRecDepth 100000 in
theorem bX8_put (l : Launch) (D : va_G) (cI cZ cB : ClassId) (ad : Nat → Nat) (σ : Mem) (a1 : Int32) (res : Mem) (h : X8_put a1 σ = some res) : BW l yX8_put wsX8_put rmX8_put cX8_put 2 none D cI cZ cB (wdX8 cI cZ cB ad σ) [.ref (ad 0), .int a1] none (wdX8 cI cZ cB ad res) := by
  intro p e s m args below meth c ls Q A hx hb hml hts hown hK hA hP hD hS hl0 hR
  have hinX8 : ∀ w ∈ u_ws RX8 TX8 2, w ∈ wsX8_put := (fun _ h => List.mem_cons_of_mem _ (List.mem_append_right _ h))
  have fl1 := hts (.fieldLink RX8 15 "LawNumberer$Text" "length" "I") (by decide +kernel)
  have fl2 := hts (.fieldLink RX8 9 "LawNumberer$Text" "bytes" "[I") (by decide +kernel)
  have hl : lv_has ls 2 [(0, .ref (ad 0)), (1, .int a1)] := hl0
  rw [X8_put] at h
  have hS := hS
  refine lv_aload_n hx hb dX8_put_0 rfl (lv_at hl 0 rfl) ?_
  refine va_get (ci := 6) (v := .int (σ 0 1)) (C := RX8) (T := TX8) (N := 2) hx hb hts hinX8 hown hK hP 0 rfl rfl 1 (by decide) fl1 (fun _ h9 => h9) rfl dX8_put_1 ?_
  refine lv_aload_n hx hb dX8_put_4 rfl (lv_at hl 0 rfl) ?_
  refine va_get (ci := 6) (v := .ref (ad 1)) (C := RX8) (T := TX8) (N := 2) hx hb hts hinX8 hown hK hP 0 rfl rfl 0 (by decide) fl2 (fun _ h9 => h9) rfl dX8_put_5 ?_
  refine va_alen (v := 200) hx hb hK hP 1 0 rfl rfl rfl dX8_put_8 ?_
  refine lv_icmp_ge (tgt := 32) hx hb dX8_put_9 (by decide) (fun c1 => ?_) (fun c1 => ?_)
  · have h := ite_t c1 h
    exact hR none (wdX8 cI cZ cB ad σ) _ _ _ _ rfl (by rw [← Option.some.inj h]) trivial dX8_put_32 hP hS
  · have h := ite_f c1 h
    refine lv_aload_n hx hb dX8_put_12 rfl (lv_at hl 0 rfl) ?_
    refine va_get (ci := 6) (v := .ref (ad 1)) (C := RX8) (T := TX8) (N := 2) hx hb hts hinX8 hown hK hP 0 rfl rfl 0 (by decide) fl2 (fun _ h9 => h9) rfl dX8_put_13 ?_
    refine lv_aload_n hx hb dX8_put_16 rfl (lv_at hl 0 rfl) ?_
    refine va_get (ci := 6) (v := .int (σ 0 1)) (C := RX8) (T := TX8) (N := 2) hx hb hts hinX8 hown hK hP 0 rfl rfl 1 (by decide) fl1 (fun _ h9 => h9) rfl dX8_put_17 ?_
    refine lv_iload_n hx hb dX8_put_20 rfl (lv_at hl 1 rfl) ?_
    obtain ⟨hin2, h⟩ := gd_e h
    obtain ⟨σ3, eσ3, h⟩ := lt_e h
    refine va_iast hx hb hK hP hD hS 1 0 rfl rfl hin2 dX8_put_21 (fun H locs hP1 hD1 hS => ?_)
    have hP : va_P D vwCl (wdX8 cI cZ cB ad σ3) H := by rw [eσ3]; exact hP1
    have hD : va_D A (wdX8 cI cZ cB ad σ3) := D_of (by rfl) hD
    refine lv_aload_n hx hb dX8_put_22 rfl (lv_at hl 0 rfl) ?_
    refine lv_dup hx hb dX8_put_23 rfl ?_
    refine va_get (ci := 6) (v := .int (σ3 0 1)) (C := RX8) (T := TX8) (N := 2) hx hb hts hinX8 hown hK hP 0 rfl rfl 1 (by decide) fl1 (fun _ h9 => h9) rfl dX8_put_24 ?_
    refine lv_iconst (v := 1) hx hb dX8_put_27 (by decide) ?_
    refine lv_iadd hx hb dX8_put_28 ?_
    obtain ⟨σ4, eσ4, h⟩ := lt_e h
    refine va_put (ci := 6) (v := .int ((σ3 0 1) + 1)) (ty := .int) (C := RX8) (T := TX8) (N := 2) hx hb hts hinX8 tyX8 tyX8_ok nmX8 hown hK hP hD hS 0 rfl rfl 1 (by decide) fl1 (fun _ h9 => h9) rfl (by decide +kernel) rfl rfl (Nat.le_of_ble_eq_true rfl) dX8_put_29 (fun H locs hP1 hD1 hS => ?_)
    have hP : va_P D vwCl (wdX8 cI cZ cB ad σ4) H := by rw [eσ4]; exact hP1
    have hD : va_D A (wdX8 cI cZ cB ad σ4) := D_of (by rfl) hD
    exact hR none (wdX8 cI cZ cB ad σ4) _ _ _ _ rfl (by rw [← Option.some.inj h]) trivial dX8_put_32 hP hS
set_option maxHeartbeats 4000000 in
set_option maxRecDepth 100000 in
theorem mX8_put (l : Launch) (D : va_G) (cI cZ cB : ClassId) (ad : Nat → Nat) (σ : Mem) (sz : Nat) (a1 : Int32) (res : Mem) (h : X8_put a1 σ = some res) : Met l yX8_put wsX8_put rmX8_put (pW D cI cZ cB (wdX8 cI cZ cB ad σ) sz [.ref (ad 0), .int a1]) (qW D none (wdX8 cI cZ cB ad res) (va_A (wdX8 cI cZ cB ad σ) sz)) 0 0 (va_A (wdX8 cI cZ cB ad σ) sz) := (bX8_put l D cI cZ cB ad σ a1 res h).metv (by decide +kernel) rfl (Nat.le_of_ble_eq_true rfl)
def rmX8_putFour : Room := { frames := 1, cells := 0, slots := 0, locals := 21 }
set_option maxHeartbeats 4000000 in
set_option maxRecDepth 100000 in
theorem bX8_putFour (l : Launch) (D : va_G) (cI cZ cB : ClassId) (ad : Nat → Nat) (σ : Mem) (a1 : Int32) (res : Mem) (h : X8_putFour a1 σ = some res) : BW l yX8_putFour wsX8_putFour rmX8_putFour cX8_putFour 2 none D cI cZ cB (wdX8 cI cZ cB ad σ) [.ref (ad 0), .int a1] none (wdX8 cI cZ cB ad res) := by
  intro p e s m args below meth c ls Q A hx hb hml hts hown hK hA hP hD hS hl0 hR
  have hl : lv_has ls 2 [(0, .ref (ad 0)), (1, .int a1)] := hl0
  rw [X8_putFour] at h
  have hS := hS
  refine lv_aload_n hx hb dX8_putFour_0 rfl (lv_at hl 0 rfl) ?_
  refine lv_iload_n hx hb dX8_putFour_1 rfl (lv_at hl 1 rfl) ?_
  refine lv_bipush (v := 24) hx hb dX8_putFour_2 (by decide) ?_
  refine lv_iushr (v := UInt32.toInt32 (Int32.toUInt32 a1 >>> (Int32.toUInt32 24 &&& Int32.toUInt32 31))) hx hb dX8_putFour_4 rfl ?_
  obtain ⟨r1, hr1, h⟩ := bd_e h
  obtain ⟨σ2, eσ2, h⟩ := lt_e h
  refine cl_WV (rest := []) (wn := (wdX8 cI cZ cB ad σ2)) (lp := [0, 1]) (ci := 6) (q0 := 0) ⟨hx, hb, hml, hown, hts⟩ (mX8_put l D cI cZ cB ad σ s.heap.size (UInt32.toInt32 (Int32.toUInt32 a1 >>> (Int32.toUInt32 24 &&& Int32.toUInt32 31))) r1 hr1) (cwV 1 hts gX8_putFour_X8_put rfl rfl rfl (by decide +kernel) ⟨Nat.le_of_ble_eq_true rfl, Nat.le_of_ble_eq_true rfl⟩) hK hP hD hS hA rfl rfl rfl (by rw [eσ2]; rfl) rfl rfl rfl rfl rfl hl.1 rfl (Nat.le_of_ble_eq_true rfl) dX8_putFour_5 ⟨Nat.zero_le _, Nat.zero_le _⟩ (fun H locs hP hD hS => ?_)
  refine W.eq (g2 := F0 m 8 ls []) rfl ?_
  refine lv_aload_n hx hb dX8_putFour_8 rfl (lv_at hl 0 rfl) ?_
  refine lv_iload_n hx hb dX8_putFour_9 rfl (lv_at hl 1 rfl) ?_
  refine lv_bipush (v := 16) hx hb dX8_putFour_10 (by decide) ?_
  refine lv_iushr (v := UInt32.toInt32 (Int32.toUInt32 a1 >>> (Int32.toUInt32 16 &&& Int32.toUInt32 31))) hx hb dX8_putFour_12 rfl ?_
  refine lv_sipush (v := 255) hx hb dX8_putFour_13 (by decide) ?_
  refine lv_iand hx hb dX8_putFour_16 ?_
  obtain ⟨r3, hr3, h⟩ := bd_e h
  obtain ⟨σ4, eσ4, h⟩ := lt_e h
  refine cl_WV (rest := []) (wn := (wdX8 cI cZ cB ad σ4)) (lp := [0, 1]) (ci := 6) (q0 := 0) ⟨hx, hb, hml, hown, hts⟩ (mX8_put l D cI cZ cB ad σ2 H.size ((UInt32.toInt32 (Int32.toUInt32 a1 >>> (Int32.toUInt32 16 &&& Int32.toUInt32 31))) &&& 255) r3 hr3) (cwV 1 hts gX8_putFour_X8_put rfl rfl rfl (by decide +kernel) ⟨Nat.le_of_ble_eq_true rfl, Nat.le_of_ble_eq_true rfl⟩) hK hP hD hS hA rfl rfl rfl (by rw [eσ4]; rfl) rfl rfl rfl rfl rfl hl.1 rfl (Nat.le_of_ble_eq_true rfl) dX8_putFour_17 ⟨Nat.zero_le _, Nat.zero_le _⟩ (fun H locs hP hD hS => ?_)
  refine W.eq (g2 := F0 m 20 ls []) rfl ?_
  refine lv_aload_n hx hb dX8_putFour_20 rfl (lv_at hl 0 rfl) ?_
  refine lv_iload_n hx hb dX8_putFour_21 rfl (lv_at hl 1 rfl) ?_
  refine lv_bipush (v := 8) hx hb dX8_putFour_22 (by decide) ?_
  refine lv_iushr (v := UInt32.toInt32 (Int32.toUInt32 a1 >>> (Int32.toUInt32 8 &&& Int32.toUInt32 31))) hx hb dX8_putFour_24 rfl ?_
  refine lv_sipush (v := 255) hx hb dX8_putFour_25 (by decide) ?_
  refine lv_iand hx hb dX8_putFour_28 ?_
  obtain ⟨r5, hr5, h⟩ := bd_e h
  obtain ⟨σ6, eσ6, h⟩ := lt_e h
  refine cl_WV (rest := []) (wn := (wdX8 cI cZ cB ad σ6)) (lp := [0, 1]) (ci := 6) (q0 := 0) ⟨hx, hb, hml, hown, hts⟩ (mX8_put l D cI cZ cB ad σ4 H.size ((UInt32.toInt32 (Int32.toUInt32 a1 >>> (Int32.toUInt32 8 &&& Int32.toUInt32 31))) &&& 255) r5 hr5) (cwV 1 hts gX8_putFour_X8_put rfl rfl rfl (by decide +kernel) ⟨Nat.le_of_ble_eq_true rfl, Nat.le_of_ble_eq_true rfl⟩) hK hP hD hS hA rfl rfl rfl (by rw [eσ6]; rfl) rfl rfl rfl rfl rfl hl.1 rfl (Nat.le_of_ble_eq_true rfl) dX8_putFour_29 ⟨Nat.zero_le _, Nat.zero_le _⟩ (fun H locs hP hD hS => ?_)
  refine W.eq (g2 := F0 m 32 ls []) rfl ?_
  refine lv_aload_n hx hb dX8_putFour_32 rfl (lv_at hl 0 rfl) ?_
  refine lv_iload_n hx hb dX8_putFour_33 rfl (lv_at hl 1 rfl) ?_
  refine lv_sipush (v := 255) hx hb dX8_putFour_34 (by decide) ?_
  refine lv_iand hx hb dX8_putFour_37 ?_
  obtain ⟨r7, hr7, h⟩ := bd_e h
  obtain ⟨σ8, eσ8, h⟩ := lt_e h
  refine cl_WV (rest := []) (wn := (wdX8 cI cZ cB ad σ8)) (lp := [0, 1]) (ci := 6) (q0 := 0) ⟨hx, hb, hml, hown, hts⟩ (mX8_put l D cI cZ cB ad σ6 H.size (a1 &&& 255) r7 hr7) (cwV 1 hts gX8_putFour_X8_put rfl rfl rfl (by decide +kernel) ⟨Nat.le_of_ble_eq_true rfl, Nat.le_of_ble_eq_true rfl⟩) hK hP hD hS hA rfl rfl rfl (by rw [eσ8]; rfl) rfl rfl rfl rfl rfl hl.1 rfl (Nat.le_of_ble_eq_true rfl) dX8_putFour_38 ⟨Nat.zero_le _, Nat.zero_le _⟩ (fun H locs hP hD hS => ?_)
  refine W.eq (g2 := F0 m 41 ls []) rfl ?_
  exact hR none (wdX8 cI cZ cB ad σ8) _ _ _ _ rfl (by rw [← Option.some.inj h]) trivial dX8_putFour_41 hP hS
set_option maxHeartbeats 4000000 in
set_option maxRecDepth 100000 in
theorem mX8_putFour (l : Launch) (D : va_G) (cI cZ cB : ClassId) (ad : Nat → Nat) (σ : Mem) (sz : Nat) (a1 : Int32) (res : Mem) (h : X8_putFour a1 σ = some res) : Met l yX8_putFour wsX8_putFour rmX8_putFour (pW D cI cZ cB (wdX8 cI cZ cB ad σ) sz [.ref (ad 0), .int a1]) (qW D none (wdX8 cI cZ cB ad res) (va_A (wdX8 cI cZ cB ad σ) sz)) 0 0 (va_A (wdX8 cI cZ cB ad σ) sz) := (bX8_putFour l D cI cZ cB ad σ a1 res h).metv (by decide +kernel) rfl (Nat.le_of_ble_eq_true rfl)
def rmX9_feed : Room := { frames := 2, cells := 0, slots := 0, locals := 42 }
set_option maxHeartbeats 4000000 in
set_option maxRecDepth 100000 in
theorem bX9_feed (l : Launch) (D : va_G) (cI cZ cB : ClassId) (ad : Nat → Nat) (σ : Mem) (a1 : Int32) (a2 : Int32) (a3 : Int32) (a4 : Int32) (a5 : Int32) (res : Int32 × Mem) (h : X9_feed a1 a2 a3 a4 a5 σ = some res) : BW l yX9_feed wsX9_feed rmX9_feed cX9_feed 6 (some .int) D cI cZ cB (wdX9 cI cZ cB ad σ) [.ref (ad 0), .int a1, .int a2, .int a3, .int a4, .int a5] (some (.int res.1)) (wdX9 cI cZ cB ad res.2) := by
  intro p e s m args below meth c ls Q A hx hb hml hts hown hK hA hP hD hS hl0 hR
  have hinX8 : ∀ w ∈ u_ws RX8 TX8 2, w ∈ wsX9_feed := (fun _ h => List.mem_cons_of_mem _ (List.mem_append_right _ h))
  have hinX9 : ∀ w ∈ u_ws RX9 TX9 15, w ∈ wsX9_feed := (fun _ h => List.mem_cons_of_mem _ (List.mem_append_left _ (List.mem_append_right _ h)))
  have fl1 := hts (.fieldLink RX9 10 "LawNumberer" "tape" "LLawNumberer$Text;") (by decide +kernel)
  have fl2 := hts (.fieldLink RX9 78 "LawNumberer$Text" "length" "I") (by decide +kernel)
  have hl : lv_has ls 6 [(0, .ref (ad 0)), (1, .int a1), (2, .int a2), (3, .int a3), (4, .int a4), (5, .int a5)] := hl0
  rw [X9_feed] at h
  have hS := hS
  refine lv_aload_n hx hb dX9_feed_0 rfl (lv_at hl 0 rfl) ?_
  refine va_get (ci := 7) (v := .ref (ad 1)) (C := RX9) (T := TX9) (N := 15) hx hb hts hinX9 hown hK hP 0 rfl rfl 0 (by decide) fl1 (fun _ h9 => h9) rfl dX9_feed_1 ?_
  refine va_get (ci := 6) (v := .int (σ 1 1)) (C := RX8) (T := TX8) (N := 2) hx hb hts hinX8 hown hK hP 1 rfl rfl 1 (by decide) fl2 (fun _ h9 => h9) rfl dX9_feed_4 ?_
  refine lv_bipush (v := 20) hx hb dX9_feed_7 (by decide) ?_
  refine lv_iadd hx hb dX9_feed_9 ?_
  refine lv_sipush (v := 200) hx hb dX9_feed_10 (by decide) ?_
  refine lv_icmp_le (tgt := 18) hx hb dX9_feed_13 (by decide) (fun c1 => ?_) (fun c1 => ?_)
  · have h := ite_t c1 h
    refine lv_aload_n hx hb dX9_feed_18 rfl (lv_at hl 0 rfl) ?_
    refine va_get (ci := 7) (v := .ref (ad 1)) (C := RX9) (T := TX9) (N := 15) hx hb hts hinX9 hown hK hP 0 rfl rfl 0 (by decide) fl1 (fun _ h9 => h9) rfl dX9_feed_19 ?_
    refine lv_iload_n hx hb dX9_feed_22 rfl (lv_at hl 1 rfl) ?_
    obtain ⟨r2, hr2, h⟩ := bd_e h
    obtain ⟨σ3, eσ3, h⟩ := lt_e h
    refine cl_WV (rest := []) (wn := (wdX9 cI cZ cB ad σ3)) (lp := [1, 2]) (ci := 6) (q0 := 0) ⟨hx, hb, hml, hown, hts⟩ (mX8_putFour l D cI cZ cB (mp ad [1, 2]) (mp σ [1, 2]) s.heap.size a1 r2 hr2) (cwV 1 hts gX9_feed_X8_putFour rfl rfl rfl (by decide +kernel) ⟨Nat.le_of_ble_eq_true rfl, Nat.le_of_ble_eq_true rfl⟩) hK hP hD hS hA rfl rfl rfl (by rw [eσ3]; rfl) rfl rfl rfl rfl rfl hl.1 rfl (Nat.le_of_ble_eq_true rfl) dX9_feed_23 ⟨Nat.zero_le _, Nat.zero_le _⟩ (fun H locs hP hD hS => ?_)
    refine W.eq (g2 := F0 m 26 ls []) rfl ?_
    refine lv_aload_n hx hb dX9_feed_26 rfl (lv_at hl 0 rfl) ?_
    refine va_get (ci := 7) (v := .ref (ad 1)) (C := RX9) (T := TX9) (N := 15) hx hb hts hinX9 hown hK hP 0 rfl rfl 0 (by decide) fl1 (fun _ h9 => h9) rfl dX9_feed_27 ?_
    refine lv_iload_n hx hb dX9_feed_30 rfl (lv_at hl 2 rfl) ?_
    obtain ⟨r4, hr4, h⟩ := bd_e h
    obtain ⟨σ5, eσ5, h⟩ := lt_e h
    refine cl_WV (rest := []) (wn := (wdX9 cI cZ cB ad σ5)) (lp := [1, 2]) (ci := 6) (q0 := 0) ⟨hx, hb, hml, hown, hts⟩ (mX8_putFour l D cI cZ cB (mp ad [1, 2]) (mp σ3 [1, 2]) H.size a2 r4 hr4) (cwV 1 hts gX9_feed_X8_putFour rfl rfl rfl (by decide +kernel) ⟨Nat.le_of_ble_eq_true rfl, Nat.le_of_ble_eq_true rfl⟩) hK hP hD hS hA rfl rfl rfl (by rw [eσ5]; rfl) rfl rfl rfl rfl rfl hl.1 rfl (Nat.le_of_ble_eq_true rfl) dX9_feed_31 ⟨Nat.zero_le _, Nat.zero_le _⟩ (fun H locs hP hD hS => ?_)
    refine W.eq (g2 := F0 m 34 ls []) rfl ?_
    refine lv_aload_n hx hb dX9_feed_34 rfl (lv_at hl 0 rfl) ?_
    refine va_get (ci := 7) (v := .ref (ad 1)) (C := RX9) (T := TX9) (N := 15) hx hb hts hinX9 hown hK hP 0 rfl rfl 0 (by decide) fl1 (fun _ h9 => h9) rfl dX9_feed_35 ?_
    refine lv_iload_n hx hb dX9_feed_38 rfl (lv_at hl 3 rfl) ?_
    obtain ⟨r6, hr6, h⟩ := bd_e h
    obtain ⟨σ7, eσ7, h⟩ := lt_e h
    refine cl_WV (rest := []) (wn := (wdX9 cI cZ cB ad σ7)) (lp := [1, 2]) (ci := 6) (q0 := 0) ⟨hx, hb, hml, hown, hts⟩ (mX8_putFour l D cI cZ cB (mp ad [1, 2]) (mp σ5 [1, 2]) H.size a3 r6 hr6) (cwV 1 hts gX9_feed_X8_putFour rfl rfl rfl (by decide +kernel) ⟨Nat.le_of_ble_eq_true rfl, Nat.le_of_ble_eq_true rfl⟩) hK hP hD hS hA rfl rfl rfl (by rw [eσ7]; rfl) rfl rfl rfl rfl rfl hl.1 rfl (Nat.le_of_ble_eq_true rfl) dX9_feed_39 ⟨Nat.zero_le _, Nat.zero_le _⟩ (fun H locs hP hD hS => ?_)
    refine W.eq (g2 := F0 m 42 ls []) rfl ?_
    refine lv_aload_n hx hb dX9_feed_42 rfl (lv_at hl 0 rfl) ?_
    refine va_get (ci := 7) (v := .ref (ad 1)) (C := RX9) (T := TX9) (N := 15) hx hb hts hinX9 hown hK hP 0 rfl rfl 0 (by decide) fl1 (fun _ h9 => h9) rfl dX9_feed_43 ?_
    refine lv_iload hx hb dX9_feed_46 (lv_at hl 4 rfl) ?_
    obtain ⟨r8, hr8, h⟩ := bd_e h
    obtain ⟨σ9, eσ9, h⟩ := lt_e h
    refine cl_WV (rest := []) (wn := (wdX9 cI cZ cB ad σ9)) (lp := [1, 2]) (ci := 6) (q0 := 0) ⟨hx, hb, hml, hown, hts⟩ (mX8_putFour l D cI cZ cB (mp ad [1, 2]) (mp σ7 [1, 2]) H.size a4 r8 hr8) (cwV 1 hts gX9_feed_X8_putFour rfl rfl rfl (by decide +kernel) ⟨Nat.le_of_ble_eq_true rfl, Nat.le_of_ble_eq_true rfl⟩) hK hP hD hS hA rfl rfl rfl (by rw [eσ9]; rfl) rfl rfl rfl rfl rfl hl.1 rfl (Nat.le_of_ble_eq_true rfl) dX9_feed_48 ⟨Nat.zero_le _, Nat.zero_le _⟩ (fun H locs hP hD hS => ?_)
    refine W.eq (g2 := F0 m 51 ls []) rfl ?_
    refine lv_aload_n hx hb dX9_feed_51 rfl (lv_at hl 0 rfl) ?_
    refine va_get (ci := 7) (v := .ref (ad 1)) (C := RX9) (T := TX9) (N := 15) hx hb hts hinX9 hown hK hP 0 rfl rfl 0 (by decide) fl1 (fun _ h9 => h9) rfl dX9_feed_52 ?_
    refine lv_iload hx hb dX9_feed_55 (lv_at hl 5 rfl) ?_
    obtain ⟨r10, hr10, h⟩ := bd_e h
    obtain ⟨σ11, eσ11, h⟩ := lt_e h
    refine cl_WV (rest := []) (wn := (wdX9 cI cZ cB ad σ11)) (lp := [1, 2]) (ci := 6) (q0 := 0) ⟨hx, hb, hml, hown, hts⟩ (mX8_putFour l D cI cZ cB (mp ad [1, 2]) (mp σ9 [1, 2]) H.size a5 r10 hr10) (cwV 1 hts gX9_feed_X8_putFour rfl rfl rfl (by decide +kernel) ⟨Nat.le_of_ble_eq_true rfl, Nat.le_of_ble_eq_true rfl⟩) hK hP hD hS hA rfl rfl rfl (by rw [eσ11]; rfl) rfl rfl rfl rfl rfl hl.1 rfl (Nat.le_of_ble_eq_true rfl) dX9_feed_57 ⟨Nat.zero_le _, Nat.zero_le _⟩ (fun H locs hP hD hS => ?_)
    refine W.eq (g2 := F0 m 60 ls []) rfl ?_
    refine lv_aload_n hx hb dX9_feed_60 rfl (lv_at hl 0 rfl) ?_
    refine va_get (ci := 7) (v := .ref (ad 1)) (C := RX9) (T := TX9) (N := 15) hx hb hts hinX9 hown hK hP 0 rfl rfl 0 (by decide) fl1 (fun _ h9 => h9) rfl dX9_feed_61 ?_
    refine va_get (ci := 6) (v := .int (σ11 1 1)) (C := RX8) (T := TX8) (N := 2) hx hb hts hinX8 hown hK hP 1 rfl rfl 1 (by decide) fl2 (fun _ h9 => h9) rfl dX9_feed_64 ?_
    exact hR (some (.int (σ11 1 1))) (wdX9 cI cZ cB ad σ11) _ _ _ _ (by rw [← Option.some.inj h]) (by rw [← Option.some.inj h]) rfl dX9_feed_67 hP hS
  · have h := ite_f c1 h
    refine lv_iconst (v := (-1)) hx hb dX9_feed_16 (by decide) ?_
    exact hR (some (.int (-1))) (wdX9 cI cZ cB ad σ) _ _ _ _ (by rw [← Option.some.inj h]) (by rw [← Option.some.inj h]) rfl dX9_feed_17 hP hS
set_option maxHeartbeats 4000000 in
set_option maxRecDepth 100000 in
theorem mX9_feed (l : Launch) (D : va_G) (cI cZ cB : ClassId) (ad : Nat → Nat) (σ : Mem) (sz : Nat) (a1 : Int32) (a2 : Int32) (a3 : Int32) (a4 : Int32) (a5 : Int32) (res : Int32 × Mem) (h : X9_feed a1 a2 a3 a4 a5 σ = some res) : Met l yX9_feed wsX9_feed rmX9_feed (pW D cI cZ cB (wdX9 cI cZ cB ad σ) sz [.ref (ad 0), .int a1, .int a2, .int a3, .int a4, .int a5]) (qW D (some (.int res.1)) (wdX9 cI cZ cB ad res.2) (va_A (wdX9 cI cZ cB ad σ) sz)) 0 0 (va_A (wdX9 cI cZ cB ad σ) sz) := (bX9_feed l D cI cZ cB ad σ a1 a2 a3 a4 a5 res h).met (by decide +kernel) rfl (Nat.le_of_ble_eq_true rfl)
def rmX8_byteAt : Room := { frames := 0, cells := 0, slots := 0, locals := 0 }
set_option maxHeartbeats 4000000 in
set_option maxRecDepth 100000 in
theorem bX8_byteAt (l : Launch) (D : va_G) (cI cZ cB : ClassId) (ad : Nat → Nat) (σ : Mem) (a1 : Int32) (res : Int32) (h : X8_byteAt a1 σ = some res) : BR l yX8_byteAt wsX8_byteAt rmX8_byteAt cX8_byteAt 2 (some .int) D cI cZ cB (wdX8 cI cZ cB ad σ) [.ref (ad 0), .int a1] (some (.int res)) := by
  intro p e s m args below meth c ls Q hx hb hml hts hown hK hP hl0 hR
  have hinX8 : ∀ w ∈ u_ws RX8 TX8 2, w ∈ wsX8_byteAt := (fun _ h => List.mem_cons_of_mem _ (List.mem_append_right _ h))
  have fl1 := hts (.fieldLink RX8 15 "LawNumberer$Text" "length" "I") (by decide +kernel)
  have fl2 := hts (.fieldLink RX8 9 "LawNumberer$Text" "bytes" "[I") (by decide +kernel)
  have hl : lv_has ls 2 [(0, .ref (ad 0)), (1, .int a1)] := hl0
  rw [X8_byteAt] at h
  refine lv_iload_n hx hb dX8_byteAt_0 rfl (lv_at hl 1 rfl) ?_
  refine lv_if_lt (tgt := 30) hx hb dX8_byteAt_1 (by decide) (fun c1 => ?_) (fun c1 => ?_)
  · have h := ite_t c1 h
    refine lv_iconst (v := (-1)) hx hb dX8_byteAt_30 (by decide) ?_
    exact hR (some (.int (-1))) _ _ (by rw [← Option.some.inj h]) rfl dX8_byteAt_31
  · have h := ite_f c1 h
    refine lv_iload_n hx hb dX8_byteAt_4 rfl (lv_at hl 1 rfl) ?_
    refine lv_aload_n hx hb dX8_byteAt_5 rfl (lv_at hl 0 rfl) ?_
    refine va_get (ci := 6) (v := .int (σ 0 1)) (C := RX8) (T := TX8) (N := 2) hx hb hts hinX8 hown hK hP 0 rfl rfl 1 (by decide) fl1 (fun _ h9 => h9) rfl dX8_byteAt_6 ?_
    refine lv_icmp_ge (tgt := 30) hx hb dX8_byteAt_9 (by decide) (fun c2 => ?_) (fun c2 => ?_)
    · have h := ite_t c2 h
      refine lv_iconst (v := (-1)) hx hb dX8_byteAt_30 (by decide) ?_
      exact hR (some (.int (-1))) _ _ (by rw [← Option.some.inj h]) rfl dX8_byteAt_31
    · have h := ite_f c2 h
      refine lv_iload_n hx hb dX8_byteAt_12 rfl (lv_at hl 1 rfl) ?_
      refine lv_aload_n hx hb dX8_byteAt_13 rfl (lv_at hl 0 rfl) ?_
      refine va_get (ci := 6) (v := .ref (ad 1)) (C := RX8) (T := TX8) (N := 2) hx hb hts hinX8 hown hK hP 0 rfl rfl 0 (by decide) fl2 (fun _ h9 => h9) rfl dX8_byteAt_14 ?_
      refine va_alen (v := 200) hx hb hK hP 1 0 rfl rfl rfl dX8_byteAt_17 ?_
      refine lv_icmp_ge (tgt := 30) hx hb dX8_byteAt_18 (by decide) (fun c3 => ?_) (fun c3 => ?_)
      · have h := ite_t c3 h
        refine lv_iconst (v := (-1)) hx hb dX8_byteAt_30 (by decide) ?_
        exact hR (some (.int (-1))) _ _ (by rw [← Option.some.inj h]) rfl dX8_byteAt_31
      · have h := ite_f c3 h
        refine lv_aload_n hx hb dX8_byteAt_21 rfl (lv_at hl 0 rfl) ?_
        refine va_get (ci := 6) (v := .ref (ad 1)) (C := RX8) (T := TX8) (N := 2) hx hb hts hinX8 hown hK hP 0 rfl rfl 0 (by decide) fl2 (fun _ h9 => h9) rfl dX8_byteAt_22 ?_
        refine lv_iload_n hx hb dX8_byteAt_25 rfl (lv_at hl 1 rfl) ?_
        obtain ⟨hin4, h⟩ := gd_e h
        refine va_iald hx hb hK hP 1 0 rfl rfl hin4 dX8_byteAt_26 ?_
        refine lv_goto (tgt := 31) hx hb dX8_byteAt_27 (by decide) ?_
        exact hR (some (.int (σ 1 (Int32.toNatClampNeg a1)))) _ _ (by rw [← Option.some.inj h]) rfl dX8_byteAt_31
set_option maxHeartbeats 4000000 in
set_option maxRecDepth 100000 in
theorem mX8_byteAt (l : Launch) (D : va_G) (cI cZ cB : ClassId) (ad : Nat → Nat) (σ : Mem) (a1 : Int32) (res : Int32) (h : X8_byteAt a1 σ = some res) : Met l yX8_byteAt wsX8_byteAt rmX8_byteAt (pR D cI cZ cB (wdX8 cI cZ cB ad σ) [.ref (ad 0), .int a1]) (qR (some (.int res))) 0 0 (fun _ => False) := (bX8_byteAt l D cI cZ cB ad σ a1 res h).met (by decide +kernel) rfl (Nat.le_of_ble_eq_true rfl)
def rmX6_become : Room := { frames := 0, cells := 0, slots := 0, locals := 0 }
set_option maxHeartbeats 4000000 in
set_option maxRecDepth 100000 in
theorem bX6_become (l : Launch) (D : va_G) (cI cZ cB : ClassId) (ad : Nat → Nat) (σ : Mem) (res : Mem) (h : X6_become σ = some res) : BW l yX6_become wsX6_become rmX6_become cX6_become 3 none D cI cZ cB (wdX6_X6 cI cZ cB ad σ) [.ref (ad 0), .ref (ad 3)] none (wdX6_X6 cI cZ cB ad res) := by
  intro p e s m args below meth c ls Q A hx hb hml hts hown hK hA hP hD hS hl0 hR
  have hinX6 : ∀ w ∈ u_ws RX6 TX6 3, w ∈ wsX6_become := (fun _ h => List.mem_cons_of_mem _ (List.mem_append_right _ h))
  have fl1 := hts (.fieldLink RX6 19 "LawNumberer$Levels" "size" "I") (by decide +kernel)
  have fl2 := hts (.fieldLink RX6 9 "LawNumberer$Levels" "forms" "[I") (by decide +kernel)
  have fl3 := hts (.fieldLink RX6 15 "LawNumberer$Levels" "through" "[Z") (by decide +kernel)
  have hl : lv_has ls 3 [(0, .ref (ad 0)), (1, .ref (ad 3))] := hl0
  have n2 : ∀ (n : Nat) (x2 : Int32) (σ : Mem) (H : Heap) (locs : List Loc), va_P D vwCl (wdX6_X6 cI cZ cB ad σ) H → va_D A (wdX6_X6 cI cZ cB ad σ) → va_S A s.heap H locs → ∀ (ls : Array Slot), lv_has ls 3 [(0, .ref (ad 0)), (1, .ref (ad 3)), (2, .int x2)] → X6_become_2 n x2 σ = some res → W p l e rmX6_become s m args below meth c H locs 0 0 Q (F0 m 2 ls []) := by
    intro n
    induction n with
    | zero =>
      intro x2 σ H locs hP hD hS ls hl h
      rw [X6_become_2] at h
      cases h
    | succ n_2 ih2 =>
      intro x2 σ H locs hP hD hS ls hl h
      rw [X6_become_2] at h
      refine lv_iload_n hx hb dX6_become_2 rfl (lv_at hl 2 rfl) ?_
      refine lv_iconst (v := 4) hx hb dX6_become_3 (by decide) ?_
      refine lv_icmp_ge (tgt := 37) hx hb dX6_become_4 (by decide) (fun c1 => ?_) (fun c1 => ?_)
      · have h := ite_t c1 h
        refine lv_aload_n hx hb dX6_become_37 rfl (lv_at hl 0 rfl) ?_
        refine lv_aload_n hx hb dX6_become_38 rfl (lv_at hl 1 rfl) ?_
        refine va_get (ci := 4) (v := .int (σ 3 2)) (C := RX6) (T := TX6) (N := 3) hx hb hts hinX6 hown hK hP 3 rfl rfl 2 (by decide) fl1 (fun _ h9 => h9) rfl dX6_become_39 ?_
        obtain ⟨σ2, eσ2, h⟩ := lt_e h
        refine va_put (ci := 4) (v := .int (σ 3 2)) (ty := .int) (C := RX6) (T := TX6) (N := 3) hx hb hts hinX6 tyX6 tyX6_ok nmX6 hown hK hP hD hS 0 rfl rfl 2 (by decide) fl1 (fun _ h9 => h9) rfl (by decide +kernel) rfl rfl (Nat.le_of_ble_eq_true rfl) dX6_become_42 (fun H locs hP1 hD1 hS => ?_)
        have hP : va_P D vwCl (wdX6_X6 cI cZ cB ad σ2) H := by rw [eσ2]; exact hP1
        have hD : va_D A (wdX6_X6 cI cZ cB ad σ2) := D_of (by rfl) hD
        exact hR none (wdX6_X6 cI cZ cB ad σ2) _ _ _ _ rfl (by rw [← Option.some.inj h]) trivial dX6_become_45 hP hS
      · have h := ite_f c1 h
        refine lv_aload_n hx hb dX6_become_7 rfl (lv_at hl 0 rfl) ?_
        refine va_get (ci := 4) (v := .ref (ad 1)) (C := RX6) (T := TX6) (N := 3) hx hb hts hinX6 hown hK hP 0 rfl rfl 0 (by decide) fl2 (fun _ h9 => h9) rfl dX6_become_8 ?_
        refine lv_iload_n hx hb dX6_become_11 rfl (lv_at hl 2 rfl) ?_
        refine lv_aload_n hx hb dX6_become_12 rfl (lv_at hl 1 rfl) ?_
        refine va_get (ci := 4) (v := .ref (ad 4)) (C := RX6) (T := TX6) (N := 3) hx hb hts hinX6 hown hK hP 3 rfl rfl 0 (by decide) fl2 (fun _ h9 => h9) rfl dX6_become_13 ?_
        refine lv_iload_n hx hb dX6_become_16 rfl (lv_at hl 2 rfl) ?_
        obtain ⟨hin3, h⟩ := gd_e h
        refine va_iald hx hb hK hP 4 0 rfl rfl hin3 dX6_become_17 ?_
        obtain ⟨hin4, h⟩ := gd_e h
        obtain ⟨σ5, eσ5, h⟩ := lt_e h
        refine va_iast hx hb hK hP hD hS 1 0 rfl rfl hin4 dX6_become_18 (fun H locs hP1 hD1 hS => ?_)
        have hP : va_P D vwCl (wdX6_X6 cI cZ cB ad σ5) H := by rw [eσ5]; exact hP1
        have hD : va_D A (wdX6_X6 cI cZ cB ad σ5) := D_of (by rfl) hD
        refine lv_aload_n hx hb dX6_become_19 rfl (lv_at hl 0 rfl) ?_
        refine va_get (ci := 4) (v := .ref (ad 2)) (C := RX6) (T := TX6) (N := 3) hx hb hts hinX6 hown hK hP 0 rfl rfl 1 (by decide) fl3 (fun _ h9 => h9) rfl dX6_become_20 ?_
        refine lv_iload_n hx hb dX6_become_23 rfl (lv_at hl 2 rfl) ?_
        refine lv_aload_n hx hb dX6_become_24 rfl (lv_at hl 1 rfl) ?_
        refine va_get (ci := 4) (v := .ref (ad 5)) (C := RX6) (T := TX6) (N := 3) hx hb hts hinX6 hown hK hP 3 rfl rfl 1 (by decide) fl3 (fun _ h9 => h9) rfl dX6_become_25 ?_
        refine lv_iload_n hx hb dX6_become_28 rfl (lv_at hl 2 rfl) ?_
        obtain ⟨hin6, h⟩ := gd_e h
        refine va_zald hx hb hK hP 5 1 rfl rfl hin6 dX6_become_29 ?_
        obtain ⟨hin7, h⟩ := gd_e h
        obtain ⟨σ8, eσ8, h⟩ := lt_e h
        refine va_zast hx hb hK hP hD hS 2 1 rfl rfl hin7 dX6_become_30 (fun H locs hP1 hD1 hS => ?_)
        have hP : va_P D vwCl (wdX6_X6 cI cZ cB ad σ8) H := by rw [eσ8]; exact hP1
        have hD : va_D A (wdX6_X6 cI cZ cB ad σ8) := D_of (by rfl) hD
        obtain ⟨x2_9, ex2_9, h⟩ := lt_e h
        refine lv_iinc (v := x2_9) (lv' := [(2, .int x2_9), (0, .ref (ad 0)), (1, .ref (ad 3))]) hx hb dX6_become_31 hl (k := 2) rfl (by rw [ex2_9]; rfl) (by decide) rfl (fun ls hl => ?_)
        refine lv_goto (tgt := 2) hx hb dX6_become_34 (by decide) ?_
        exact ih2 x2_9 σ8 _ _ hP hD hS _ (lv_sub hl [1, 2, 0] rfl) h
  rw [X6_become] at h
  have hS := hS
  refine lv_iconst (v := 0) hx hb dX6_become_0 (by decide) ?_
  refine lv_istore_n (lv' := [(2, .int 0), (0, .ref (ad 0)), (1, .ref (ad 3))]) hx hb dX6_become_1 rfl hl (by decide) rfl (fun ls hl => ?_)
  exact n2 FU 0 σ _ _ hP hD hS _ (lv_sub hl [1, 2, 0] rfl) h
set_option maxHeartbeats 4000000 in
set_option maxRecDepth 100000 in
theorem mX6_become (l : Launch) (D : va_G) (cI cZ cB : ClassId) (ad : Nat → Nat) (σ : Mem) (sz : Nat) (res : Mem) (h : X6_become σ = some res) : Met l yX6_become wsX6_become rmX6_become (pW D cI cZ cB (wdX6_X6 cI cZ cB ad σ) sz [.ref (ad 0), .ref (ad 3)]) (qW D none (wdX6_X6 cI cZ cB ad res) (va_A (wdX6_X6 cI cZ cB ad σ) sz)) 0 0 (va_A (wdX6_X6 cI cZ cB ad σ) sz) := (bX6_become l D cI cZ cB ad σ res h).metv (by decide +kernel) rfl (Nat.le_of_ble_eq_true rfl)
def rmX3_has : Room := { frames := 0, cells := 0, slots := 0, locals := 0 }
set_option maxHeartbeats 4000000 in
set_option maxRecDepth 100000 in
theorem bX3_has (l : Launch) (D : va_G) (cI cZ cB : ClassId) (ad : Nat → Nat) (σ : Mem) (a1 : Int32) (res : Int32) (h : X3_has a1 σ = some res) : BR l yX3_has wsX3_has rmX3_has cX3_has 2 (some .boolean) D cI cZ cB (wdX3 cI cZ cB ad σ) [.ref (ad 0), .int a1] (some (.int res)) := by
  intro p e s m args below meth c ls Q hx hb hml hts hown hK hP hl0 hR
  have hinX3 : ∀ w ∈ u_ws RX3 TX3 7, w ∈ wsX3_has := (fun _ h => List.mem_cons_of_mem _ (List.mem_append_right _ h))
  have fl1 := hts (.fieldLink RX3 28 "LawNumberer$Items" "size" "I") (by decide +kernel)
  have hl : lv_has ls 2 [(0, .ref (ad 0)), (1, .int a1)] := hl0
  rw [X3_has] at h
  refine lv_iload_n hx hb dX3_has_0 rfl (lv_at hl 1 rfl) ?_
  refine lv_if_lt (tgt := 16) hx hb dX3_has_1 (by decide) (fun c1 => ?_) (fun c1 => ?_)
  · have h := ite_t c1 h
    refine lv_iconst (v := 0) hx hb dX3_has_16 (by decide) ?_
    exact hR (some (.int 0)) _ _ (by rw [← Option.some.inj h]) nb0 dX3_has_17
  · have h := ite_f c1 h
    refine lv_iload_n hx hb dX3_has_4 rfl (lv_at hl 1 rfl) ?_
    refine lv_aload_n hx hb dX3_has_5 rfl (lv_at hl 0 rfl) ?_
    refine va_get (ci := 2) (v := .int (σ 0 5)) (C := RX3) (T := TX3) (N := 7) hx hb hts hinX3 hown hK hP 0 rfl rfl 5 (by decide) fl1 (fun _ h9 => h9) rfl dX3_has_6 ?_
    refine lv_icmp_ge (tgt := 16) hx hb dX3_has_9 (by decide) (fun c2 => ?_) (fun c2 => ?_)
    · have h := ite_t c2 h
      refine lv_iconst (v := 0) hx hb dX3_has_16 (by decide) ?_
      exact hR (some (.int 0)) _ _ (by rw [← Option.some.inj h]) nb0 dX3_has_17
    · have h := ite_f c2 h
      refine lv_iconst (v := 1) hx hb dX3_has_12 (by decide) ?_
      refine lv_goto (tgt := 17) hx hb dX3_has_13 (by decide) ?_
      exact hR (some (.int 1)) _ _ (by rw [← Option.some.inj h]) nb1 dX3_has_17
set_option maxHeartbeats 4000000 in
set_option maxRecDepth 100000 in
theorem mX3_has (l : Launch) (D : va_G) (cI cZ cB : ClassId) (ad : Nat → Nat) (σ : Mem) (a1 : Int32) (res : Int32) (h : X3_has a1 σ = some res) : Met l yX3_has wsX3_has rmX3_has (pR D cI cZ cB (wdX3 cI cZ cB ad σ) [.ref (ad 0), .int a1]) (qR (some (.int res))) 0 0 (fun _ => False) := (bX3_has l D cI cZ cB ad σ a1 res h).met (by decide +kernel) rfl (Nat.le_of_ble_eq_true rfl)
def rmX3_placeOf : Room := { frames := 0, cells := 0, slots := 0, locals := 0 }
set_option maxHeartbeats 4000000 in
set_option maxRecDepth 100000 in
theorem bX3_placeOf (l : Launch) (D : va_G) (cI cZ cB : ClassId) (ad : Nat → Nat) (σ : Mem) (a1 : Int32) (res : Int32) (h : X3_placeOf a1 σ = some res) : BR l yX3_placeOf wsX3_placeOf rmX3_placeOf cX3_placeOf 3 (some .int) D cI cZ cB (wdX3 cI cZ cB ad σ) [.ref (ad 0), .int a1] (some (.int res)) := by
  intro p e s m args below meth c ls Q hx hb hml hts hown hK hP hl0 hR
  have hinX3 : ∀ w ∈ u_ws RX3 TX3 7, w ∈ wsX3_placeOf := (fun _ h => List.mem_cons_of_mem _ (List.mem_append_right _ h))
  have fl1 := hts (.fieldLink RX3 28 "LawNumberer$Items" "size" "I") (by decide +kernel)
  have fl2 := hts (.fieldLink RX3 25 "LawNumberer$Items" "order" "[I") (by decide +kernel)
  have hl : lv_has ls 3 [(0, .ref (ad 0)), (1, .int a1)] := hl0
  have n2 : ∀ (n : Nat) (x2 : Int32) (ls : Array Slot), lv_has ls 3 [(0, .ref (ad 0)), (1, .int a1), (2, .int x2)] → X3_placeOf_2 a1 σ n x2 = some res → W p l e rmX3_placeOf s m args below meth c s.heap [] 0 0 Q (F0 m 2 ls []) := by
    intro n
    induction n with
    | zero =>
      intro x2 ls hl h
      rw [X3_placeOf_2] at h
      cases h
    | succ n_2 ih2 =>
      intro x2 ls hl h
      rw [X3_placeOf_2] at h
      refine lv_iload_n hx hb dX3_placeOf_2 rfl (lv_at hl 2 rfl) ?_
      refine lv_aload_n hx hb dX3_placeOf_3 rfl (lv_at hl 0 rfl) ?_
      refine va_get (ci := 2) (v := .int (σ 0 5)) (C := RX3) (T := TX3) (N := 7) hx hb hts hinX3 hown hK hP 0 rfl rfl 5 (by decide) fl1 (fun _ h9 => h9) rfl dX3_placeOf_4 ?_
      refine lv_icmp_ge (tgt := 28) hx hb dX3_placeOf_7 (by decide) (fun c1 => ?_) (fun c1 => ?_)
      · have h := ite_t c1 h
        refine lv_iconst (v := (-1)) hx hb dX3_placeOf_28 (by decide) ?_
        exact hR (some (.int (-1))) _ _ (by rw [← Option.some.inj h]) rfl dX3_placeOf_29
      · have h := ite_f c1 h
        refine lv_aload_n hx hb dX3_placeOf_10 rfl (lv_at hl 0 rfl) ?_
        refine va_get (ci := 2) (v := .ref (ad 5)) (C := RX3) (T := TX3) (N := 7) hx hb hts hinX3 hown hK hP 0 rfl rfl 4 (by decide) fl2 (fun _ h9 => h9) rfl dX3_placeOf_11 ?_
        refine lv_iload_n hx hb dX3_placeOf_14 rfl (lv_at hl 2 rfl) ?_
        obtain ⟨hin2, h⟩ := gd_e h
        refine va_iald hx hb hK hP 5 0 rfl rfl hin2 dX3_placeOf_15 ?_
        refine lv_iload_n hx hb dX3_placeOf_16 rfl (lv_at hl 1 rfl) ?_
        refine lv_icmp_ne (tgt := 22) hx hb dX3_placeOf_17 (by decide) (fun c3 => ?_) (fun c3 => ?_)
        · have h := ite_f c3 h
          obtain ⟨x2_4, ex2_4, h⟩ := lt_e h
          refine lv_iinc (v := x2_4) (lv' := [(2, .int x2_4), (0, .ref (ad 0)), (1, .int a1)]) hx hb dX3_placeOf_22 hl (k := 2) rfl (by rw [ex2_4]; rfl) (by decide) rfl (fun ls hl => ?_)
          refine lv_goto (tgt := 2) hx hb dX3_placeOf_25 (by decide) ?_
          exact ih2 x2_4 _ (lv_sub hl [1, 2, 0] rfl) h
        · have h := ite_t c3 h
          refine lv_iload_n hx hb dX3_placeOf_20 rfl (lv_at hl 2 rfl) ?_
          exact hR (some (.int x2)) _ _ (by rw [← Option.some.inj h]) rfl dX3_placeOf_21
  rw [X3_placeOf] at h
  refine lv_iconst (v := 0) hx hb dX3_placeOf_0 (by decide) ?_
  refine lv_istore_n (lv' := [(2, .int 0), (0, .ref (ad 0)), (1, .int a1)]) hx hb dX3_placeOf_1 rfl hl (by decide) rfl (fun ls hl => ?_)
  exact n2 FU 0 _ (lv_sub hl [1, 2, 0] rfl) h
set_option maxHeartbeats 4000000 in
set_option maxRecDepth 100000 in
theorem mX3_placeOf (l : Launch) (D : va_G) (cI cZ cB : ClassId) (ad : Nat → Nat) (σ : Mem) (a1 : Int32) (res : Int32) (h : X3_placeOf a1 σ = some res) : Met l yX3_placeOf wsX3_placeOf rmX3_placeOf (pR D cI cZ cB (wdX3 cI cZ cB ad σ) [.ref (ad 0), .int a1]) (qR (some (.int res))) 0 0 (fun _ => False) := (bX3_placeOf l D cI cZ cB ad σ a1 res h).met (by decide +kernel) rfl (Nat.le_of_ble_eq_true rfl)
def rmX3_isInRow : Room := { frames := 1, cells := 0, slots := 0, locals := 21 }
set_option maxHeartbeats 4000000 in
set_option maxRecDepth 100000 in
theorem bX3_isInRow (l : Launch) (D : va_G) (cI cZ cB : ClassId) (ad : Nat → Nat) (σ : Mem) (a1 : Int32) (a2 : Int32) (a3 : Int32) (a4 : Int32) (res : Int32) (h : X3_isInRow a1 a2 a3 a4 σ = some res) : BR l yX3_isInRow wsX3_isInRow rmX3_isInRow cX3_isInRow 5 (some .boolean) D cI cZ cB (wdX3 cI cZ cB ad σ) [.ref (ad 0), .int a1, .int a2, .int a3, .int a4] (some (.int res)) := by
  intro p e s m args below meth c ls Q hx hb hml hts hown hK hP hl0 hR
  have hinX3 : ∀ w ∈ u_ws RX3 TX3 7, w ∈ wsX3_isInRow := (fun _ h => List.mem_cons_of_mem _ (List.mem_append_right _ h))
  have fl1 := hts (.fieldLink RX3 9 "LawNumberer$Items" "levels" "[I") (by decide +kernel)
  have fl2 := hts (.fieldLink RX3 15 "LawNumberer$Items" "under" "[I") (by decide +kernel)
  have hl : lv_has ls 5 [(0, .ref (ad 0)), (1, .int a1), (2, .int a2), (3, .int a3), (4, .int a4)] := hl0
  rw [X3_isInRow] at h
  refine lv_aload_n hx hb dX3_isInRow_0 rfl (lv_at hl 0 rfl) ?_
  refine lv_iload_n hx hb dX3_isInRow_1 rfl (lv_at hl 1 rfl) ?_
  obtain ⟨r1, hr1, h⟩ := bd_e h
  refine cl_RV (rest := []) (ci := 2) (q0 := 0) ⟨hx, hb, hml, hown, hts⟩ (mX3_has l D cI cZ cB ad σ a1 r1 hr1) (cwV 1 hts gX3_isInRow_X3_has rfl rfl rfl (by decide +kernel) ⟨Nat.le_of_ble_eq_true rfl, Nat.le_of_ble_eq_true rfl⟩) hK hP rfl rfl rfl rfl hl.1 rfl (Nat.le_of_ble_eq_true rfl) dX3_isInRow_2 ⟨Nat.zero_le _, Nat.zero_le _⟩ ?_
  refine W.eq (g2 := F0 m 5 ls [.int r1]) rfl ?_
  refine lv_if_eq (tgt := 37) hx hb dX3_isInRow_5 (by decide) (fun c2 => ?_) (fun c2 => ?_)
  · have h := ite_t c2 h
    refine lv_iconst (v := 0) hx hb dX3_isInRow_37 (by decide) ?_
    exact hR (some (.int 0)) _ _ (by rw [← Option.some.inj h]) nb0 dX3_isInRow_38
  · have h := ite_f c2 h
    refine lv_aload_n hx hb dX3_isInRow_8 rfl (lv_at hl 0 rfl) ?_
    refine va_get (ci := 2) (v := .ref (ad 1)) (C := RX3) (T := TX3) (N := 7) hx hb hts hinX3 hown hK hP 0 rfl rfl 0 (by decide) fl1 (fun _ h9 => h9) rfl dX3_isInRow_9 ?_
    refine lv_iload_n hx hb dX3_isInRow_12 rfl (lv_at hl 1 rfl) ?_
    obtain ⟨hin3, h⟩ := gd_e h
    refine va_iald hx hb hK hP 1 0 rfl rfl hin3 dX3_isInRow_13 ?_
    refine lv_iload_n hx hb dX3_isInRow_14 rfl (lv_at hl 2 rfl) ?_
    refine lv_icmp_ne (tgt := 37) hx hb dX3_isInRow_15 (by decide) (fun c4 => ?_) (fun c4 => ?_)
    · have h := ite_f c4 h
      refine lv_iconst (v := 0) hx hb dX3_isInRow_37 (by decide) ?_
      exact hR (some (.int 0)) _ _ (by rw [← Option.some.inj h]) nb0 dX3_isInRow_38
    · have h := ite_t c4 h
      refine lv_iload hx hb dX3_isInRow_18 (lv_at hl 4 rfl) ?_
      refine lv_if_ne (tgt := 33) hx hb dX3_isInRow_20 (by decide) (fun c5 => ?_) (fun c5 => ?_)
      · have h := ite_f c5 h
        refine lv_iconst (v := 1) hx hb dX3_isInRow_33 (by decide) ?_
        refine lv_goto (tgt := 38) hx hb dX3_isInRow_34 (by decide) ?_
        exact hR (some (.int 1)) _ _ (by rw [← Option.some.inj h]) nb1 dX3_isInRow_38
      · have h := ite_t c5 h
        refine lv_aload_n hx hb dX3_isInRow_23 rfl (lv_at hl 0 rfl) ?_
        refine va_get (ci := 2) (v := .ref (ad 2)) (C := RX3) (T := TX3) (N := 7) hx hb hts hinX3 hown hK hP 0 rfl rfl 1 (by decide) fl2 (fun _ h9 => h9) rfl dX3_isInRow_24 ?_
        refine lv_iload_n hx hb dX3_isInRow_27 rfl (lv_at hl 1 rfl) ?_
        obtain ⟨hin6, h⟩ := gd_e h
        refine va_iald hx hb hK hP 2 0 rfl rfl hin6 dX3_isInRow_28 ?_
        refine lv_iload_n hx hb dX3_isInRow_29 rfl (lv_at hl 3 rfl) ?_
        refine lv_icmp_ne (tgt := 37) hx hb dX3_isInRow_30 (by decide) (fun c7 => ?_) (fun c7 => ?_)
        · have h := ite_f c7 h
          refine lv_iconst (v := 0) hx hb dX3_isInRow_37 (by decide) ?_
          exact hR (some (.int 0)) _ _ (by rw [← Option.some.inj h]) nb0 dX3_isInRow_38
        · have h := ite_t c7 h
          refine lv_iconst (v := 1) hx hb dX3_isInRow_33 (by decide) ?_
          refine lv_goto (tgt := 38) hx hb dX3_isInRow_34 (by decide) ?_
          exact hR (some (.int 1)) _ _ (by rw [← Option.some.inj h]) nb1 dX3_isInRow_38
set_option maxHeartbeats 4000000 in
set_option maxRecDepth 100000 in
theorem mX3_isInRow (l : Launch) (D : va_G) (cI cZ cB : ClassId) (ad : Nat → Nat) (σ : Mem) (a1 : Int32) (a2 : Int32) (a3 : Int32) (a4 : Int32) (res : Int32) (h : X3_isInRow a1 a2 a3 a4 σ = some res) : Met l yX3_isInRow wsX3_isInRow rmX3_isInRow (pR D cI cZ cB (wdX3 cI cZ cB ad σ) [.ref (ad 0), .int a1, .int a2, .int a3, .int a4]) (qR (some (.int res))) 0 0 (fun _ => False) := (bX3_isInRow l D cI cZ cB ad σ a1 a2 a3 a4 res h).met (by decide +kernel) rfl (Nat.le_of_ble_eq_true rfl)
def rmX3_placeInRow : Room := { frames := 2, cells := 0, slots := 0, locals := 45 }
set_option maxHeartbeats 4000000 in
set_option maxRecDepth 100000 in
theorem bX3_placeInRow (l : Launch) (D : va_G) (cI cZ cB : ClassId) (ad : Nat → Nat) (σ : Mem) (a1 : Int32) (a2 : Int32) (res : Int32) (h : X3_placeInRow a1 a2 σ = some res) : BR l yX3_placeInRow wsX3_placeInRow rmX3_placeInRow cX3_placeInRow 6 (some .int) D cI cZ cB (wdX3 cI cZ cB ad σ) [.ref (ad 0), .int a1, .int a2] (some (.int res)) := by
  intro p e s m args below meth c ls Q hx hb hml hts hown hK hP hl0 hR
  have hinX3 : ∀ w ∈ u_ws RX3 TX3 7, w ∈ wsX3_placeInRow := (fun _ h => List.mem_cons_of_mem _ (List.mem_append_right _ h))
  have fl1 := hts (.fieldLink RX3 25 "LawNumberer$Items" "order" "[I") (by decide +kernel)
  have fl2 := hts (.fieldLink RX3 9 "LawNumberer$Items" "levels" "[I") (by decide +kernel)
  have fl3 := hts (.fieldLink RX3 15 "LawNumberer$Items" "under" "[I") (by decide +kernel)
  have hl : lv_has ls 6 [(0, .ref (ad 0)), (1, .int a1), (2, .int a2)] := hl0
  have n12 : ∀ (n : Nat) (x3 : Int32) (x4 : Int32) (x5 : Int32) (ls : Array Slot), lv_has ls 6 [(0, .ref (ad 0)), (1, .int a1), (2, .int a2), (3, .int x3), (4, .int x4), (5, .int x5)] → X3_placeInRow_12 a1 a2 σ n x3 x4 x5 = some res → W p l e rmX3_placeInRow s m args below meth c s.heap [] 0 0 Q (F0 m 12 ls []) := by
    intro n
    induction n with
    | zero =>
      intro x3 x4 x5 ls hl h
      rw [X3_placeInRow_12] at h
      cases h
    | succ n_12 ih12 =>
      intro x3 x4 x5 ls hl h
      rw [X3_placeInRow_12] at h
      refine lv_iload hx hb dX3_placeInRow_12 (lv_at hl 5 rfl) ?_
      refine lv_iload hx hb dX3_placeInRow_14 (lv_at hl 4 rfl) ?_
      refine lv_icmp_ge (tgt := 55) hx hb dX3_placeInRow_16 (by decide) (fun c1 => ?_) (fun c1 => ?_)
      · have h := ite_t c1 h
        refine lv_iload_n hx hb dX3_placeInRow_55 rfl (lv_at hl 3 rfl) ?_
        exact hR (some (.int x3)) _ _ (by rw [← Option.some.inj h]) rfl dX3_placeInRow_56
      · have h := ite_f c1 h
        refine lv_aload_n hx hb dX3_placeInRow_19 rfl (lv_at hl 0 rfl) ?_
        refine lv_aload_n hx hb dX3_placeInRow_20 rfl (lv_at hl 0 rfl) ?_
        refine va_get (ci := 2) (v := .ref (ad 5)) (C := RX3) (T := TX3) (N := 7) hx hb hts hinX3 hown hK hP 0 rfl rfl 4 (by decide) fl1 (fun _ h9 => h9) rfl dX3_placeInRow_21 ?_
        refine lv_iload hx hb dX3_placeInRow_24 (lv_at hl 5 rfl) ?_
        obtain ⟨hin2, h⟩ := gd_e h
        refine va_iald hx hb hK hP 5 0 rfl rfl hin2 dX3_placeInRow_26 ?_
        refine lv_aload_n hx hb dX3_placeInRow_27 rfl (lv_at hl 0 rfl) ?_
        refine va_get (ci := 2) (v := .ref (ad 1)) (C := RX3) (T := TX3) (N := 7) hx hb hts hinX3 hown hK hP 0 rfl rfl 0 (by decide) fl2 (fun _ h9 => h9) rfl dX3_placeInRow_28 ?_
        refine lv_iload_n hx hb dX3_placeInRow_31 rfl (lv_at hl 1 rfl) ?_
        obtain ⟨hin3, h⟩ := gd_e h
        refine va_iald hx hb hK hP 1 0 rfl rfl hin3 dX3_placeInRow_32 ?_
        refine lv_aload_n hx hb dX3_placeInRow_33 rfl (lv_at hl 0 rfl) ?_
        refine va_get (ci := 2) (v := .ref (ad 2)) (C := RX3) (T := TX3) (N := 7) hx hb hts hinX3 hown hK hP 0 rfl rfl 1 (by decide) fl3 (fun _ h9 => h9) rfl dX3_placeInRow_34 ?_
        refine lv_iload_n hx hb dX3_placeInRow_37 rfl (lv_at hl 1 rfl) ?_
        obtain ⟨hin4, h⟩ := gd_e h
        refine va_iald hx hb hK hP 2 0 rfl rfl hin4 dX3_placeInRow_38 ?_
        refine lv_iload_n hx hb dX3_placeInRow_39 rfl (lv_at hl 2 rfl) ?_
        obtain ⟨r5, hr5, h⟩ := bd_e h
        refine cl_RV (rest := []) (ci := 2) (q0 := 0) ⟨hx, hb, hml, hown, hts⟩ (mX3_isInRow l D cI cZ cB ad σ (σ 5 (Int32.toNatClampNeg x5)) (σ 1 (Int32.toNatClampNeg a1)) (σ 2 (Int32.toNatClampNeg a1)) a2 r5 hr5) (cwV 4 hts gX3_placeInRow_X3_isInRow rfl rfl rfl (by decide +kernel) ⟨Nat.le_of_ble_eq_true rfl, Nat.le_of_ble_eq_true rfl⟩) hK hP rfl rfl rfl rfl hl.1 rfl (Nat.le_of_ble_eq_true rfl) dX3_placeInRow_40 ⟨Nat.zero_le _, Nat.zero_le _⟩ ?_
        refine W.eq (g2 := F0 m 43 ls [.int r5]) rfl ?_
        refine lv_if_eq (tgt := 49) hx hb dX3_placeInRow_43 (by decide) (fun c6 => ?_) (fun c6 => ?_)
        · have h := ite_t c6 h
          obtain ⟨x5_7, ex5_7, h⟩ := lt_e h
          refine lv_iinc (v := x5_7) (lv' := [(5, .int x5_7), (0, .ref (ad 0)), (1, .int a1), (2, .int a2), (3, .int x3), (4, .int x4)]) hx hb dX3_placeInRow_49 hl (k := 5) rfl (by rw [ex5_7]; rfl) (by decide) rfl (fun ls hl => ?_)
          refine lv_goto (tgt := 12) hx hb dX3_placeInRow_52 (by decide) ?_
          exact ih12 x3 x4 x5_7 _ (lv_sub hl [1, 2, 3, 4, 5, 0] rfl) h
        · have h := ite_f c6 h
          obtain ⟨x3_8, ex3_8, h⟩ := lt_e h
          refine lv_iinc (v := x3_8) (lv' := [(3, .int x3_8), (0, .ref (ad 0)), (1, .int a1), (2, .int a2), (4, .int x4), (5, .int x5)]) hx hb dX3_placeInRow_46 hl (k := 3) rfl (by rw [ex3_8]; rfl) (by decide) rfl (fun ls hl => ?_)
          obtain ⟨x5_9, ex5_9, h⟩ := lt_e h
          refine lv_iinc (v := x5_9) (lv' := [(5, .int x5_9), (3, .int x3_8), (0, .ref (ad 0)), (1, .int a1), (2, .int a2), (4, .int x4)]) hx hb dX3_placeInRow_49 hl (k := 5) rfl (by rw [ex5_9]; rfl) (by decide) rfl (fun ls hl => ?_)
          refine lv_goto (tgt := 12) hx hb dX3_placeInRow_52 (by decide) ?_
          exact ih12 x3_8 x4 x5_9 _ (lv_sub hl [2, 3, 4, 1, 5, 0] rfl) h
  rw [X3_placeInRow] at h
  refine lv_iconst (v := 0) hx hb dX3_placeInRow_0 (by decide) ?_
  refine lv_istore_n (lv' := [(3, .int 0), (0, .ref (ad 0)), (1, .int a1), (2, .int a2)]) hx hb dX3_placeInRow_1 rfl hl (by decide) rfl (fun ls hl => ?_)
  refine lv_aload_n hx hb dX3_placeInRow_2 rfl (lv_at hl 1 rfl) ?_
  refine lv_iload_n hx hb dX3_placeInRow_3 rfl (lv_at hl 2 rfl) ?_
  obtain ⟨r10, hr10, h⟩ := bd_e h
  refine cl_RV (rest := []) (ci := 2) (q0 := 0) ⟨hx, hb, hml, hown, hts⟩ (mX3_placeOf l D cI cZ cB ad σ a1 r10 hr10) (cwV 1 hts gX3_placeInRow_X3_placeOf rfl rfl rfl (by decide +kernel) ⟨Nat.le_of_ble_eq_true rfl, Nat.le_of_ble_eq_true rfl⟩) hK hP rfl rfl rfl rfl hl.1 rfl (Nat.le_of_ble_eq_true rfl) dX3_placeInRow_4 ⟨Nat.zero_le _, Nat.zero_le _⟩ ?_
  refine W.eq (g2 := F0 m 7 ls [.int r10]) rfl ?_
  refine lv_istore (lv' := [(4, .int r10), (3, .int 0), (0, .ref (ad 0)), (1, .int a1), (2, .int a2)]) hx hb dX3_placeInRow_7 hl (by decide) rfl (fun ls hl => ?_)
  refine lv_iconst (v := 0) hx hb dX3_placeInRow_9 (by decide) ?_
  refine lv_istore (lv' := [(5, .int 0), (4, .int r10), (3, .int 0), (0, .ref (ad 0)), (1, .int a1), (2, .int a2)]) hx hb dX3_placeInRow_10 hl (by decide) rfl (fun ls hl => ?_)
  exact n12 FU 0 r10 0 _ (lv_sub hl [3, 4, 5, 2, 1, 0] rfl) h
set_option maxHeartbeats 4000000 in
set_option maxRecDepth 100000 in
theorem mX3_placeInRow (l : Launch) (D : va_G) (cI cZ cB : ClassId) (ad : Nat → Nat) (σ : Mem) (a1 : Int32) (a2 : Int32) (res : Int32) (h : X3_placeInRow a1 a2 σ = some res) : Met l yX3_placeInRow wsX3_placeInRow rmX3_placeInRow (pR D cI cZ cB (wdX3 cI cZ cB ad σ) [.ref (ad 0), .int a1, .int a2]) (qR (some (.int res))) 0 0 (fun _ => False) := (bX3_placeInRow l D cI cZ cB ad σ a1 a2 res h).met (by decide +kernel) rfl (Nat.le_of_ble_eq_true rfl)
def rmX8_isPart : Room := { frames := 1, cells := 0, slots := 0, locals := 21 }
set_option maxHeartbeats 4000000 in
set_option maxRecDepth 100000 in
theorem bX8_isPart (l : Launch) (D : va_G) (cI cZ cB : ClassId) (ad : Nat → Nat) (σ : Mem) (a1 : Int32) (a2 : Int32) (res : Int32) (h : X8_isPart a1 a2 σ = some res) : BR l yX8_isPart wsX8_isPart rmX8_isPart cX8_isPart 5 (some .boolean) D cI cZ cB (wdX8_X8 cI cZ cB ad σ) [.ref (ad 0), .int a1, .int a2, .ref (ad 2)] (some (.int res)) := by
  intro p e s m args below meth c ls Q hx hb hml hts hown hK hP hl0 hR
  have hinX8 : ∀ w ∈ u_ws RX8 TX8 2, w ∈ wsX8_isPart := (fun _ h => List.mem_cons_of_mem _ (List.mem_append_right _ h))
  have fl1 := hts (.fieldLink RX8 15 "LawNumberer$Text" "length" "I") (by decide +kernel)
  have hl : lv_has ls 5 [(0, .ref (ad 0)), (1, .int a1), (2, .int a2), (3, .ref (ad 2))] := hl0
  have n15 : ∀ (n : Nat) (x4 : Int32) (ls : Array Slot), lv_has ls 5 [(0, .ref (ad 0)), (1, .int a1), (3, .ref (ad 2)), (4, .int x4)] → X8_isPart_15 a1 a2 σ n x4 = some res → W p l e rmX8_isPart s m args below meth c s.heap [] 0 0 Q (F0 m 15 ls []) := by
    intro n
    induction n with
    | zero =>
      intro x4 ls hl h
      rw [X8_isPart_15] at h
      cases h
    | succ n_15 ih15 =>
      intro x4 ls hl h
      rw [X8_isPart_15] at h
      refine lv_iload hx hb dX8_isPart_15 (lv_at hl 3 rfl) ?_
      refine lv_aload_n hx hb dX8_isPart_17 rfl (lv_at hl 2 rfl) ?_
      refine va_get (ci := 6) (v := .int (σ 2 1)) (C := RX8) (T := TX8) (N := 2) hx hb hts hinX8 hown hK hP 2 rfl rfl 1 (by decide) fl1 (fun _ h9 => h9) rfl dX8_isPart_18 ?_
      refine lv_icmp_ge (tgt := 49) hx hb dX8_isPart_21 (by decide) (fun c1 => ?_) (fun c1 => ?_)
      · have h := ite_t c1 h
        refine lv_iconst (v := 1) hx hb dX8_isPart_49 (by decide) ?_
        exact hR (some (.int 1)) _ _ (by rw [← Option.some.inj h]) nb1 dX8_isPart_50
      · have h := ite_f c1 h
        refine lv_aload_n hx hb dX8_isPart_24 rfl (lv_at hl 0 rfl) ?_
        refine lv_iload_n hx hb dX8_isPart_25 rfl (lv_at hl 1 rfl) ?_
        refine lv_iload hx hb dX8_isPart_26 (lv_at hl 3 rfl) ?_
        refine lv_iadd hx hb dX8_isPart_28 ?_
        obtain ⟨r2, hr2, h⟩ := bd_e h
        refine cl_RV (rest := []) (ci := 6) (q0 := 0) ⟨hx, hb, hml, hown, hts⟩ (mX8_byteAt l D cI cZ cB (mp ad [0, 1]) (mp σ [0, 1]) (a1 + x4) r2 hr2) (cwV 1 hts gX8_isPart_X8_byteAt rfl rfl rfl (by decide +kernel) ⟨Nat.le_of_ble_eq_true rfl, Nat.le_of_ble_eq_true rfl⟩) hK (hP.sub (ws' := wdX8 cI cZ cB (mp ad [0, 1]) (mp σ [0, 1])) [0, 1] rfl) rfl rfl rfl rfl hl.1 rfl (Nat.le_of_ble_eq_true rfl) dX8_isPart_29 ⟨Nat.zero_le _, Nat.zero_le _⟩ ?_
        refine W.eq (g2 := F0 m 32 ls [.int r2]) rfl ?_
        refine lv_aload_n hx hb dX8_isPart_32 rfl (lv_at hl 2 rfl) ?_
        refine lv_iload hx hb dX8_isPart_33 (lv_at hl 3 rfl) ?_
        obtain ⟨r3, hr3, h⟩ := bd_e h
        refine cl_RV (rest := [.int r2]) (ci := 6) (q0 := 0) ⟨hx, hb, hml, hown, hts⟩ (mX8_byteAt l D cI cZ cB (mp ad [2, 3]) (mp σ [2, 3]) x4 r3 hr3) (cwV 1 hts gX8_isPart_X8_byteAt rfl rfl rfl (by decide +kernel) ⟨Nat.le_of_ble_eq_true rfl, Nat.le_of_ble_eq_true rfl⟩) hK (hP.sub (ws' := wdX8 cI cZ cB (mp ad [2, 3]) (mp σ [2, 3])) [2, 3] rfl) rfl rfl rfl rfl hl.1 rfl (Nat.le_of_ble_eq_true rfl) dX8_isPart_35 ⟨Nat.zero_le _, Nat.zero_le _⟩ ?_
        refine W.eq (g2 := F0 m 38 ls [.int r3, .int r2]) rfl ?_
        refine lv_icmp_eq (tgt := 43) hx hb dX8_isPart_38 (by decide) (fun c4 => ?_) (fun c4 => ?_)
        · have h := ite_t c4 h
          obtain ⟨x4_5, ex4_5, h⟩ := lt_e h
          refine lv_iinc (v := x4_5) (lv' := [(4, .int x4_5), (0, .ref (ad 0)), (1, .int a1), (3, .ref (ad 2))]) hx hb dX8_isPart_43 hl (k := 3) rfl (by rw [ex4_5]; rfl) (by decide) rfl (fun ls hl => ?_)
          refine lv_goto (tgt := 15) hx hb dX8_isPart_46 (by decide) ?_
          exact ih15 x4_5 _ (lv_sub hl [1, 2, 3, 0] rfl) h
        · have h := ite_f c4 h
          refine lv_iconst (v := 0) hx hb dX8_isPart_41 (by decide) ?_
          exact hR (some (.int 0)) _ _ (by rw [← Option.some.inj h]) nb0 dX8_isPart_42
  rw [X8_isPart] at h
  refine lv_iload_n hx hb dX8_isPart_0 rfl (lv_at hl 2 rfl) ?_
  refine lv_iload_n hx hb dX8_isPart_1 rfl (lv_at hl 1 rfl) ?_
  refine lv_isub hx hb dX8_isPart_2 ?_
  refine lv_aload_n hx hb dX8_isPart_3 rfl (lv_at hl 3 rfl) ?_
  refine va_get (ci := 6) (v := .int (σ 2 1)) (C := RX8) (T := TX8) (N := 2) hx hb hts hinX8 hown hK hP 2 rfl rfl 1 (by decide) fl1 (fun _ h9 => h9) rfl dX8_isPart_4 ?_
  refine lv_icmp_eq (tgt := 12) hx hb dX8_isPart_7 (by decide) (fun c6 => ?_) (fun c6 => ?_)
  · have h := ite_t c6 h
    refine lv_iconst (v := 0) hx hb dX8_isPart_12 (by decide) ?_
    refine lv_istore (lv' := [(4, .int 0), (0, .ref (ad 0)), (1, .int a1), (2, .int a2), (3, .ref (ad 2))]) hx hb dX8_isPart_13 hl (by decide) rfl (fun ls hl => ?_)
    exact n15 FU 0 _ (lv_sub hl [1, 2, 4, 0] rfl) h
  · have h := ite_f c6 h
    refine lv_iconst (v := 0) hx hb dX8_isPart_10 (by decide) ?_
    exact hR (some (.int 0)) _ _ (by rw [← Option.some.inj h]) nb0 dX8_isPart_11
set_option maxHeartbeats 4000000 in
set_option maxRecDepth 100000 in
theorem mX8_isPart (l : Launch) (D : va_G) (cI cZ cB : ClassId) (ad : Nat → Nat) (σ : Mem) (a1 : Int32) (a2 : Int32) (res : Int32) (h : X8_isPart a1 a2 σ = some res) : Met l yX8_isPart wsX8_isPart rmX8_isPart (pR D cI cZ cB (wdX8_X8 cI cZ cB ad σ) [.ref (ad 0), .int a1, .int a2, .ref (ad 2)]) (qR (some (.int res))) 0 0 (fun _ => False) := (bX8_isPart l D cI cZ cB ad σ a1 a2 res h).met (by decide +kernel) rfl (Nat.le_of_ble_eq_true rfl)
