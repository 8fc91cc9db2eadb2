/-! printed: the walks -/
def rmJ7_fill_53178 : Room := { frames := 0, cells := 0, slots := 0, locals := 0 }
set_option maxHeartbeats 4000000 in
set_option maxRecDepth 100000 in
theorem bJ7_fill_53178 (l : Launch) (D : va_G) (cI cZ cB : ClassId) (ad : Nat → Nat) (σ : Mem) (a1 : Int32) (res : Mem) (h : J7_fill_53178 a1 σ = some res) : BW l yJ7_fill_53178 wsJ7_fill_53178 rmJ7_fill_53178 cJ7_fill_53178 4 none D cI cZ cB (wdA80 cI cZ cB ad σ) [.ref (ad 0), .int a1] none (wdA80 cI cZ cB ad res) := by
  intro p e s m args below meth c ls Q A hx hb hml hts hown hK hA hP hD hS hl0 hR
  have hl : lv_has ls 4 [(0, .ref (ad 0)), (1, .int a1)] := hl0
  have n5 : ∀ (n : Nat) (x2 : Int32) (x3 : Int32) (σ : Mem) (H : Heap) (locs : List Loc), va_P D vwCl (wdA80 cI cZ cB ad σ) H → va_D A (wdA80 cI cZ cB ad σ) → va_S A s.heap H locs → ∀ (ls : Array Slot), lv_has ls 4 [(0, .ref (ad 0)), (1, .int a1), (2, .int x2), (3, .int x3)] → J7_fill_53178_5 a1 n x2 x3 σ = some res → W p l e rmJ7_fill_53178 s m args below meth c H locs 0 0 Q (F0 m 5 ls []) := by
    intro n
    induction n with
    | zero =>
      intro x2 x3 σ H locs hP hD hS ls hl h
      rw [J7_fill_53178_5] at h
      cases h
    | succ n_5 ih5 =>
      intro x2 x3 σ H locs hP hD hS ls hl h
      rw [J7_fill_53178_5] at h
      refine lv_iload_n hx hb dJ7_fill_53178_5 rfl (lv_at hl 2 rfl) ?_
      refine lv_iload_n hx hb dJ7_fill_53178_6 rfl (lv_at hl 3 rfl) ?_
      refine lv_icmp_ge (tgt := 20) hx hb dJ7_fill_53178_7 (by decide) (fun c1 => ?_) (fun c1 => ?_)
      · have h := ite_t c1 h
        exact hR none (wdA80 cI cZ cB ad σ) _ _ _ _ rfl (by rw [← Option.some.inj h]) trivial dJ7_fill_53178_20 hP hS
      · have h := ite_f c1 h
        refine lv_aload_n hx hb dJ7_fill_53178_10 rfl (lv_at hl 0 rfl) ?_
        refine lv_iload_n hx hb dJ7_fill_53178_11 rfl (lv_at hl 2 rfl) ?_
        refine lv_iload_n hx hb dJ7_fill_53178_12 rfl (lv_at hl 1 rfl) ?_
        obtain ⟨hin2, h⟩ := gd_e h
        obtain ⟨σ3, eσ3, h⟩ := lt_e h
        refine va_iast hx hb hK hP hD hS 0 0 rfl rfl hin2 dJ7_fill_53178_13 (fun H locs hP1 hD1 hS => ?_)
        have hP : va_P D vwCl (wdA80 cI cZ cB ad σ3) H := by rw [eσ3]; exact hP1
        have hD : va_D A (wdA80 cI cZ cB ad σ3) := D_of (by rfl) hD
        obtain ⟨x2_4, ex2_4, h⟩ := lt_e h
        refine lv_iinc (v := x2_4) (lv' := [(2, .int x2_4), (0, .ref (ad 0)), (1, .int a1), (3, .int x3)]) hx hb dJ7_fill_53178_14 hl (k := 2) rfl (by rw [ex2_4]; rfl) (by decide) rfl (fun ls hl => ?_)
        refine lv_goto (tgt := 5) hx hb dJ7_fill_53178_17 (by decide) ?_
        exact ih5 x2_4 x3 σ3 _ _ hP hD hS _ (lv_sub hl [1, 2, 0, 3] rfl) h
  rw [J7_fill_53178] at h
  have hS := hS
  refine lv_iconst (v := 0) hx hb dJ7_fill_53178_0 (by decide) ?_
  refine lv_istore_n (lv' := [(2, .int 0), (0, .ref (ad 0)), (1, .int a1)]) hx hb dJ7_fill_53178_1 rfl hl (by decide) rfl (fun ls hl => ?_)
  refine lv_aload_n hx hb dJ7_fill_53178_2 rfl (lv_at hl 1 rfl) ?_
  refine va_alen (v := 80) hx hb hK hP 0 0 rfl rfl rfl dJ7_fill_53178_3 ?_
  refine lv_istore_n (lv' := [(3, .int 80), (2, .int 0), (0, .ref (ad 0)), (1, .int a1)]) hx hb dJ7_fill_53178_4 rfl hl (by decide) rfl (fun ls hl => ?_)
  exact n5 FU 0 80 σ _ _ hP hD hS _ (lv_sub hl [2, 3, 1, 0] rfl) h
set_option maxHeartbeats 4000000 in
set_option maxRecDepth 100000 in
theorem mJ7_fill_53178 (l : Launch) (D : va_G) (cI cZ cB : ClassId) (ad : Nat → Nat) (σ : Mem) (sz : Nat) (a1 : Int32) (res : Mem) (h : J7_fill_53178 a1 σ = some res) : Met l yJ7_fill_53178 wsJ7_fill_53178 rmJ7_fill_53178 (pW D cI cZ cB (wdA80 cI cZ cB ad σ) sz [.ref (ad 0), .int a1]) (qW D none (wdA80 cI cZ cB ad res) (va_A (wdA80 cI cZ cB ad σ) sz)) 0 0 (va_A (wdA80 cI cZ cB ad σ) sz) := (bJ7_fill_53178 l D cI cZ cB ad σ a1 res h).metv (by decide +kernel) rfl (Nat.le_of_ble_eq_true rfl)
def rmX8_put : Room := { frames := 0, cells := 0, slots := 0, locals := 0 }
set_option maxHeartbeats 4000000 in
set_option maxRecDepth 100000 in
theorem bX8_put (l : Launch) (D : va_G) (cI cZ cB : ClassId) (ad : Nat → Nat) (σ : Mem) (a1 : Int32) (res : Mem) (h : X8_put a1 σ = some res) : BW l yX8_put wsX8_put rmX8_put cX8_put 2 none D cI cZ cB (wdX8 cI cZ cB ad σ) [.ref (ad 0), .int a1] none (wdX8 cI cZ cB ad res) := by
  intro p e s m args below meth c ls Q A hx hb hml hts hown hK hA hP hD hS hl0 hR
  have hinX8 : ∀ w ∈ u_ws RX8 TX8 2, w ∈ wsX8_put := (fun _ h => List.mem_cons_of_mem _ (List.mem_append_right _ h))
  have fl1 := hts (.fieldLink RX8 15 "LawNumberer$Text" "length" "I") (by decide +kernel)
  have fl2 := hts (.fieldLink RX8 9 "LawNumberer$Text" "bytes" "[I") (by decide +kernel)
  have hl : lv_has ls 2 [(0, .ref (ad 0)), (1, .int a1)] := hl0
  rw [X8_put] at h
  have hS := hS
  refine lv_aload_n hx hb dX8_put_0 rfl (lv_at hl 0 rfl) ?_
  refine va_get (ci := 6) (v := .int (σ 0 1)) (C := RX8) (T := TX8) (N := 2) hx hb hts hinX8 hown hK hP 0 rfl rfl 1 (by decide) fl1 (fun _ h9 => h9) rfl dX8_put_1 ?_
  refine lv_aload_n hx hb dX8_put_4 rfl (lv_at hl 0 rfl) ?_
  refine va_get (ci := 6) (v := .ref (ad 1)) (C := RX8) (T := TX8) (N := 2) hx hb hts hinX8 hown hK hP 0 rfl rfl 0 (by decide) fl2 (fun _ h9 => h9) rfl dX8_put_5 ?_
  refine va_alen (v := 200) hx hb hK hP 1 0 rfl rfl rfl dX8_put_8 ?_
  refine lv_icmp_ge (tgt := 32) hx hb dX8_put_9 (by decide) (fun c1 => ?_) (fun c1 => ?_)
  · have h := ite_t c1 h
    exact hR none (wdX8 cI cZ cB ad σ) _ _ _ _ rfl (by rw [← Option.some.inj h]) trivial dX8_put_32 hP hS
  · have h := ite_f c1 h
    refine lv_aload_n hx hb dX8_put_12 rfl (lv_at hl 0 rfl) ?_
    refine va_get (ci := 6) (v := .ref (ad 1)) (C := RX8) (T := TX8) (N := 2) hx hb hts hinX8 hown hK hP 0 rfl rfl 0 (by decide) fl2 (fun _ h9 => h9) rfl dX8_put_13 ?_
    refine lv_aload_n hx hb dX8_put_16 rfl (lv_at hl 0 rfl) ?_
    refine va_get (ci := 6) (v := .int (σ 0 1)) (C := RX8) (T := TX8) (N := 2) hx hb hts hinX8 hown hK hP 0 rfl rfl 1 (by decide) fl1 (fun _ h9 => h9) rfl dX8_put_17 ?_
    refine lv_iload_n hx hb dX8_put_20 rfl (lv_at hl 1 rfl) ?_
    obtain ⟨hin2, h⟩ := gd_e h
    obtain ⟨σ3, eσ3, h⟩ := lt_e h
    refine va_iast hx hb hK hP hD hS 1 0 rfl rfl hin2 dX8_put_21 (fun H locs hP1 hD1 hS => ?_)
    have hP : va_P D vwCl (wdX8 cI cZ cB ad σ3) H := by rw [eσ3]; exact hP1
    have hD : va_D A (wdX8 cI cZ cB ad σ3) := D_of (by rfl) hD
    refine lv_aload_n hx hb dX8_put_22 rfl (lv_at hl 0 rfl) ?_
    refine lv_dup hx hb dX8_put_23 rfl ?_
    refine va_get (ci := 6) (v := .int (σ3 0 1)) (C := RX8) (T := TX8) (N := 2) hx hb hts hinX8 hown hK hP 0 rfl rfl 1 (by decide) fl1 (fun _ h9 => h9) rfl dX8_put_24 ?_
    refine lv_iconst (v := 1) hx hb dX8_put_27 (by decide) ?_
    refine lv_iadd hx hb dX8_put_28 ?_
    obtain ⟨σ4, eσ4, h⟩ := lt_e h
    refine va_put (ci := 6) (v := .int ((σ3 0 1) + 1)) (ty := .int) (C := RX8) (T := TX8) (N := 2) hx hb hts hinX8 tyX8 tyX8_ok nmX8 hown hK hP hD hS 0 rfl rfl 1 (by decide) fl1 (fun _ h9 => h9) rfl (by decide +kernel) rfl rfl (Nat.le_of_ble_eq_true rfl) dX8_put_29 (fun H locs hP1 hD1 hS => ?_)
    have hP : va_P D vwCl (wdX8 cI cZ cB ad σ4) H := by rw [eσ4]; exact hP1
    have hD : va_D A (wdX8 cI cZ cB ad σ4) := D_of (by rfl) hD
    exact hR none (wdX8 cI cZ cB ad σ4) _ _ _ _ rfl (by rw [← Option.some.inj h]) trivial dX8_put_32 hP hS
set_option maxHeartbeats 4000000 in
set_option maxRecDepth 100000 in
theorem mX8_put (l : Launch) (D : va_G) (cI cZ cB : ClassId) (ad : Nat → Nat) (σ : Mem) (sz : Nat) (a1 : Int32) (res : Mem) (h : X8_put a1 σ = some res) : Met l yX8_put wsX8_put rmX8_put (pW D cI cZ cB (wdX8 cI cZ cB ad σ) sz [.ref (ad 0), .int a1]) (qW D none (wdX8 cI cZ cB ad res) (va_A (wdX8 cI cZ cB ad σ) sz)) 0 0 (va_A (wdX8 cI cZ cB ad σ) sz) := (bX8_put l D cI cZ cB ad σ a1 res h).metv (by decide +kernel) rfl (Nat.le_of_ble_eq_true rfl)
def rmX8_putFour : Room := { frames := 1, cells := 0, slots := 0, locals := 21 }
set_option maxHeartbeats 4000000 in
set_option maxRecDepth 100000 in
theorem bX8_putFour (l : Launch) (D : va_G) (cI cZ cB : ClassId) (ad : Nat → Nat) (σ : Mem) (a1 : Int32) (res : Mem) (h : X8_putFour a1 σ = some res) : BW l yX8_putFour wsX8_putFour rmX8_putFour cX8_putFour 2 none D cI cZ cB (wdX8 cI cZ cB ad σ) [.ref (ad 0), .int a1] none (wdX8 cI cZ cB ad res) := by
  intro p e s m args below meth c ls Q A hx hb hml hts hown hK hA hP hD hS hl0 hR
  have hl : lv_has ls 2 [(0, .ref (ad 0)), (1, .int a1)] := hl0
  rw [X8_putFour] at h
  have hS := hS
  refine lv_aload_n hx hb dX8_putFour_0 rfl (lv_at hl 0 rfl) ?_
  refine lv_iload_n hx hb dX8_putFour_1 rfl (lv_at hl 1 rfl) ?_
  refine lv_bipush (v := 24) hx hb dX8_putFour_2 (by decide) ?_
  refine lv_iushr (v := UInt32.toInt32 (Int32.toUInt32 a1 >>> (Int32.toUInt32 24 &&& Int32.toUInt32 31))) hx hb dX8_putFour_4 rfl ?_
  obtain ⟨r1, hr1, h⟩ := bd_e h
  obtain ⟨σ2, eσ2, h⟩ := lt_e h
  refine cl_WVs (rest := []) (wn := (wdX8 cI cZ cB ad σ2)) (ci := 6) (q0 := 0) ⟨hx, hb, hml, hown, hts⟩ (mX8_put l D cI cZ cB ad σ s.heap.size (UInt32.toInt32 (Int32.toUInt32 a1 >>> (Int32.toUInt32 24 &&& Int32.toUInt32 31))) r1 hr1) (cwV 1 hts gX8_putFour_X8_put rfl rfl rfl (by decide +kernel) ⟨Nat.le_of_ble_eq_true rfl, Nat.le_of_ble_eq_true rfl⟩) hK hP hD hS hA (by rw [eσ2]) rfl rfl rfl rfl rfl hl.1 rfl (Nat.le_of_ble_eq_true rfl) dX8_putFour_5 ⟨Nat.zero_le _, Nat.zero_le _⟩ (fun H locs hP hD hS => ?_)
  refine W.eq (g2 := F0 m 8 ls []) rfl ?_
  refine lv_aload_n hx hb dX8_putFour_8 rfl (lv_at hl 0 rfl) ?_
  refine lv_iload_n hx hb dX8_putFour_9 rfl (lv_at hl 1 rfl) ?_
  refine lv_bipush (v := 16) hx hb dX8_putFour_10 (by decide) ?_
  refine lv_iushr (v := UInt32.toInt32 (Int32.toUInt32 a1 >>> (Int32.toUInt32 16 &&& Int32.toUInt32 31))) hx hb dX8_putFour_12 rfl ?_
  refine lv_sipush (v := 255) hx hb dX8_putFour_13 (by decide) ?_
  refine lv_iand hx hb dX8_putFour_16 ?_
  obtain ⟨r3, hr3, h⟩ := bd_e h
  obtain ⟨σ4, eσ4, h⟩ := lt_e h
  refine cl_WVs (rest := []) (wn := (wdX8 cI cZ cB ad σ4)) (ci := 6) (q0 := 0) ⟨hx, hb, hml, hown, hts⟩ (mX8_put l D cI cZ cB ad σ2 H.size ((UInt32.toInt32 (Int32.toUInt32 a1 >>> (Int32.toUInt32 16 &&& Int32.toUInt32 31))) &&& 255) r3 hr3) (cwV 1 hts gX8_putFour_X8_put rfl rfl rfl (by decide +kernel) ⟨Nat.le_of_ble_eq_true rfl, Nat.le_of_ble_eq_true rfl⟩) hK hP hD hS hA (by rw [eσ4]) rfl rfl rfl rfl rfl hl.1 rfl (Nat.le_of_ble_eq_true rfl) dX8_putFour_17 ⟨Nat.zero_le _, Nat.zero_le _⟩ (fun H locs hP hD hS => ?_)
  refine W.eq (g2 := F0 m 20 ls []) rfl ?_
  refine lv_aload_n hx hb dX8_putFour_20 rfl (lv_at hl 0 rfl) ?_
  refine lv_iload_n hx hb dX8_putFour_21 rfl (lv_at hl 1 rfl) ?_
  refine lv_bipush (v := 8) hx hb dX8_putFour_22 (by decide) ?_
  refine lv_iushr (v := UInt32.toInt32 (Int32.toUInt32 a1 >>> (Int32.toUInt32 8 &&& Int32.toUInt32 31))) hx hb dX8_putFour_24 rfl ?_
  refine lv_sipush (v := 255) hx hb dX8_putFour_25 (by decide) ?_
  refine lv_iand hx hb dX8_putFour_28 ?_
  obtain ⟨r5, hr5, h⟩ := bd_e h
  obtain ⟨σ6, eσ6, h⟩ := lt_e h
  refine cl_WVs (rest := []) (wn := (wdX8 cI cZ cB ad σ6)) (ci := 6) (q0 := 0) ⟨hx, hb, hml, hown, hts⟩ (mX8_put l D cI cZ cB ad σ4 H.size ((UInt32.toInt32 (Int32.toUInt32 a1 >>> (Int32.toUInt32 8 &&& Int32.toUInt32 31))) &&& 255) r5 hr5) (cwV 1 hts gX8_putFour_X8_put rfl rfl rfl (by decide +kernel) ⟨Nat.le_of_ble_eq_true rfl, Nat.le_of_ble_eq_true rfl⟩) hK hP hD hS hA (by rw [eσ6]) rfl rfl rfl rfl rfl hl.1 rfl (Nat.le_of_ble_eq_true rfl) dX8_putFour_29 ⟨Nat.zero_le _, Nat.zero_le _⟩ (fun H locs hP hD hS => ?_)
  refine W.eq (g2 := F0 m 32 ls []) rfl ?_
  refine lv_aload_n hx hb dX8_putFour_32 rfl (lv_at hl 0 rfl) ?_
  refine lv_iload_n hx hb dX8_putFour_33 rfl (lv_at hl 1 rfl) ?_
  refine lv_sipush (v := 255) hx hb dX8_putFour_34 (by decide) ?_
  refine lv_iand hx hb dX8_putFour_37 ?_
  obtain ⟨r7, hr7, h⟩ := bd_e h
  obtain ⟨σ8, eσ8, h⟩ := lt_e h
  refine cl_WVs (rest := []) (wn := (wdX8 cI cZ cB ad σ8)) (ci := 6) (q0 := 0) ⟨hx, hb, hml, hown, hts⟩ (mX8_put l D cI cZ cB ad σ6 H.size (a1 &&& 255) r7 hr7) (cwV 1 hts gX8_putFour_X8_put rfl rfl rfl (by decide +kernel) ⟨Nat.le_of_ble_eq_true rfl, Nat.le_of_ble_eq_true rfl⟩) hK hP hD hS hA (by rw [eσ8]) rfl rfl rfl rfl rfl hl.1 rfl (Nat.le_of_ble_eq_true rfl) dX8_putFour_38 ⟨Nat.zero_le _, Nat.zero_le _⟩ (fun H locs hP hD hS => ?_)
  refine W.eq (g2 := F0 m 41 ls []) rfl ?_
  exact hR none (wdX8 cI cZ cB ad σ8) _ _ _ _ rfl (by rw [← Option.some.inj h]) trivial dX8_putFour_41 hP hS
set_option maxHeartbeats 4000000 in
set_option maxRecDepth 100000 in
theorem mX8_putFour (l : Launch) (D : va_G) (cI cZ cB : ClassId) (ad : Nat → Nat) (σ : Mem) (sz : Nat) (a1 : Int32) (res : Mem) (h : X8_putFour a1 σ = some res) : Met l yX8_putFour wsX8_putFour rmX8_putFour (pW D cI cZ cB (wdX8 cI cZ cB ad σ) sz [.ref (ad 0), .int a1]) (qW D none (wdX8 cI cZ cB ad res) (va_A (wdX8 cI cZ cB ad σ) sz)) 0 0 (va_A (wdX8 cI cZ cB ad σ) sz) := (bX8_putFour l D cI cZ cB ad σ a1 res h).metv (by decide +kernel) rfl (Nat.le_of_ble_eq_true rfl)
def rmX8_byteAt : Room := { frames := 0, cells := 0, slots := 0, locals := 0 }
set_option maxHeartbeats 4000000 in
set_option maxRecDepth 100000 in
theorem bX8_byteAt (l : Launch) (D : va_G) (cI cZ cB : ClassId) (ad : Nat → Nat) (σ : Mem) (a1 : Int32) (res : Int32) (h : X8_byteAt a1 σ = some res) : BR l yX8_byteAt wsX8_byteAt rmX8_byteAt cX8_byteAt 2 (some .int) D cI cZ cB (wdX8 cI cZ cB ad σ) [.ref (ad 0), .int a1] (some (.int res)) := by
  intro p e s m args below meth c ls Q hx hb hml hts hown hK hP hl0 hR
  have hinX8 : ∀ w ∈ u_ws RX8 TX8 2, w ∈ wsX8_byteAt := (fun _ h => List.mem_cons_of_mem _ (List.mem_append_right _ h))
  have fl1 := hts (.fieldLink RX8 15 "LawNumberer$Text" "length" "I") (by decide +kernel)
  have fl2 := hts (.fieldLink RX8 9 "LawNumberer$Text" "bytes" "[I") (by decide +kernel)
  have hl : lv_has ls 2 [(0, .ref (ad 0)), (1, .int a1)] := hl0
  rw [X8_byteAt] at h
  refine lv_iload_n hx hb dX8_byteAt_0 rfl (lv_at hl 1 rfl) ?_
  refine lv_if_lt (tgt := 30) hx hb dX8_byteAt_1 (by decide) (fun c1 => ?_) (fun c1 => ?_)
  · have h := ite_t c1 h
    refine lv_iconst (v := (-1)) hx hb dX8_byteAt_30 (by decide) ?_
    exact hR (some (.int (-1))) _ _ (by rw [← Option.some.inj h]) rfl dX8_byteAt_31
  · have h := ite_f c1 h
    refine lv_iload_n hx hb dX8_byteAt_4 rfl (lv_at hl 1 rfl) ?_
    refine lv_aload_n hx hb dX8_byteAt_5 rfl (lv_at hl 0 rfl) ?_
    refine va_get (ci := 6) (v := .int (σ 0 1)) (C := RX8) (T := TX8) (N := 2) hx hb hts hinX8 hown hK hP 0 rfl rfl 1 (by decide) fl1 (fun _ h9 => h9) rfl dX8_byteAt_6 ?_
    refine lv_icmp_ge (tgt := 30) hx hb dX8_byteAt_9 (by decide) (fun c2 => ?_) (fun c2 => ?_)
    · have h := ite_t c2 h
      refine lv_iconst (v := (-1)) hx hb dX8_byteAt_30 (by decide) ?_
      exact hR (some (.int (-1))) _ _ (by rw [← Option.some.inj h]) rfl dX8_byteAt_31
    · have h := ite_f c2 h
      refine lv_iload_n hx hb dX8_byteAt_12 rfl (lv_at hl 1 rfl) ?_
      refine lv_aload_n hx hb dX8_byteAt_13 rfl (lv_at hl 0 rfl) ?_
      refine va_get (ci := 6) (v := .ref (ad 1)) (C := RX8) (T := TX8) (N := 2) hx hb hts hinX8 hown hK hP 0 rfl rfl 0 (by decide) fl2 (fun _ h9 => h9) rfl dX8_byteAt_14 ?_
      refine va_alen (v := 200) hx hb hK hP 1 0 rfl rfl rfl dX8_byteAt_17 ?_
      refine lv_icmp_ge (tgt := 30) hx hb dX8_byteAt_18 (by decide) (fun c3 => ?_) (fun c3 => ?_)
      · have h := ite_t c3 h
        refine lv_iconst (v := (-1)) hx hb dX8_byteAt_30 (by decide) ?_
        exact hR (some (.int (-1))) _ _ (by rw [← Option.some.inj h]) rfl dX8_byteAt_31
      · have h := ite_f c3 h
        refine lv_aload_n hx hb dX8_byteAt_21 rfl (lv_at hl 0 rfl) ?_
        refine va_get (ci := 6) (v := .ref (ad 1)) (C := RX8) (T := TX8) (N := 2) hx hb hts hinX8 hown hK hP 0 rfl rfl 0 (by decide) fl2 (fun _ h9 => h9) rfl dX8_byteAt_22 ?_
        refine lv_iload_n hx hb dX8_byteAt_25 rfl (lv_at hl 1 rfl) ?_
        obtain ⟨hin4, h⟩ := gd_e h
        refine va_iald hx hb hK hP 1 0 rfl rfl hin4 dX8_byteAt_26 ?_
        refine lv_goto (tgt := 31) hx hb dX8_byteAt_27 (by decide) ?_
        exact hR (some (.int (σ 1 (Int32.toNatClampNeg a1)))) _ _ (by rw [← Option.some.inj h]) rfl dX8_byteAt_31
set_option maxHeartbeats 4000000 in
set_option maxRecDepth 100000 in
theorem mX8_byteAt (l : Launch) (D : va_G) (cI cZ cB : ClassId) (ad : Nat → Nat) (σ : Mem) (a1 : Int32) (res : Int32) (h : X8_byteAt a1 σ = some res) : Met l yX8_byteAt wsX8_byteAt rmX8_byteAt (pR D cI cZ cB (wdX8 cI cZ cB ad σ) [.ref (ad 0), .int a1]) (qR (some (.int res))) 0 0 (fun _ => False) := (bX8_byteAt l D cI cZ cB ad σ a1 res h).met (by decide +kernel) rfl (Nat.le_of_ble_eq_true rfl)
def rmX7_failAt : Room := { frames := 0, cells := 0, slots := 0, locals := 0 }
set_option maxHeartbeats 4000000 in
set_option maxRecDepth 100000 in
theorem bX7_failAt (l : Launch) (D : va_G) (cI cZ cB : ClassId) (ad : Nat → Nat) (σ : Mem) (a1 : Int32) (a2 : Int32) (res : Mem) (h : X7_failAt a1 a2 σ = some res) : BW l yX7_failAt wsX7_failAt rmX7_failAt cX7_failAt 3 none D cI cZ cB (wdX7 cI cZ cB ad σ) [.ref (ad 0), .int a1, .int a2] none (wdX7 cI cZ cB ad res) := by
  intro p e s m args below meth c ls Q A hx hb hml hts hown hK hA hP hD hS hl0 hR
  have hinX7 : ∀ w ∈ u_ws RX7 TX7 3, w ∈ wsX7_failAt := (fun _ h => List.mem_cons_of_mem _ (List.mem_append_right _ h))
  have fl1 := hts (.fieldLink RX7 15 "LawNumberer$LevelsReader" "fault" "I") (by decide +kernel)
  have fl2 := hts (.fieldLink RX7 20 "LawNumberer$LevelsReader" "faultPlace" "I") (by decide +kernel)
  have hl : lv_has ls 3 [(0, .ref (ad 0)), (1, .int a1), (2, .int a2)] := hl0
  rw [X7_failAt] at h
  have hS := hS
  refine lv_aload_n hx hb dX7_failAt_0 rfl (lv_at hl 0 rfl) ?_
  refine lv_iload_n hx hb dX7_failAt_1 rfl (lv_at hl 2 rfl) ?_
  obtain ⟨σ1, eσ1, h⟩ := lt_e h
  refine va_put (ci := 5) (v := .int a2) (ty := .int) (C := RX7) (T := TX7) (N := 3) hx hb hts hinX7 tyX7 tyX7_ok nmX7 hown hK hP hD hS 0 rfl rfl 0 (by decide) fl1 (fun _ h9 => h9) rfl (by decide +kernel) rfl rfl (Nat.le_of_ble_eq_true rfl) dX7_failAt_2 (fun H locs hP1 hD1 hS => ?_)
  have hP : va_P D vwCl (wdX7 cI cZ cB ad σ1) H := by rw [eσ1]; exact hP1
  have hD : va_D A (wdX7 cI cZ cB ad σ1) := D_of (by rfl) hD
  refine lv_aload_n hx hb dX7_failAt_5 rfl (lv_at hl 0 rfl) ?_
  refine lv_iload_n hx hb dX7_failAt_6 rfl (lv_at hl 1 rfl) ?_
  obtain ⟨σ2, eσ2, h⟩ := lt_e h
  refine va_put (ci := 5) (v := .int a1) (ty := .int) (C := RX7) (T := TX7) (N := 3) hx hb hts hinX7 tyX7 tyX7_ok nmX7 hown hK hP hD hS 0 rfl rfl 1 (by decide) fl2 (fun _ h9 => h9) rfl (by decide +kernel) rfl rfl (Nat.le_of_ble_eq_true rfl) dX7_failAt_7 (fun H locs hP1 hD1 hS => ?_)
  have hP : va_P D vwCl (wdX7 cI cZ cB ad σ2) H := by rw [eσ2]; exact hP1
  have hD : va_D A (wdX7 cI cZ cB ad σ2) := D_of (by rfl) hD
  exact hR none (wdX7 cI cZ cB ad σ2) _ _ _ _ rfl (by rw [← Option.some.inj h]) trivial dX7_failAt_10 hP hS
set_option maxHeartbeats 4000000 in
set_option maxRecDepth 100000 in
theorem mX7_failAt (l : Launch) (D : va_G) (cI cZ cB : ClassId) (ad : Nat → Nat) (σ : Mem) (sz : Nat) (a1 : Int32) (a2 : Int32) (res : Mem) (h : X7_failAt a1 a2 σ = some res) : Met l yX7_failAt wsX7_failAt rmX7_failAt (pW D cI cZ cB (wdX7 cI cZ cB ad σ) sz [.ref (ad 0), .int a1, .int a2]) (qW D none (wdX7 cI cZ cB ad res) (va_A (wdX7 cI cZ cB ad σ) sz)) 0 0 (va_A (wdX7 cI cZ cB ad σ) sz) := (bX7_failAt l D cI cZ cB ad σ a1 a2 res h).metv (by decide +kernel) rfl (Nat.le_of_ble_eq_true rfl)
def rmX7_takeSemicolon : Room := { frames := 1, cells := 0, slots := 0, locals := 22 }
set_option maxHeartbeats 4000000 in
set_option maxRecDepth 100000 in
theorem bX7_takeSemicolon (l : Launch) (D : va_G) (cI cZ cB : ClassId) (ad : Nat → Nat) (σ : Mem) (a1 : Int32) (res : Mem) (h : X7_takeSemicolon a1 σ = some res) : BW l yX7_takeSemicolon wsX7_takeSemicolon rmX7_takeSemicolon cX7_takeSemicolon 2 none D cI cZ cB (wdX7 cI cZ cB ad σ) [.ref (ad 0), .int a1] none (wdX7 cI cZ cB ad res) := by
  intro p e s m args below meth c ls Q A hx hb hml hts hown hK hA hP hD hS hl0 hR
  have hinX7 : ∀ w ∈ u_ws RX7 TX7 3, w ∈ wsX7_takeSemicolon := (fun _ h => List.mem_cons_of_mem _ (List.mem_append_right _ h))
  have fl1 := hts (.fieldLink RX7 23 "LawNumberer$LevelsReader" "due" "I") (by decide +kernel)
  have hl : lv_has ls 2 [(0, .ref (ad 0)), (1, .int a1)] := hl0
  have n13 : ∀ (σ : Mem) (H : Heap) (locs : List Loc), va_P D vwCl (wdX7 cI cZ cB ad σ) H → va_D A (wdX7 cI cZ cB ad σ) → va_S A s.heap H locs → ∀ (ls : Array Slot), lv_has ls 2 [(0, .ref (ad 0))] → X7_takeSemicolon_13 a1 σ = some res → W p l e rmX7_takeSemicolon s m args below meth c H locs 0 0 Q (F0 m 13 ls []) := by
    intro σ H locs hP hD hS ls hl h
    rw [X7_takeSemicolon_13] at h
    refine lv_aload_n hx hb dX7_takeSemicolon_13 rfl (lv_at hl 0 rfl) ?_
    refine lv_iconst (v := 0) hx hb dX7_takeSemicolon_14 (by decide) ?_
    obtain ⟨σ1, eσ1, h⟩ := lt_e h
    refine va_put (ci := 5) (v := .int 0) (ty := .int) (C := RX7) (T := TX7) (N := 3) hx hb hts hinX7 tyX7 tyX7_ok nmX7 hown hK hP hD hS 0 rfl rfl 2 (by decide) fl1 (fun _ h9 => h9) rfl (by decide +kernel) rfl rfl (Nat.le_of_ble_eq_true rfl) dX7_takeSemicolon_15 (fun H locs hP1 hD1 hS => ?_)
    have hP : va_P D vwCl (wdX7 cI cZ cB ad σ1) H := by rw [eσ1]; exact hP1
    have hD : va_D A (wdX7 cI cZ cB ad σ1) := D_of (by rfl) hD
    exact hR none (wdX7 cI cZ cB ad σ1) _ _ _ _ rfl (by rw [← Option.some.inj h]) trivial dX7_takeSemicolon_18 hP hS
  rw [X7_takeSemicolon] at h
  have hS := hS
  refine lv_aload_n hx hb dX7_takeSemicolon_0 rfl (lv_at hl 0 rfl) ?_
  refine va_get (ci := 5) (v := .int (σ 0 2)) (C := RX7) (T := TX7) (N := 3) hx hb hts hinX7 hown hK hP 0 rfl rfl 2 (by decide) fl1 (fun _ h9 => h9) rfl dX7_takeSemicolon_1 ?_
  refine lv_if_ne (tgt := 13) hx hb dX7_takeSemicolon_4 (by decide) (fun c2 => ?_) (fun c2 => ?_)
  · have h := ite_f c2 h
    exact n13 σ _ _ hP hD hS _ (lv_sub hl [0] rfl) h
  · have h := ite_t c2 h
    refine lv_aload_n hx hb dX7_takeSemicolon_7 rfl (lv_at hl 0 rfl) ?_
    refine lv_iload_n hx hb dX7_takeSemicolon_8 rfl (lv_at hl 1 rfl) ?_
    refine lv_iconst (v := 2) hx hb dX7_takeSemicolon_9 (by decide) ?_
    obtain ⟨r3, hr3, h⟩ := bd_e h
    obtain ⟨σ4, eσ4, h⟩ := lt_e h
    refine cl_WVs (rest := []) (wn := (wdX7 cI cZ cB ad σ4)) (ci := 5) (q0 := 0) ⟨hx, hb, hml, hown, hts⟩ (mX7_failAt l D cI cZ cB ad σ s.heap.size a1 2 r3 hr3) (cwV 2 hts gX7_takeSemicolon_X7_failAt rfl rfl rfl (by decide +kernel) ⟨Nat.le_of_ble_eq_true rfl, Nat.le_of_ble_eq_true rfl⟩) hK hP hD hS hA (by rw [eσ4]) rfl rfl rfl rfl rfl hl.1 rfl (Nat.le_of_ble_eq_true rfl) dX7_takeSemicolon_10 ⟨Nat.zero_le _, Nat.zero_le _⟩ (fun H locs hP hD hS => ?_)
    refine W.eq (g2 := F0 m 13 ls []) rfl ?_
    exact n13 σ4 _ _ hP hD hS _ (lv_sub hl [0] rfl) h
set_option maxHeartbeats 4000000 in
set_option maxRecDepth 100000 in
theorem mX7_takeSemicolon (l : Launch) (D : va_G) (cI cZ cB : ClassId) (ad : Nat → Nat) (σ : Mem) (sz : Nat) (a1 : Int32) (res : Mem) (h : X7_takeSemicolon a1 σ = some res) : Met l yX7_takeSemicolon wsX7_takeSemicolon rmX7_takeSemicolon (pW D cI cZ cB (wdX7 cI cZ cB ad σ) sz [.ref (ad 0), .int a1]) (qW D none (wdX7 cI cZ cB ad res) (va_A (wdX7 cI cZ cB ad σ) sz)) 0 0 (va_A (wdX7 cI cZ cB ad σ) sz) := (bX7_takeSemicolon l D cI cZ cB ad σ a1 res h).metv (by decide +kernel) rfl (Nat.le_of_ble_eq_true rfl)
def rmX7_isSmallLetter : Room := { frames := 0, cells := 0, slots := 0, locals := 0 }
set_option maxHeartbeats 4000000 in
set_option maxRecDepth 100000 in
theorem bX7_isSmallLetter (l : Launch) (D : va_G) (cI cZ cB : ClassId) (a0 : Int32) (res : Int32) (h : X7_isSmallLetter a0 = some res) : BR l yX7_isSmallLetter wsX7_isSmallLetter rmX7_isSmallLetter cX7_isSmallLetter 1 (some .boolean) D cI cZ cB wd0 [.int a0] (some (.int res)) := by
  intro p e s m args below meth c ls Q hx hb hml hts hown hK hP hl0 hR
  have hl : lv_has ls 1 [(0, .int a0)] := hl0
  rw [X7_isSmallLetter] at h
  refine lv_iload_n hx hb dX7_isSmallLetter_0 rfl (lv_at hl 0 rfl) ?_
  refine lv_bipush (v := 97) hx hb dX7_isSmallLetter_1 (by decide) ?_
  refine lv_icmp_lt (tgt := 16) hx hb dX7_isSmallLetter_3 (by decide) (fun c1 => ?_) (fun c1 => ?_)
  · have h := ite_t c1 h
    refine lv_iconst (v := 0) hx hb dX7_isSmallLetter_16 (by decide) ?_
    exact hR (some (.int 0)) _ _ (by rw [← Option.some.inj h]) nb0 dX7_isSmallLetter_17
  · have h := ite_f c1 h
    refine lv_iload_n hx hb dX7_isSmallLetter_6 rfl (lv_at hl 0 rfl) ?_
    refine lv_bipush (v := 122) hx hb dX7_isSmallLetter_7 (by decide) ?_
    refine lv_icmp_gt (tgt := 16) hx hb dX7_isSmallLetter_9 (by decide) (fun c2 => ?_) (fun c2 => ?_)
    · have h := ite_t c2 h
      refine lv_iconst (v := 0) hx hb dX7_isSmallLetter_16 (by decide) ?_
      exact hR (some (.int 0)) _ _ (by rw [← Option.some.inj h]) nb0 dX7_isSmallLetter_17
    · have h := ite_f c2 h
      refine lv_iconst (v := 1) hx hb dX7_isSmallLetter_12 (by decide) ?_
      refine lv_goto (tgt := 17) hx hb dX7_isSmallLetter_13 (by decide) ?_
      exact hR (some (.int 1)) _ _ (by rw [← Option.some.inj h]) nb1 dX7_isSmallLetter_17
set_option maxHeartbeats 4000000 in
set_option maxRecDepth 100000 in
theorem mX7_isSmallLetter (l : Launch) (D : va_G) (cI cZ cB : ClassId) (a0 : Int32) (res : Int32) (h : X7_isSmallLetter a0 = some res) : Met l yX7_isSmallLetter wsX7_isSmallLetter rmX7_isSmallLetter (pR D cI cZ cB wd0 [.int a0]) (qR (some (.int res))) 0 0 (fun _ => False) := (bX7_isSmallLetter l D cI cZ cB a0 res h).met (by decide +kernel) rfl (Nat.le_of_ble_eq_true rfl)
def rmX7_wordEnd : Room := { frames := 1, cells := 0, slots := 0, locals := 21 }
set_option maxHeartbeats 4000000 in
set_option maxRecDepth 100000 in
theorem bX7_wordEnd (l : Launch) (D : va_G) (cI cZ cB : ClassId) (ad : Nat → Nat) (σ : Mem) (a1 : Int32) (res : Int32) (h : X7_wordEnd a1 σ = some res) : BR l yX7_wordEnd wsX7_wordEnd rmX7_wordEnd cX7_wordEnd 3 (some .int) D cI cZ cB (wdX8 cI cZ cB ad σ) [.ref (ad 0), .int a1] (some (.int res)) := by
  intro p e s m args below meth c ls Q hx hb hml hts hown hK hP hl0 hR
  have hinX8 : ∀ w ∈ u_ws RX8 TX8 2, w ∈ wsX7_wordEnd := (fun _ h => List.mem_cons_of_mem _ (List.mem_append_right _ h))
  have fl1 := hts (.fieldLink RX7 26 "LawNumberer$Text" "length" "I") (by decide +kernel)
  have hl : lv_has ls 3 [(0, .ref (ad 0)), (1, .int a1)] := hl0
  have n4 : ∀ (n : Nat) (x2 : Int32) (ls : Array Slot), lv_has ls 3 [(0, .ref (ad 0)), (2, .int x2)] → X7_wordEnd_4 a1 σ n x2 = some res → W p l e rmX7_wordEnd s m args below meth c s.heap [] 0 0 Q (F0 m 4 ls []) := by
    intro n
    induction n with
    | zero =>
      intro x2 ls hl h
      rw [X7_wordEnd_4] at h
      cases h
    | succ n_4 ih4 =>
      intro x2 ls hl h
      rw [X7_wordEnd_4] at h
      refine lv_iload_n hx hb dX7_wordEnd_4 rfl (lv_at hl 1 rfl) ?_
      refine lv_aload_n hx hb dX7_wordEnd_5 rfl (lv_at hl 0 rfl) ?_
      refine va_get (ci := 6) (v := .int (σ 0 1)) (C := RX8) (T := TX8) (N := 2) hx hb hts hinX8 hown hK hP 0 rfl rfl 1 (by decide) fl1 (fun _ h9 => h9) rfl dX7_wordEnd_6 ?_
      refine lv_icmp_ge (tgt := 29) hx hb dX7_wordEnd_9 (by decide) (fun c1 => ?_) (fun c1 => ?_)
      · have h := ite_t c1 h
        refine lv_iload_n hx hb dX7_wordEnd_29 rfl (lv_at hl 1 rfl) ?_
        exact hR (some (.int x2)) _ _ (by rw [← Option.some.inj h]) rfl dX7_wordEnd_30
      · have h := ite_f c1 h
        refine lv_aload_n hx hb dX7_wordEnd_12 rfl (lv_at hl 0 rfl) ?_
        refine lv_iload_n hx hb dX7_wordEnd_13 rfl (lv_at hl 1 rfl) ?_
        obtain ⟨r2, hr2, h⟩ := bd_e h
        refine cl_RV (rest := []) (ci := 6) (q0 := 0) ⟨hx, hb, hml, hown, hts⟩ (mX8_byteAt l D cI cZ cB ad σ x2 r2 hr2) (cwV 1 hts gX7_wordEnd_X8_byteAt rfl rfl rfl (by decide +kernel) ⟨Nat.le_of_ble_eq_true rfl, Nat.le_of_ble_eq_true rfl⟩) hK hP rfl rfl rfl rfl hl.1 rfl (Nat.le_of_ble_eq_true rfl) dX7_wordEnd_14 ⟨Nat.zero_le _, Nat.zero_le _⟩ ?_
        refine W.eq (g2 := F0 m 17 ls [.int r2]) rfl ?_
        obtain ⟨r3, hr3, h⟩ := bd_e h
        refine cl_RS (rest := []) ⟨hx, hb, hml, hown, hts⟩ (mX7_isSmallLetter l D cI cZ cB r2 r3 hr3) (va_cwS 1 hts gX7_wordEnd_X7_isSmallLetter rfl rfl rfl (by decide +kernel) ⟨Nat.le_of_ble_eq_true rfl, Nat.le_of_ble_eq_true rfl⟩) hK wd0_P rfl hl.1 rfl (Nat.le_of_ble_eq_true rfl) dX7_wordEnd_17 ⟨Nat.zero_le _, Nat.zero_le _⟩ ?_
        refine W.eq (g2 := F0 m 20 ls [.int r3]) rfl ?_
        refine lv_if_eq (tgt := 29) hx hb dX7_wordEnd_20 (by decide) (fun c4 => ?_) (fun c4 => ?_)
        · have h := ite_t c4 h
          refine lv_iload_n hx hb dX7_wordEnd_29 rfl (lv_at hl 1 rfl) ?_
          exact hR (some (.int x2)) _ _ (by rw [← Option.some.inj h]) rfl dX7_wordEnd_30
        · have h := ite_f c4 h
          obtain ⟨x2_5, ex2_5, h⟩ := lt_e h
          refine lv_iinc (v := x2_5) (lv' := [(2, .int x2_5), (0, .ref (ad 0))]) hx hb dX7_wordEnd_23 hl (k := 1) rfl (by rw [ex2_5]; rfl) (by decide) rfl (fun ls hl => ?_)
          refine lv_goto (tgt := 4) hx hb dX7_wordEnd_26 (by decide) ?_
          exact ih4 x2_5 _ (lv_sub hl [1, 0] rfl) h
  rw [X7_wordEnd] at h
  refine lv_iload_n hx hb dX7_wordEnd_0 rfl (lv_at hl 1 rfl) ?_
  refine lv_iconst (v := 1) hx hb dX7_wordEnd_1 (by decide) ?_
  refine lv_iadd hx hb dX7_wordEnd_2 ?_
  obtain ⟨x2_6, ex2_6, h⟩ := lt_e h
  refine lv_topE ex2_6 ?_
  refine lv_istore_n (lv' := [(2, .int x2_6), (0, .ref (ad 0)), (1, .int a1)]) hx hb dX7_wordEnd_3 rfl hl (by decide) rfl (fun ls hl => ?_)
  exact n4 FU x2_6 _ (lv_sub hl [1, 0] rfl) h
set_option maxHeartbeats 4000000 in
set_option maxRecDepth 100000 in
theorem mX7_wordEnd (l : Launch) (D : va_G) (cI cZ cB : ClassId) (ad : Nat → Nat) (σ : Mem) (a1 : Int32) (res : Int32) (h : X7_wordEnd a1 σ = some res) : Met l yX7_wordEnd wsX7_wordEnd rmX7_wordEnd (pR D cI cZ cB (wdX8 cI cZ cB ad σ) [.ref (ad 0), .int a1]) (qR (some (.int res))) 0 0 (fun _ => False) := (bX7_wordEnd l D cI cZ cB ad σ a1 res h).met (by decide +kernel) rfl (Nat.le_of_ble_eq_true rfl)
def rmX8_isWord : Room := { frames := 4, cells := 0, slots := 0, locals := 85 }
set_option maxHeartbeats 4000000 in
set_option maxRecDepth 100000 in
theorem bX8_isWord (K : Nat → Nat) (l : Launch) (D : va_G) (cI cZ cB : ClassId) (ad : Nat → Nat) (σ : Mem) (a1 : Int32) (a2 : Int32) (i3 : Nat) (hi3 : i3 < 5) (res : Int32) (h : X8_isWord a1 a2 i3 σ = some res) : BRx K l yX8_isWord wsX8_isWord rmX8_isWord cX8_isWord 5 (some .boolean) D cI cZ cB (wdX8 cI cZ cB ad σ) [.ref (ad 0), .int a1, .int a2, .ref (K (10 + i3))] (some (.int res)) := by
  intro p e s m args below meth c ls Q hx hb hml hts hown hX hK hP hl0 hR
  have hX0 := hX
  obtain ⟨⟨hZtS, hTtS, hZtF, hTtF, hZtG, hTtG⟩, ⟨hC1, hC2, hC3⟩, hR1, hR2, hR3, hR4, hR5⟩ := hX0
  have hl : lv_has ls 5 [(0, .ref (ad 0)), (1, .int a1), (2, .int a2), (3, .ref (K (10 + i3)))] := hl0
  have n15 : ∀ (n : Nat) (x4 : Int32) (ls : Array Slot), lv_has ls 5 [(0, .ref (ad 0)), (1, .int a1), (3, .ref (K (10 + i3))), (4, .int x4)] → X8_isWord_15 a1 a2 i3 σ n x4 = some res → W p l e rmX8_isWord s m args below meth c s.heap [] 0 0 Q (F0 m 15 ls []) := by
    intro n
    induction n with
    | zero =>
      intro x4 ls hl h
      rw [X8_isWord_15] at h
      cases h
    | succ n_15 ih15 =>
      intro x4 ls hl h
      rw [X8_isWord_15] at h
      refine lv_iload hx hb dX8_isWord_15 (lv_at hl 3 rfl) ?_
      refine lv_aload_n hx hb dX8_isWord_17 rfl (lv_at hl 2 rfl) ?_
      refine cl_RVk (rest := [.int x4]) ⟨hx, hb, hml, hown, hts⟩ (mJ0_length K l D cI cZ cB i3 hi3) (cwV 0 hts gX8_isWord_J0_length_8abf5 rfl rfl rfl (by decide +kernel) ⟨Nat.le_of_ble_eq_true rfl, Nat.le_of_ble_eq_true rfl⟩) hX va_S.rf hK wd0_P (vk_recv (i := i3) hC3 hi3 va_S.rf) rfl hl.1 rfl (Nat.le_of_ble_eq_true rfl) dX8_isWord_18 ⟨Nat.zero_le _, Nat.zero_le _⟩ ?_
      refine W.eq (g2 := F0 m 21 ls [.int (nI (sLen i3)), .int x4]) rfl ?_
      refine lv_icmp_ge (tgt := 49) hx hb dX8_isWord_21 (by decide) (fun c1 => ?_) (fun c1 => ?_)
      · have h := ite_t c1 h
        refine lv_iconst (v := 1) hx hb dX8_isWord_49 (by decide) ?_
        exact hR (some (.int 1)) _ _ (by rw [← Option.some.inj h]) nb1 dX8_isWord_50
      · have h := ite_f c1 h
        refine lv_aload_n hx hb dX8_isWord_24 rfl (lv_at hl 0 rfl) ?_
        refine lv_iload_n hx hb dX8_isWord_25 rfl (lv_at hl 1 rfl) ?_
        refine lv_iload hx hb dX8_isWord_26 (lv_at hl 3 rfl) ?_
        refine lv_iadd hx hb dX8_isWord_28 ?_
        obtain ⟨r2, hr2, h⟩ := bd_e h
        refine cl_RV (rest := []) (ci := 6) (q0 := 0) ⟨hx, hb, hml, hown, hts⟩ (mX8_byteAt l D cI cZ cB ad σ (a1 + x4) r2 hr2) (cwV 1 hts gX8_isWord_X8_byteAt rfl rfl rfl (by decide +kernel) ⟨Nat.le_of_ble_eq_true rfl, Nat.le_of_ble_eq_true rfl⟩) hK hP rfl rfl rfl rfl hl.1 rfl (Nat.le_of_ble_eq_true rfl) dX8_isWord_29 ⟨Nat.zero_le _, Nat.zero_le _⟩ ?_
        refine W.eq (g2 := F0 m 32 ls [.int r2]) rfl ?_
        refine lv_aload_n hx hb dX8_isWord_32 rfl (lv_at hl 2 rfl) ?_
        refine lv_iload hx hb dX8_isWord_33 (lv_at hl 3 rfl) ?_
        obtain ⟨hin3, h⟩ := gd_e h
        refine cl_RVk (rest := [.int r2]) ⟨hx, hb, hml, hown, hts⟩ (mJ0_charAt K l D cI cZ cB i3 hi3 x4 hin3) (cwV 1 hts gX8_isWord_J0_charAt_5068e rfl rfl rfl (by decide +kernel) ⟨Nat.le_of_ble_eq_true rfl, Nat.le_of_ble_eq_true rfl⟩) hX va_S.rf hK wd0_P (vk_recv (i := i3) hC3 hi3 va_S.rf) rfl hl.1 rfl (Nat.le_of_ble_eq_true rfl) dX8_isWord_35 ⟨Nat.zero_le _, Nat.zero_le _⟩ ?_
        refine W.eq (g2 := F0 m 38 ls [.int (sCh i3 (Int32.toNatClampNeg x4)), .int r2]) rfl ?_
        refine lv_icmp_eq (tgt := 43) hx hb dX8_isWord_38 (by decide) (fun c4 => ?_) (fun c4 => ?_)
        · have h := ite_t c4 h
          obtain ⟨x4_5, ex4_5, h⟩ := lt_e h
          refine lv_iinc (v := x4_5) (lv' := [(4, .int x4_5), (0, .ref (ad 0)), (1, .int a1), (3, .ref (K (10 + i3)))]) hx hb dX8_isWord_43 hl (k := 3) rfl (by rw [ex4_5]; rfl) (by decide) rfl (fun ls hl => ?_)
          refine lv_goto (tgt := 15) hx hb dX8_isWord_46 (by decide) ?_
          exact ih15 x4_5 _ (lv_sub hl [1, 2, 3, 0] rfl) h
        · have h := ite_f c4 h
          refine lv_iconst (v := 0) hx hb dX8_isWord_41 (by decide) ?_
          exact hR (some (.int 0)) _ _ (by rw [← Option.some.inj h]) nb0 dX8_isWord_42
  rw [X8_isWord] at h
  refine lv_iload_n hx hb dX8_isWord_0 rfl (lv_at hl 2 rfl) ?_
  refine lv_iload_n hx hb dX8_isWord_1 rfl (lv_at hl 1 rfl) ?_
  refine lv_isub hx hb dX8_isWord_2 ?_
  refine lv_aload_n hx hb dX8_isWord_3 rfl (lv_at hl 3 rfl) ?_
  refine cl_RVk (rest := [.int (a2 - a1)]) ⟨hx, hb, hml, hown, hts⟩ (mJ0_length K l D cI cZ cB i3 hi3) (cwV 0 hts gX8_isWord_J0_length_8abf5 rfl rfl rfl (by decide +kernel) ⟨Nat.le_of_ble_eq_true rfl, Nat.le_of_ble_eq_true rfl⟩) hX va_S.rf hK wd0_P (vk_recv (i := i3) hC3 hi3 va_S.rf) rfl hl.1 rfl (Nat.le_of_ble_eq_true rfl) dX8_isWord_4 ⟨Nat.zero_le _, Nat.zero_le _⟩ ?_
  refine W.eq (g2 := F0 m 7 ls [.int (nI (sLen i3)), .int (a2 - a1)]) rfl ?_
  refine lv_icmp_eq (tgt := 12) hx hb dX8_isWord_7 (by decide) (fun c6 => ?_) (fun c6 => ?_)
  · have h := ite_t c6 h
    refine lv_iconst (v := 0) hx hb dX8_isWord_12 (by decide) ?_
    refine lv_istore (lv' := [(4, .int 0), (0, .ref (ad 0)), (1, .int a1), (2, .int a2), (3, .ref (K (10 + i3)))]) hx hb dX8_isWord_13 hl (by decide) rfl (fun ls hl => ?_)
    exact n15 FU 0 _ (lv_sub hl [1, 2, 4, 0] rfl) h
  · have h := ite_f c6 h
    refine lv_iconst (v := 0) hx hb dX8_isWord_10 (by decide) ?_
    exact hR (some (.int 0)) _ _ (by rw [← Option.some.inj h]) nb0 dX8_isWord_11
set_option maxHeartbeats 4000000 in
set_option maxRecDepth 100000 in
theorem mX8_isWord (K : Nat → Nat) (l : Launch) (D : va_G) (cI cZ cB : ClassId) (ad : Nat → Nat) (σ : Mem) (a1 : Int32) (a2 : Int32) (i3 : Nat) (hi3 : i3 < 5) (res : Int32) (h : X8_isWord a1 a2 i3 σ = some res) : Met l yX8_isWord wsX8_isWord rmX8_isWord (pRx K D cI cZ cB (wdX8 cI cZ cB ad σ) [.ref (ad 0), .int a1, .int a2, .ref (K (10 + i3))]) (qR (some (.int res))) 0 0 (fun _ => False) := (bX8_isWord K l D cI cZ cB ad σ a1 a2 i3 hi3 res h).met (by decide +kernel) rfl (Nat.le_of_ble_eq_true rfl)
def rmX6_makeLastThrough : Room := { frames := 0, cells := 0, slots := 0, locals := 0 }
set_option maxHeartbeats 4000000 in
set_option maxRecDepth 100000 in
theorem bX6_makeLastThrough (l : Launch) (D : va_G) (cI cZ cB : ClassId) (ad : Nat → Nat) (σ : Mem) (res : Mem) (h : X6_makeLastThrough σ = some res) : BW l yX6_makeLastThrough wsX6_makeLastThrough rmX6_makeLastThrough cX6_makeLastThrough 1 none D cI cZ cB (wdX6 cI cZ cB ad σ) [.ref (ad 0)] none (wdX6 cI cZ cB ad res) := by
  intro p e s m args below meth c ls Q A hx hb hml hts hown hK hA hP hD hS hl0 hR
  have hinX6 : ∀ w ∈ u_ws RX6 TX6 3, w ∈ wsX6_makeLastThrough := (fun _ h => List.mem_cons_of_mem _ (List.mem_append_right _ h))
  have fl1 := hts (.fieldLink RX6 19 "LawNumberer$Levels" "size" "I") (by decide +kernel)
  have fl2 := hts (.fieldLink RX6 15 "LawNumberer$Levels" "through" "[Z") (by decide +kernel)
  have hl : lv_has ls 1 [(0, .ref (ad 0))] := hl0
  rw [X6_makeLastThrough] at h
  have hS := hS
  refine lv_aload_n hx hb dX6_makeLastThrough_0 rfl (lv_at hl 0 rfl) ?_
  refine va_get (ci := 4) (v := .int (σ 0 2)) (C := RX6) (T := TX6) (N := 3) hx hb hts hinX6 hown hK hP 0 rfl rfl 2 (by decide) fl1 (fun _ h9 => h9) rfl dX6_makeLastThrough_1 ?_
  refine lv_if_le (tgt := 19) hx hb dX6_makeLastThrough_4 (by decide) (fun c1 => ?_) (fun c1 => ?_)
  · have h := ite_t c1 h
    exact hR none (wdX6 cI cZ cB ad σ) _ _ _ _ rfl (by rw [← Option.some.inj h]) trivial dX6_makeLastThrough_19 hP hS
  · have h := ite_f c1 h
    refine lv_aload_n hx hb dX6_makeLastThrough_7 rfl (lv_at hl 0 rfl) ?_
    refine va_get (ci := 4) (v := .ref (ad 2)) (C := RX6) (T := TX6) (N := 3) hx hb hts hinX6 hown hK hP 0 rfl rfl 1 (by decide) fl2 (fun _ h9 => h9) rfl dX6_makeLastThrough_8 ?_
    refine lv_aload_n hx hb dX6_makeLastThrough_11 rfl (lv_at hl 0 rfl) ?_
    refine va_get (ci := 4) (v := .int (σ 0 2)) (C := RX6) (T := TX6) (N := 3) hx hb hts hinX6 hown hK hP 0 rfl rfl 2 (by decide) fl1 (fun _ h9 => h9) rfl dX6_makeLastThrough_12 ?_
    refine lv_iconst (v := 1) hx hb dX6_makeLastThrough_15 (by decide) ?_
    refine lv_isub hx hb dX6_makeLastThrough_16 ?_
    refine lv_iconst (v := 1) hx hb dX6_makeLastThrough_17 (by decide) ?_
    obtain ⟨hin2, h⟩ := gd_e h
    obtain ⟨σ3, eσ3, h⟩ := lt_e h
    refine va_zast hx hb hK hP hD hS 2 1 rfl rfl hin2 dX6_makeLastThrough_18 (fun H locs hP1 hD1 hS => ?_)
    have hP : va_P D vwCl (wdX6 cI cZ cB ad σ3) H := by rw [eσ3]; exact hP1
    have hD : va_D A (wdX6 cI cZ cB ad σ3) := D_of (by rfl) hD
    exact hR none (wdX6 cI cZ cB ad σ3) _ _ _ _ rfl (by rw [← Option.some.inj h]) trivial dX6_makeLastThrough_19 hP hS
set_option maxHeartbeats 4000000 in
set_option maxRecDepth 100000 in
theorem mX6_makeLastThrough (l : Launch) (D : va_G) (cI cZ cB : ClassId) (ad : Nat → Nat) (σ : Mem) (sz : Nat) (res : Mem) (h : X6_makeLastThrough σ = some res) : Met l yX6_makeLastThrough wsX6_makeLastThrough rmX6_makeLastThrough (pW D cI cZ cB (wdX6 cI cZ cB ad σ) sz [.ref (ad 0)]) (qW D none (wdX6 cI cZ cB ad res) (va_A (wdX6 cI cZ cB ad σ) sz)) 0 0 (va_A (wdX6 cI cZ cB ad σ) sz) := (bX6_makeLastThrough l D cI cZ cB ad σ res h).metv (by decide +kernel) rfl (Nat.le_of_ble_eq_true rfl)
def rmX7_formNamed : Room := { frames := 5, cells := 0, slots := 0, locals := 109 }
set_option maxHeartbeats 4000000 in
set_option maxRecDepth 100000 in
theorem bX7_formNamed (K : Nat → Nat) (l : Launch) (D : va_G) (cI cZ cB : ClassId) (ad : Nat → Nat) (σ : Mem) (a1 : Int32) (a2 : Int32) (res : Int32) (h : X7_formNamed a1 a2 σ = some res) : BRx K l yX7_formNamed wsX7_formNamed rmX7_formNamed cX7_formNamed 3 (some .int) D cI cZ cB (wdX8 cI cZ cB ad σ) [.ref (ad 0), .int a1, .int a2] (some (.int res)) := by
  intro p e s m args below meth c ls Q hx hb hml hts hown hX hK hP hl0 hR
  have hX0 := hX
  obtain ⟨⟨hZtS, hTtS, hZtF, hTtF, hZtG, hTtG⟩, ⟨hC1, hC2, hC3⟩, hR1, hR2, hR3, hR4, hR5⟩ := hX0
  have hl : lv_has ls 3 [(0, .ref (ad 0)), (1, .int a1), (2, .int a2)] := hl0
  rw [X7_formNamed] at h
  refine lv_aload_n hx hb dX7_formNamed_0 rfl (lv_at hl 0 rfl) ?_
  refine lv_iload_n hx hb dX7_formNamed_1 rfl (lv_at hl 1 rfl) ?_
  refine lv_iload_n hx hb dX7_formNamed_2 rfl (lv_at hl 2 rfl) ?_
  refine va_ldcS hx hb hown hR2 dX7_formNamed_3 ?_
  obtain ⟨r1, hr1, h⟩ := bd_e h
  refine cl_RVx (rest := []) (ci := 6) (q0 := 0) ⟨hx, hb, hml, hown, hts⟩ (mX8_isWord K l D cI cZ cB ad σ a1 a2 1 (by decide) r1 hr1) (cwV 3 hts gX7_formNamed_X8_isWord rfl rfl rfl (by decide +kernel) ⟨Nat.le_of_ble_eq_true rfl, Nat.le_of_ble_eq_true rfl⟩) hX va_S.rf hK hP rfl rfl rfl rfl hl.1 rfl (Nat.le_of_ble_eq_true rfl) dX7_formNamed_5 ⟨Nat.zero_le _, Nat.zero_le _⟩ ?_
  refine W.eq (g2 := F0 m 8 ls [.int r1]) rfl ?_
  refine lv_if_eq (tgt := 13) hx hb dX7_formNamed_8 (by decide) (fun c2 => ?_) (fun c2 => ?_)
  · have h := ite_t c2 h
    refine lv_aload_n hx hb dX7_formNamed_13 rfl (lv_at hl 0 rfl) ?_
    refine lv_iload_n hx hb dX7_formNamed_14 rfl (lv_at hl 1 rfl) ?_
    refine lv_iload_n hx hb dX7_formNamed_15 rfl (lv_at hl 2 rfl) ?_
    refine va_ldcS hx hb hown hR3 dX7_formNamed_16 ?_
    obtain ⟨r3, hr3, h⟩ := bd_e h
    refine cl_RVx (rest := []) (ci := 6) (q0 := 0) ⟨hx, hb, hml, hown, hts⟩ (mX8_isWord K l D cI cZ cB ad σ a1 a2 2 (by decide) r3 hr3) (cwV 3 hts gX7_formNamed_X8_isWord rfl rfl rfl (by decide +kernel) ⟨Nat.le_of_ble_eq_true rfl, Nat.le_of_ble_eq_true rfl⟩) hX va_S.rf hK hP rfl rfl rfl rfl hl.1 rfl (Nat.le_of_ble_eq_true rfl) dX7_formNamed_18 ⟨Nat.zero_le _, Nat.zero_le _⟩ ?_
    refine W.eq (g2 := F0 m 21 ls [.int r3]) rfl ?_
    refine lv_if_eq (tgt := 26) hx hb dX7_formNamed_21 (by decide) (fun c4 => ?_) (fun c4 => ?_)
    · have h := ite_t c4 h
      refine lv_aload_n hx hb dX7_formNamed_26 rfl (lv_at hl 0 rfl) ?_
      refine lv_iload_n hx hb dX7_formNamed_27 rfl (lv_at hl 1 rfl) ?_
      refine lv_iload_n hx hb dX7_formNamed_28 rfl (lv_at hl 2 rfl) ?_
      refine va_ldcS hx hb hown hR4 dX7_formNamed_29 ?_
      obtain ⟨r5, hr5, h⟩ := bd_e h
      refine cl_RVx (rest := []) (ci := 6) (q0 := 0) ⟨hx, hb, hml, hown, hts⟩ (mX8_isWord K l D cI cZ cB ad σ a1 a2 3 (by decide) r5 hr5) (cwV 3 hts gX7_formNamed_X8_isWord rfl rfl rfl (by decide +kernel) ⟨Nat.le_of_ble_eq_true rfl, Nat.le_of_ble_eq_true rfl⟩) hX va_S.rf hK hP rfl rfl rfl rfl hl.1 rfl (Nat.le_of_ble_eq_true rfl) dX7_formNamed_31 ⟨Nat.zero_le _, Nat.zero_le _⟩ ?_
      refine W.eq (g2 := F0 m 34 ls [.int r5]) rfl ?_
      refine lv_if_eq (tgt := 39) hx hb dX7_formNamed_34 (by decide) (fun c6 => ?_) (fun c6 => ?_)
      · have h := ite_t c6 h
        refine lv_aload_n hx hb dX7_formNamed_39 rfl (lv_at hl 0 rfl) ?_
        refine lv_iload_n hx hb dX7_formNamed_40 rfl (lv_at hl 1 rfl) ?_
        refine lv_iload_n hx hb dX7_formNamed_41 rfl (lv_at hl 2 rfl) ?_
        refine va_ldcS hx hb hown hR5 dX7_formNamed_42 ?_
        obtain ⟨r7, hr7, h⟩ := bd_e h
        refine cl_RVx (rest := []) (ci := 6) (q0 := 0) ⟨hx, hb, hml, hown, hts⟩ (mX8_isWord K l D cI cZ cB ad σ a1 a2 4 (by decide) r7 hr7) (cwV 3 hts gX7_formNamed_X8_isWord rfl rfl rfl (by decide +kernel) ⟨Nat.le_of_ble_eq_true rfl, Nat.le_of_ble_eq_true rfl⟩) hX va_S.rf hK hP rfl rfl rfl rfl hl.1 rfl (Nat.le_of_ble_eq_true rfl) dX7_formNamed_44 ⟨Nat.zero_le _, Nat.zero_le _⟩ ?_
        refine W.eq (g2 := F0 m 47 ls [.int r7]) rfl ?_
        refine lv_if_eq (tgt := 54) hx hb dX7_formNamed_47 (by decide) (fun c8 => ?_) (fun c8 => ?_)
        · have h := ite_t c8 h
          refine lv_iconst (v := (-1)) hx hb dX7_formNamed_54 (by decide) ?_
          exact hR (some (.int (-1))) _ _ (by rw [← Option.some.inj h]) rfl dX7_formNamed_55
        · have h := ite_f c8 h
          refine lv_iconst (v := 3) hx hb dX7_formNamed_50 (by decide) ?_
          refine lv_goto (tgt := 55) hx hb dX7_formNamed_51 (by decide) ?_
          exact hR (some (.int 3)) _ _ (by rw [← Option.some.inj h]) rfl dX7_formNamed_55
      · have h := ite_f c6 h
        refine lv_iconst (v := 2) hx hb dX7_formNamed_37 (by decide) ?_
        exact hR (some (.int 2)) _ _ (by rw [← Option.some.inj h]) rfl dX7_formNamed_38
    · have h := ite_f c4 h
      refine lv_iconst (v := 1) hx hb dX7_formNamed_24 (by decide) ?_
      exact hR (some (.int 1)) _ _ (by rw [← Option.some.inj h]) rfl dX7_formNamed_25
  · have h := ite_f c2 h
    refine lv_iconst (v := 0) hx hb dX7_formNamed_11 (by decide) ?_
    exact hR (some (.int 0)) _ _ (by rw [← Option.some.inj h]) rfl dX7_formNamed_12
set_option maxHeartbeats 4000000 in
set_option maxRecDepth 100000 in
theorem mX7_formNamed (K : Nat → Nat) (l : Launch) (D : va_G) (cI cZ cB : ClassId) (ad : Nat → Nat) (σ : Mem) (a1 : Int32) (a2 : Int32) (res : Int32) (h : X7_formNamed a1 a2 σ = some res) : Met l yX7_formNamed wsX7_formNamed rmX7_formNamed (pRx K D cI cZ cB (wdX8 cI cZ cB ad σ) [.ref (ad 0), .int a1, .int a2]) (qR (some (.int res))) 0 0 (fun _ => False) := (bX7_formNamed K l D cI cZ cB ad σ a1 a2 res h).met (by decide +kernel) rfl (Nat.le_of_ble_eq_true rfl)
def rmX6_append : Room := { frames := 0, cells := 0, slots := 0, locals := 0 }
set_option maxHeartbeats 4000000 in
set_option maxRecDepth 100000 in
theorem bX6_append (l : Launch) (D : va_G) (cI cZ cB : ClassId) (ad : Nat → Nat) (σ : Mem) (a1 : Int32) (res : Mem) (h : X6_append a1 σ = some res) : BW l yX6_append wsX6_append rmX6_append cX6_append 2 none D cI cZ cB (wdX6 cI cZ cB ad σ) [.ref (ad 0), .int a1] none (wdX6 cI cZ cB ad res) := by
  intro p e s m args below meth c ls Q A hx hb hml hts hown hK hA hP hD hS hl0 hR
  have hinX6 : ∀ w ∈ u_ws RX6 TX6 3, w ∈ wsX6_append := (fun _ h => List.mem_cons_of_mem _ (List.mem_append_right _ h))
  have fl1 := hts (.fieldLink RX6 19 "LawNumberer$Levels" "size" "I") (by decide +kernel)
  have fl2 := hts (.fieldLink RX6 9 "LawNumberer$Levels" "forms" "[I") (by decide +kernel)
  have fl3 := hts (.fieldLink RX6 15 "LawNumberer$Levels" "through" "[Z") (by decide +kernel)
  have hl : lv_has ls 2 [(0, .ref (ad 0)), (1, .int a1)] := hl0
  rw [X6_append] at h
  have hS := hS
  refine lv_aload_n hx hb dX6_append_0 rfl (lv_at hl 0 rfl) ?_
  refine va_get (ci := 4) (v := .int (σ 0 2)) (C := RX6) (T := TX6) (N := 3) hx hb hts hinX6 hown hK hP 0 rfl rfl 2 (by decide) fl1 (fun _ h9 => h9) rfl dX6_append_1 ?_
  refine lv_iconst (v := 4) hx hb dX6_append_4 (by decide) ?_
  refine lv_icmp_ge (tgt := 38) hx hb dX6_append_5 (by decide) (fun c1 => ?_) (fun c1 => ?_)
  · have h := ite_t c1 h
    exact hR none (wdX6 cI cZ cB ad σ) _ _ _ _ rfl (by rw [← Option.some.inj h]) trivial dX6_append_38 hP hS
  · have h := ite_f c1 h
    refine lv_aload_n hx hb dX6_append_8 rfl (lv_at hl 0 rfl) ?_
    refine va_get (ci := 4) (v := .ref (ad 1)) (C := RX6) (T := TX6) (N := 3) hx hb hts hinX6 hown hK hP 0 rfl rfl 0 (by decide) fl2 (fun _ h9 => h9) rfl dX6_append_9 ?_
    refine lv_aload_n hx hb dX6_append_12 rfl (lv_at hl 0 rfl) ?_
    refine va_get (ci := 4) (v := .int (σ 0 2)) (C := RX6) (T := TX6) (N := 3) hx hb hts hinX6 hown hK hP 0 rfl rfl 2 (by decide) fl1 (fun _ h9 => h9) rfl dX6_append_13 ?_
    refine lv_iload_n hx hb dX6_append_16 rfl (lv_at hl 1 rfl) ?_
    obtain ⟨hin2, h⟩ := gd_e h
    obtain ⟨σ3, eσ3, h⟩ := lt_e h
    refine va_iast hx hb hK hP hD hS 1 0 rfl rfl hin2 dX6_append_17 (fun H locs hP1 hD1 hS => ?_)
    have hP : va_P D vwCl (wdX6 cI cZ cB ad σ3) H := by rw [eσ3]; exact hP1
    have hD : va_D A (wdX6 cI cZ cB ad σ3) := D_of (by rfl) hD
    refine lv_aload_n hx hb dX6_append_18 rfl (lv_at hl 0 rfl) ?_
    refine va_get (ci := 4) (v := .ref (ad 2)) (C := RX6) (T := TX6) (N := 3) hx hb hts hinX6 hown hK hP 0 rfl rfl 1 (by decide) fl3 (fun _ h9 => h9) rfl dX6_append_19 ?_
    refine lv_aload_n hx hb dX6_append_22 rfl (lv_at hl 0 rfl) ?_
    refine va_get (ci := 4) (v := .int (σ3 0 2)) (C := RX6) (T := TX6) (N := 3) hx hb hts hinX6 hown hK hP 0 rfl rfl 2 (by decide) fl1 (fun _ h9 => h9) rfl dX6_append_23 ?_
    refine lv_iconst (v := 0) hx hb dX6_append_26 (by decide) ?_
    obtain ⟨hin4, h⟩ := gd_e h
    obtain ⟨σ5, eσ5, h⟩ := lt_e h
    refine va_zast hx hb hK hP hD hS 2 1 rfl rfl hin4 dX6_append_27 (fun H locs hP1 hD1 hS => ?_)
    have hP : va_P D vwCl (wdX6 cI cZ cB ad σ5) H := by rw [eσ5]; exact hP1
    have hD : va_D A (wdX6 cI cZ cB ad σ5) := D_of (by rfl) hD
    refine lv_aload_n hx hb dX6_append_28 rfl (lv_at hl 0 rfl) ?_
    refine lv_dup hx hb dX6_append_29 rfl ?_
    refine va_get (ci := 4) (v := .int (σ5 0 2)) (C := RX6) (T := TX6) (N := 3) hx hb hts hinX6 hown hK hP 0 rfl rfl 2 (by decide) fl1 (fun _ h9 => h9) rfl dX6_append_30 ?_
    refine lv_iconst (v := 1) hx hb dX6_append_33 (by decide) ?_
    refine lv_iadd hx hb dX6_append_34 ?_
    obtain ⟨σ6, eσ6, h⟩ := lt_e h
    refine va_put (ci := 4) (v := .int ((σ5 0 2) + 1)) (ty := .int) (C := RX6) (T := TX6) (N := 3) hx hb hts hinX6 tyX6 tyX6_ok nmX6 hown hK hP hD hS 0 rfl rfl 2 (by decide) fl1 (fun _ h9 => h9) rfl (by decide +kernel) rfl rfl (Nat.le_of_ble_eq_true rfl) dX6_append_35 (fun H locs hP1 hD1 hS => ?_)
    have hP : va_P D vwCl (wdX6 cI cZ cB ad σ6) H := by rw [eσ6]; exact hP1
    have hD : va_D A (wdX6 cI cZ cB ad σ6) := D_of (by rfl) hD
    exact hR none (wdX6 cI cZ cB ad σ6) _ _ _ _ rfl (by rw [← Option.some.inj h]) trivial dX6_append_38 hP hS
set_option maxHeartbeats 4000000 in
set_option maxRecDepth 100000 in
theorem mX6_append (l : Launch) (D : va_G) (cI cZ cB : ClassId) (ad : Nat → Nat) (σ : Mem) (sz : Nat) (a1 : Int32) (res : Mem) (h : X6_append a1 σ = some res) : Met l yX6_append wsX6_append rmX6_append (pW D cI cZ cB (wdX6 cI cZ cB ad σ) sz [.ref (ad 0), .int a1]) (qW D none (wdX6 cI cZ cB ad res) (va_A (wdX6 cI cZ cB ad σ) sz)) 0 0 (va_A (wdX6 cI cZ cB ad σ) sz) := (bX6_append l D cI cZ cB ad σ a1 res h).metv (by decide +kernel) rfl (Nat.le_of_ble_eq_true rfl)
def rmX7_takeWord : Room := { frames := 6, cells := 0, slots := 0, locals := 131 }
set_option maxHeartbeats 4000000 in
set_option maxRecDepth 100000 in
theorem bX7_takeWord (K : Nat → Nat) (l : Launch) (D : va_G) (cI cZ cB : ClassId) (ad : Nat → Nat) (σ : Mem) (a3 : Int32) (a4 : Int32) (res : Mem) (h : X7_takeWord a3 a4 σ = some res) : BWx K l yX7_takeWord wsX7_takeWord rmX7_takeWord cX7_takeWord 6 none D cI cZ cB (wdX7_X6_X8 cI cZ cB ad σ) [.ref (ad 0), .ref (ad 1), .ref (ad 4), .int a3, .int a4] none (wdX7_X6_X8 cI cZ cB ad res) := by
  intro p e s m args below meth c ls Q A hx hb hml hts hown hX hK hA hP hD hS hl0 hR
  have hX0 := hX
  obtain ⟨⟨hZtS, hTtS, hZtF, hTtF, hZtG, hTtG⟩, ⟨hC1, hC2, hC3⟩, hR1, hR2, hR3, hR4, hR5⟩ := hX0
  have hinX6 : ∀ w ∈ u_ws RX6 TX6 3, w ∈ wsX7_takeWord := (fun _ h => List.mem_cons_of_mem _ (List.mem_append_left _ (List.mem_append_right _ h)))
  have hinX7 : ∀ w ∈ u_ws RX7 TX7 3, w ∈ wsX7_takeWord := (fun _ h => List.mem_cons_of_mem _ (List.mem_append_left _ (List.mem_append_left _ (List.mem_append_right _ h))))
  have fl1 := hts (.fieldLink RX7 23 "LawNumberer$LevelsReader" "due" "I") (by decide +kernel)
  have fl2 := hts (.fieldLink RX7 9 "LawNumberer$Levels" "size" "I") (by decide +kernel)
  have hl : lv_has ls 6 [(0, .ref (ad 0)), (1, .ref (ad 1)), (2, .ref (ad 4)), (3, .int a3), (4, .int a4)] := hl0
  have n52 : ∀ (σ : Mem) (H : Heap) (locs : List Loc), va_P D vwCl (wdX7_X6_X8 cI cZ cB ad σ) H → va_D A (wdX7_X6_X8 cI cZ cB ad σ) → va_S A s.heap H locs → ∀ (ls : Array Slot), lv_has ls 6 [(0, .ref (ad 0)), (3, .int a3)] → X7_takeWord_52 a3 a4 σ = some res → W p l e rmX7_takeWord s m args below meth c H locs 0 0 Q (F0 m 52 ls []) := by
    intro σ H locs hP hD hS ls hl h
    rw [X7_takeWord_52] at h
    refine lv_aload_n hx hb dX7_takeWord_52 rfl (lv_at hl 0 rfl) ?_
    refine lv_iload_n hx hb dX7_takeWord_53 rfl (lv_at hl 1 rfl) ?_
    refine lv_iconst (v := 2) hx hb dX7_takeWord_54 (by decide) ?_
    obtain ⟨r1, hr1, h⟩ := bd_e h
    obtain ⟨σ2, eσ2, h⟩ := lt_e h
    refine cl_WV (rest := []) (wn := (wdX7_X6_X8 cI cZ cB ad σ2)) (lp := [0]) (ci := 5) (q0 := 0) ⟨hx, hb, hml, hown, hts⟩ (mX7_failAt l D cI cZ cB (mp ad [0]) (mp σ [0]) H.size a3 2 r1 hr1) (cwV 2 hts gX7_takeWord_X7_failAt rfl rfl rfl (by decide +kernel) ⟨Nat.le_of_ble_eq_true rfl, Nat.le_of_ble_eq_true rfl⟩) hK hP hD hS hA rfl rfl rfl (by rw [eσ2]; rfl) rfl rfl rfl rfl rfl hl.1 rfl (Nat.le_of_ble_eq_true rfl) dX7_takeWord_55 ⟨Nat.zero_le _, Nat.zero_le _⟩ (fun H locs hP hD hS => ?_)
    refine W.eq (g2 := F0 m 58 ls []) rfl ?_
    refine lv_goto (tgt := 89) hx hb dX7_takeWord_58 (by decide) ?_
    exact hR none (wdX7_X6_X8 cI cZ cB ad σ2) _ _ _ _ rfl (by rw [← Option.some.inj h]) trivial dX7_takeWord_89 hP hS
  have n30 : ∀ (σ : Mem) (H : Heap) (locs : List Loc), va_P D vwCl (wdX7_X6_X8 cI cZ cB ad σ) H → va_D A (wdX7_X6_X8 cI cZ cB ad σ) → va_S A s.heap H locs → ∀ (ls : Array Slot), lv_has ls 6 [(0, .ref (ad 0)), (1, .ref (ad 1)), (2, .ref (ad 4)), (3, .int a3), (4, .int a4)] → X7_takeWord_30 a3 a4 σ = some res → W p l e rmX7_takeWord s m args below meth c H locs 0 0 Q (F0 m 30 ls []) := by
    intro σ H locs hP hD hS ls hl h
    rw [X7_takeWord_30] at h
    refine lv_aload_n hx hb dX7_takeWord_30 rfl (lv_at hl 2 rfl) ?_
    refine lv_iload_n hx hb dX7_takeWord_31 rfl (lv_at hl 3 rfl) ?_
    refine lv_iload hx hb dX7_takeWord_32 (lv_at hl 4 rfl) ?_
    obtain ⟨r3, hr3, h⟩ := bd_e h
    refine cl_RSx (rest := []) ⟨hx, hb, hml, hown, hts⟩ (mX7_formNamed K l D cI cZ cB (mp ad [4, 5]) (mp σ [4, 5]) a3 a4 r3 hr3) (va_cwS 3 hts gX7_takeWord_X7_formNamed rfl rfl rfl (by decide +kernel) ⟨Nat.le_of_ble_eq_true rfl, Nat.le_of_ble_eq_true rfl⟩) hX hS hK (hP.sub (ws' := wdX8 cI cZ cB (mp ad [4, 5]) (mp σ [4, 5])) [4, 5] rfl) rfl hl.1 rfl (Nat.le_of_ble_eq_true rfl) dX7_takeWord_34 ⟨Nat.zero_le _, Nat.zero_le _⟩ ?_
    refine W.eq (g2 := F0 m 37 ls [.int r3]) rfl ?_
    refine lv_istore (lv' := [(5, .int r3), (0, .ref (ad 0)), (1, .ref (ad 1)), (2, .ref (ad 4)), (3, .int a3), (4, .int a4)]) hx hb dX7_takeWord_37 hl (by decide) rfl (fun ls hl => ?_)
    refine lv_aload_n hx hb dX7_takeWord_39 rfl (lv_at hl 1 rfl) ?_
    refine va_get (ci := 5) (v := .int (σ 0 2)) (C := RX7) (T := TX7) (N := 3) hx hb hts hinX7 hown hK hP 0 rfl rfl 2 (by decide) fl1 (fun _ h9 => h9) rfl dX7_takeWord_40 ?_
    refine lv_if_ne (tgt := 52) hx hb dX7_takeWord_43 (by decide) (fun c4 => ?_) (fun c4 => ?_)
    · have h := ite_f c4 h
      exact n52 σ _ _ hP hD hS _ (lv_sub hl [1, 4] rfl) h
    · have h := ite_t c4 h
      refine lv_iload hx hb dX7_takeWord_46 (lv_at hl 0 rfl) ?_
      refine lv_iconst (v := (-1)) hx hb dX7_takeWord_48 (by decide) ?_
      refine lv_icmp_ne (tgt := 61) hx hb dX7_takeWord_49 (by decide) (fun c5 => ?_) (fun c5 => ?_)
      · have h := ite_f c5 h
        refine lv_aload_n hx hb dX7_takeWord_61 rfl (lv_at hl 2 rfl) ?_
        refine va_get (ci := 4) (v := .int (σ 1 2)) (C := RX6) (T := TX6) (N := 3) hx hb hts hinX6 hown hK hP 1 rfl rfl 2 (by decide) fl2 (fun _ h9 => h9) rfl dX7_takeWord_62 ?_
        refine lv_iconst (v := 4) hx hb dX7_takeWord_65 (by decide) ?_
        refine lv_icmp_ne (tgt := 78) hx hb dX7_takeWord_66 (by decide) (fun c6 => ?_) (fun c6 => ?_)
        · have h := ite_f c6 h
          refine lv_aload_n hx hb dX7_takeWord_78 rfl (lv_at hl 2 rfl) ?_
          refine lv_iload hx hb dX7_takeWord_79 (lv_at hl 0 rfl) ?_
          obtain ⟨r7, hr7, h⟩ := bd_e h
          obtain ⟨σ8, eσ8, h⟩ := lt_e h
          refine cl_WV (rest := []) (wn := (wdX7_X6_X8 cI cZ cB ad σ8)) (lp := [1, 2, 3]) (ci := 4) (q0 := 0) ⟨hx, hb, hml, hown, hts⟩ (mX6_append l D cI cZ cB (mp ad [1, 2, 3]) (mp σ [1, 2, 3]) H.size r3 r7 hr7) (cwV 1 hts gX7_takeWord_X6_append rfl rfl rfl (by decide +kernel) ⟨Nat.le_of_ble_eq_true rfl, Nat.le_of_ble_eq_true rfl⟩) hK hP hD hS hA rfl rfl rfl (by rw [eσ8]; rfl) rfl rfl rfl rfl rfl hl.1 rfl (Nat.le_of_ble_eq_true rfl) dX7_takeWord_81 ⟨Nat.zero_le _, Nat.zero_le _⟩ (fun H locs hP hD hS => ?_)
          refine W.eq (g2 := F0 m 84 ls []) rfl ?_
          refine lv_aload_n hx hb dX7_takeWord_84 rfl (lv_at hl 1 rfl) ?_
          refine lv_iconst (v := 1) hx hb dX7_takeWord_85 (by decide) ?_
          obtain ⟨σ9, eσ9, h⟩ := lt_e h
          refine va_put (ci := 5) (v := .int 1) (ty := .int) (C := RX7) (T := TX7) (N := 3) hx hb hts hinX7 tyX7 tyX7_ok nmX7 hown hK hP hD hS 0 rfl rfl 2 (by decide) fl1 (fun _ h9 => h9) rfl (by decide +kernel) rfl rfl (Nat.le_of_ble_eq_true rfl) dX7_takeWord_86 (fun H locs hP1 hD1 hS => ?_)
          have hP : va_P D vwCl (wdX7_X6_X8 cI cZ cB ad σ9) H := by rw [eσ9]; exact hP1
          have hD : va_D A (wdX7_X6_X8 cI cZ cB ad σ9) := D_of (by rfl) hD
          exact hR none (wdX7_X6_X8 cI cZ cB ad σ9) _ _ _ _ rfl (by rw [← Option.some.inj h]) trivial dX7_takeWord_89 hP hS
        · have h := ite_t c6 h
          refine lv_aload_n hx hb dX7_takeWord_69 rfl (lv_at hl 1 rfl) ?_
          refine lv_iload_n hx hb dX7_takeWord_70 rfl (lv_at hl 4 rfl) ?_
          refine lv_iconst (v := 3) hx hb dX7_takeWord_71 (by decide) ?_
          obtain ⟨r10, hr10, h⟩ := bd_e h
          obtain ⟨σ11, eσ11, h⟩ := lt_e h
          refine cl_WV (rest := []) (wn := (wdX7_X6_X8 cI cZ cB ad σ11)) (lp := [0]) (ci := 5) (q0 := 0) ⟨hx, hb, hml, hown, hts⟩ (mX7_failAt l D cI cZ cB (mp ad [0]) (mp σ [0]) H.size a3 3 r10 hr10) (cwV 2 hts gX7_takeWord_X7_failAt rfl rfl rfl (by decide +kernel) ⟨Nat.le_of_ble_eq_true rfl, Nat.le_of_ble_eq_true rfl⟩) hK hP hD hS hA rfl rfl rfl (by rw [eσ11]; rfl) rfl rfl rfl rfl rfl hl.1 rfl (Nat.le_of_ble_eq_true rfl) dX7_takeWord_72 ⟨Nat.zero_le _, Nat.zero_le _⟩ (fun H locs hP hD hS => ?_)
          refine W.eq (g2 := F0 m 75 ls []) rfl ?_
          refine lv_goto (tgt := 89) hx hb dX7_takeWord_75 (by decide) ?_
          exact hR none (wdX7_X6_X8 cI cZ cB ad σ11) _ _ _ _ rfl (by rw [← Option.some.inj h]) trivial dX7_takeWord_89 hP hS
      · have h := ite_t c5 h
        exact n52 σ _ _ hP hD hS _ (lv_sub hl [1, 4] rfl) h
  rw [X7_takeWord] at h
  have hS := hS
  refine lv_aload_n hx hb dX7_takeWord_0 rfl (lv_at hl 0 rfl) ?_
  refine va_get (ci := 5) (v := .int (σ 0 2)) (C := RX7) (T := TX7) (N := 3) hx hb hts hinX7 hown hK hP 0 rfl rfl 2 (by decide) fl1 (fun _ h9 => h9) rfl dX7_takeWord_1 ?_
  refine lv_iconst (v := 1) hx hb dX7_takeWord_4 (by decide) ?_
  refine lv_icmp_ne (tgt := 30) hx hb dX7_takeWord_5 (by decide) (fun c12 => ?_) (fun c12 => ?_)
  · have h := ite_f c12 h
    exact n30 σ _ _ hP hD hS _ (lv_sub hl [0, 1, 2, 3, 4] rfl) h
  · have h := ite_t c12 h
    refine lv_aload_n hx hb dX7_takeWord_8 rfl (lv_at hl 2 rfl) ?_
    refine lv_iload_n hx hb dX7_takeWord_9 rfl (lv_at hl 3 rfl) ?_
    refine lv_iload hx hb dX7_takeWord_10 (lv_at hl 4 rfl) ?_
    refine va_ldcS hx hb hown hR1 dX7_takeWord_12 ?_
    obtain ⟨r13, hr13, h⟩ := bd_e h
    refine cl_RVx (rest := []) (ci := 6) (q0 := 0) ⟨hx, hb, hml, hown, hts⟩ (mX8_isWord K l D cI cZ cB (mp ad [4, 5]) (mp σ [4, 5]) a3 a4 0 (by decide) r13 hr13) (cwV 3 hts gX7_takeWord_X8_isWord rfl rfl rfl (by decide +kernel) ⟨Nat.le_of_ble_eq_true rfl, Nat.le_of_ble_eq_true rfl⟩) hX hS hK (hP.sub (ws' := wdX8 cI cZ cB (mp ad [4, 5]) (mp σ [4, 5])) [4, 5] rfl) rfl rfl rfl rfl hl.1 rfl (Nat.le_of_ble_eq_true rfl) dX7_takeWord_14 ⟨Nat.zero_le _, Nat.zero_le _⟩ ?_
    refine W.eq (g2 := F0 m 17 ls [.int r13]) rfl ?_
    refine lv_if_eq (tgt := 30) hx hb dX7_takeWord_17 (by decide) (fun c14 => ?_) (fun c14 => ?_)
    · have h := ite_t c14 h
      exact n30 σ _ _ hP hD hS _ (lv_sub hl [0, 1, 2, 3, 4] rfl) h
    · have h := ite_f c14 h
      refine lv_aload_n hx hb dX7_takeWord_20 rfl (lv_at hl 1 rfl) ?_
      obtain ⟨r15, hr15, h⟩ := bd_e h
      obtain ⟨σ16, eσ16, h⟩ := lt_e h
      refine cl_WV (rest := []) (wn := (wdX7_X6_X8 cI cZ cB ad σ16)) (lp := [1, 2, 3]) (ci := 4) (q0 := 0) ⟨hx, hb, hml, hown, hts⟩ (mX6_makeLastThrough l D cI cZ cB (mp ad [1, 2, 3]) (mp σ [1, 2, 3]) s.heap.size r15 hr15) (cwV 0 hts gX7_takeWord_X6_makeLastThrough rfl rfl rfl (by decide +kernel) ⟨Nat.le_of_ble_eq_true rfl, Nat.le_of_ble_eq_true rfl⟩) hK hP hD hS hA rfl rfl rfl (by rw [eσ16]; rfl) rfl rfl rfl rfl rfl hl.1 rfl (Nat.le_of_ble_eq_true rfl) dX7_takeWord_21 ⟨Nat.zero_le _, Nat.zero_le _⟩ (fun H locs hP hD hS => ?_)
      refine W.eq (g2 := F0 m 24 ls []) rfl ?_
      refine lv_aload_n hx hb dX7_takeWord_24 rfl (lv_at hl 0 rfl) ?_
      refine lv_iconst (v := 2) hx hb dX7_takeWord_25 (by decide) ?_
      obtain ⟨σ17, eσ17, h⟩ := lt_e h
      refine va_put (ci := 5) (v := .int 2) (ty := .int) (C := RX7) (T := TX7) (N := 3) hx hb hts hinX7 tyX7 tyX7_ok nmX7 hown hK hP hD hS 0 rfl rfl 2 (by decide) fl1 (fun _ h9 => h9) rfl (by decide +kernel) rfl rfl (Nat.le_of_ble_eq_true rfl) dX7_takeWord_26 (fun H locs hP1 hD1 hS => ?_)
      have hP : va_P D vwCl (wdX7_X6_X8 cI cZ cB ad σ17) H := by rw [eσ17]; exact hP1
      have hD : va_D A (wdX7_X6_X8 cI cZ cB ad σ17) := D_of (by rfl) hD
      exact hR none (wdX7_X6_X8 cI cZ cB ad σ17) _ _ _ _ rfl (by rw [← Option.some.inj h]) trivial dX7_takeWord_29 hP hS
set_option maxHeartbeats 4000000 in
set_option maxRecDepth 100000 in
theorem mX7_takeWord (K : Nat → Nat) (l : Launch) (D : va_G) (cI cZ cB : ClassId) (ad : Nat → Nat) (σ : Mem) (sz : Nat) (a3 : Int32) (a4 : Int32) (res : Mem) (h : X7_takeWord a3 a4 σ = some res) : Met l yX7_takeWord wsX7_takeWord rmX7_takeWord (pWx K D cI cZ cB (wdX7_X6_X8 cI cZ cB ad σ) sz [.ref (ad 0), .ref (ad 1), .ref (ad 4), .int a3, .int a4]) (qW D none (wdX7_X6_X8 cI cZ cB ad res) (va_A (wdX7_X6_X8 cI cZ cB ad σ) sz)) 0 0 (va_A (wdX7_X6_X8 cI cZ cB ad σ) sz) := (bX7_takeWord K l D cI cZ cB ad σ a3 a4 res h).metv (by decide +kernel) rfl (Nat.le_of_ble_eq_true rfl)
def rmX7_readInto : Room := { frames := 7, cells := 0, slots := 0, locals := 156 }
set_option maxHeartbeats 4000000 in
set_option maxRecDepth 100000 in
theorem bX7_readInto (K : Nat → Nat) (l : Launch) (D : va_G) (cI cZ cB : ClassId) (ad : Nat → Nat) (σ : Mem) (res : Mem) (h : X7_readInto σ = some res) : BWx K l yX7_readInto wsX7_readInto rmX7_readInto cX7_readInto 6 none D cI cZ cB (wdX7_X6_X8 cI cZ cB ad σ) [.ref (ad 0), .ref (ad 1), .ref (ad 4)] none (wdX7_X6_X8 cI cZ cB ad res) := by
  intro p e s m args below meth c ls Q A hx hb hml hts hown hX hK hA hP hD hS hl0 hR
  have hX0 := hX
  obtain ⟨⟨hZtS, hTtS, hZtF, hTtF, hZtG, hTtG⟩, ⟨hC1, hC2, hC3⟩, hR1, hR2, hR3, hR4, hR5⟩ := hX0
  have hinX6 : ∀ w ∈ u_ws RX6 TX6 3, w ∈ wsX7_readInto := (fun _ h => List.mem_cons_of_mem _ (List.mem_append_left _ (List.mem_append_left _ (List.mem_append_right _ h))))
  have hinX7 : ∀ w ∈ u_ws RX7 TX7 3, w ∈ wsX7_readInto := (fun _ h => List.mem_cons_of_mem _ (List.mem_append_left _ (List.mem_append_right _ h)))
  have hinX8 : ∀ w ∈ u_ws RX8 TX8 2, w ∈ wsX7_readInto := (fun _ h => List.mem_cons_of_mem _ (List.mem_append_right _ h))
  have fl1 := hts (.fieldLink RX7 26 "LawNumberer$Text" "length" "I") (by decide +kernel)
  have fl2 := hts (.fieldLink RX7 15 "LawNumberer$LevelsReader" "fault" "I") (by decide +kernel)
  have fl3 := hts (.fieldLink RX7 23 "LawNumberer$LevelsReader" "due" "I") (by decide +kernel)
  have fl4 := hts (.fieldLink RX7 9 "LawNumberer$Levels" "size" "I") (by decide +kernel)
  have fl5 := hts (.fieldLink RX7 20 "LawNumberer$LevelsReader" "faultPlace" "I") (by decide +kernel)
  have hl : lv_has ls 6 [(0, .ref (ad 0)), (1, .ref (ad 1)), (2, .ref (ad 4))] := hl0
  have n142 : ∀ (σ : Mem) (H : Heap) (locs : List Loc), va_P D vwCl (wdX7_X6_X8 cI cZ cB ad σ) H → va_D A (wdX7_X6_X8 cI cZ cB ad σ) → va_S A s.heap H locs → ∀ (ls : Array Slot), lv_has ls 6 [(0, .ref (ad 0)), (2, .ref (ad 4))] → X7_readInto_142 σ = some res → W p l e rmX7_readInto s m args below meth c H locs 0 0 Q (F0 m 142 ls []) := by
    intro σ H locs hP hD hS ls hl h
    rw [X7_readInto_142] at h
    refine lv_aload_n hx hb dX7_readInto_142 rfl (lv_at hl 0 rfl) ?_
    refine lv_aload_n hx hb dX7_readInto_143 rfl (lv_at hl 1 rfl) ?_
    refine va_get (ci := 6) (v := .int (σ 4 1)) (C := RX8) (T := TX8) (N := 2) hx hb hts hinX8 hown hK hP 4 rfl rfl 1 (by decide) fl1 (fun _ h9 => h9) rfl dX7_readInto_144 ?_
    refine lv_iconst (v := 2) hx hb dX7_readInto_147 (by decide) ?_
    obtain ⟨r1, hr1, h⟩ := bd_e h
    obtain ⟨σ2, eσ2, h⟩ := lt_e h
    refine cl_WV (rest := []) (wn := (wdX7_X6_X8 cI cZ cB ad σ2)) (lp := [0]) (ci := 5) (q0 := 0) ⟨hx, hb, hml, hown, hts⟩ (mX7_failAt l D cI cZ cB (mp ad [0]) (mp σ [0]) H.size (σ 4 1) 2 r1 hr1) (cwV 2 hts gX7_readInto_X7_failAt rfl rfl rfl (by decide +kernel) ⟨Nat.le_of_ble_eq_true rfl, Nat.le_of_ble_eq_true rfl⟩) hK hP hD hS hA rfl rfl rfl (by rw [eσ2]; rfl) rfl rfl rfl rfl rfl hl.1 rfl (Nat.le_of_ble_eq_true rfl) dX7_readInto_148 ⟨Nat.zero_le _, Nat.zero_le _⟩ (fun H locs hP hD hS => ?_)
    refine W.eq (g2 := F0 m 151 ls []) rfl ?_
    exact hR none (wdX7_X6_X8 cI cZ cB ad σ2) _ _ _ _ rfl (by rw [← Option.some.inj h]) trivial dX7_readInto_151 hP hS
  have n121 : ∀ (σ : Mem) (H : Heap) (locs : List Loc), va_P D vwCl (wdX7_X6_X8 cI cZ cB ad σ) H → va_D A (wdX7_X6_X8 cI cZ cB ad σ) → va_S A s.heap H locs → ∀ (ls : Array Slot), lv_has ls 6 [(0, .ref (ad 0)), (1, .ref (ad 1)), (2, .ref (ad 4))] → X7_readInto_121 σ = some res → W p l e rmX7_readInto s m args below meth c H locs 0 0 Q (F0 m 121 ls []) := by
    intro σ H locs hP hD hS ls hl h
    rw [X7_readInto_121] at h
    refine lv_aload_n hx hb dX7_readInto_121 rfl (lv_at hl 0 rfl) ?_
    refine va_get (ci := 5) (v := .int (σ 0 0)) (C := RX7) (T := TX7) (N := 3) hx hb hts hinX7 hown hK hP 0 rfl rfl 0 (by decide) fl2 (fun _ h9 => h9) rfl dX7_readInto_122 ?_
    refine lv_if_ne (tgt := 151) hx hb dX7_readInto_125 (by decide) (fun c3 => ?_) (fun c3 => ?_)
    · have h := ite_f c3 h
      exact hR none (wdX7_X6_X8 cI cZ cB ad σ) _ _ _ _ rfl (by rw [← Option.some.inj h]) trivial dX7_readInto_151 hP hS
    · have h := ite_t c3 h
      refine lv_aload_n hx hb dX7_readInto_128 rfl (lv_at hl 0 rfl) ?_
      refine va_get (ci := 5) (v := .int (σ 0 2)) (C := RX7) (T := TX7) (N := 3) hx hb hts hinX7 hown hK hP 0 rfl rfl 2 (by decide) fl3 (fun _ h9 => h9) rfl dX7_readInto_129 ?_
      refine lv_if_ne (tgt := 142) hx hb dX7_readInto_132 (by decide) (fun c4 => ?_) (fun c4 => ?_)
      · have h := ite_f c4 h
        exact n142 σ _ _ hP hD hS _ (lv_sub hl [0, 2] rfl) h
      · have h := ite_t c4 h
        refine lv_aload_n hx hb dX7_readInto_135 rfl (lv_at hl 1 rfl) ?_
        refine va_get (ci := 4) (v := .int (σ 1 2)) (C := RX6) (T := TX6) (N := 3) hx hb hts hinX6 hown hK hP 1 rfl rfl 2 (by decide) fl4 (fun _ h9 => h9) rfl dX7_readInto_136 ?_
        refine lv_if_ne (tgt := 151) hx hb dX7_readInto_139 (by decide) (fun c5 => ?_) (fun c5 => ?_)
        · have h := ite_f c5 h
          exact hR none (wdX7_X6_X8 cI cZ cB ad σ) _ _ _ _ rfl (by rw [← Option.some.inj h]) trivial dX7_readInto_151 hP hS
        · have h := ite_t c5 h
          exact n142 σ _ _ hP hD hS _ (lv_sub hl [0, 2] rfl) h
  have n22 : ∀ (n : Nat) (x3 : Int32) (σ : Mem) (H : Heap) (locs : List Loc), va_P D vwCl (wdX7_X6_X8 cI cZ cB ad σ) H → va_D A (wdX7_X6_X8 cI cZ cB ad σ) → va_S A s.heap H locs → ∀ (ls : Array Slot), lv_has ls 6 [(0, .ref (ad 0)), (1, .ref (ad 1)), (2, .ref (ad 4)), (3, .int x3)] → X7_readInto_22 n x3 σ = some res → W p l e rmX7_readInto s m args below meth c H locs 0 0 Q (F0 m 22 ls []) := by
    intro n
    induction n with
    | zero =>
      intro x3 σ H locs hP hD hS ls hl h
      rw [X7_readInto_22] at h
      cases h
    | succ n_22 ih22 =>
      intro x3 σ H locs hP hD hS ls hl h
      rw [X7_readInto_22] at h
      refine lv_iload_n hx hb dX7_readInto_22 rfl (lv_at hl 3 rfl) ?_
      refine lv_aload_n hx hb dX7_readInto_23 rfl (lv_at hl 2 rfl) ?_
      refine va_get (ci := 6) (v := .int (σ 4 1)) (C := RX8) (T := TX8) (N := 2) hx hb hts hinX8 hown hK hP 4 rfl rfl 1 (by decide) fl1 (fun _ h9 => h9) rfl dX7_readInto_24 ?_
      refine lv_icmp_ge (tgt := 121) hx hb dX7_readInto_27 (by decide) (fun c6 => ?_) (fun c6 => ?_)
      · have h := ite_t c6 h
        exact n121 σ _ _ hP hD hS _ (lv_sub hl [0, 1, 2] rfl) h
      · have h := ite_f c6 h
        refine lv_aload_n hx hb dX7_readInto_30 rfl (lv_at hl 0 rfl) ?_
        refine va_get (ci := 5) (v := .int (σ 0 0)) (C := RX7) (T := TX7) (N := 3) hx hb hts hinX7 hown hK hP 0 rfl rfl 0 (by decide) fl2 (fun _ h9 => h9) rfl dX7_readInto_31 ?_
        refine lv_if_ne (tgt := 121) hx hb dX7_readInto_34 (by decide) (fun c7 => ?_) (fun c7 => ?_)
        · have h := ite_f c7 h
          exact n121 σ _ _ hP hD hS _ (lv_sub hl [0, 1, 2] rfl) h
        · have h := ite_t c7 h
          refine lv_aload_n hx hb dX7_readInto_37 rfl (lv_at hl 2 rfl) ?_
          refine lv_iload_n hx hb dX7_readInto_38 rfl (lv_at hl 3 rfl) ?_
          obtain ⟨r8, hr8, h⟩ := bd_e h
          refine cl_RV (rest := []) (ci := 6) (q0 := 0) ⟨hx, hb, hml, hown, hts⟩ (mX8_byteAt l D cI cZ cB (mp ad [4, 5]) (mp σ [4, 5]) x3 r8 hr8) (cwV 1 hts gX7_readInto_X8_byteAt rfl rfl rfl (by decide +kernel) ⟨Nat.le_of_ble_eq_true rfl, Nat.le_of_ble_eq_true rfl⟩) hK (hP.sub (ws' := wdX8 cI cZ cB (mp ad [4, 5]) (mp σ [4, 5])) [4, 5] rfl) rfl rfl rfl rfl hl.1 rfl (Nat.le_of_ble_eq_true rfl) dX7_readInto_39 ⟨Nat.zero_le _, Nat.zero_le _⟩ ?_
          refine W.eq (g2 := F0 m 42 ls [.int r8]) rfl ?_
          refine lv_istore (lv' := [(4, .int r8), (0, .ref (ad 0)), (1, .ref (ad 1)), (2, .ref (ad 4)), (3, .int x3)]) hx hb dX7_readInto_42 hl (by decide) rfl (fun ls hl => ?_)
          refine lv_iload hx hb dX7_readInto_44 (lv_at hl 0 rfl) ?_
          refine lv_bipush (v := 32) hx hb dX7_readInto_46 (by decide) ?_
          refine lv_icmp_eq (tgt := 58) hx hb dX7_readInto_48 (by decide) (fun c9 => ?_) (fun c9 => ?_)
          · have h := ite_t c9 h
            obtain ⟨x3_10, ex3_10, h⟩ := lt_e h
            refine lv_iinc (v := x3_10) (lv' := [(3, .int x3_10), (4, .int r8), (0, .ref (ad 0)), (1, .ref (ad 1)), (2, .ref (ad 4))]) hx hb dX7_readInto_58 hl (k := 4) rfl (by rw [ex3_10]; rfl) (by decide) rfl (fun ls hl => ?_)
            refine lv_goto (tgt := 118) hx hb dX7_readInto_61 (by decide) ?_
            refine lv_goto (tgt := 22) hx hb dX7_readInto_118 (by decide) ?_
            exact ih22 x3_10 σ _ _ hP hD hS _ (lv_sub hl [2, 3, 4, 0] rfl) h
          · have h := ite_f c9 h
            refine lv_iload hx hb dX7_readInto_51 (lv_at hl 0 rfl) ?_
            refine lv_bipush (v := 10) hx hb dX7_readInto_53 (by decide) ?_
            refine lv_icmp_ne (tgt := 64) hx hb dX7_readInto_55 (by decide) (fun c11 => ?_) (fun c11 => ?_)
            · have h := ite_f c11 h
              refine lv_iload hx hb dX7_readInto_64 (lv_at hl 0 rfl) ?_
              refine lv_bipush (v := 59) hx hb dX7_readInto_66 (by decide) ?_
              refine lv_icmp_ne (tgt := 82) hx hb dX7_readInto_68 (by decide) (fun c12 => ?_) (fun c12 => ?_)
              · have h := ite_f c12 h
                refine lv_iload hx hb dX7_readInto_82 (lv_at hl 0 rfl) ?_
                obtain ⟨r13, hr13, h⟩ := bd_e h
                refine cl_RS (rest := []) ⟨hx, hb, hml, hown, hts⟩ (mX7_isSmallLetter l D cI cZ cB r8 r13 hr13) (va_cwS 1 hts gX7_readInto_X7_isSmallLetter rfl rfl rfl (by decide +kernel) ⟨Nat.le_of_ble_eq_true rfl, Nat.le_of_ble_eq_true rfl⟩) hK wd0_P rfl hl.1 rfl (Nat.le_of_ble_eq_true rfl) dX7_readInto_84 ⟨Nat.zero_le _, Nat.zero_le _⟩ ?_
                refine W.eq (g2 := F0 m 87 ls [.int r13]) rfl ?_
                refine lv_if_eq (tgt := 112) hx hb dX7_readInto_87 (by decide) (fun c14 => ?_) (fun c14 => ?_)
                · have h := ite_t c14 h
                  refine lv_aload_n hx hb dX7_readInto_112 rfl (lv_at hl 1 rfl) ?_
                  refine lv_iload_n hx hb dX7_readInto_113 rfl (lv_at hl 4 rfl) ?_
                  refine lv_iconst (v := 1) hx hb dX7_readInto_114 (by decide) ?_
                  obtain ⟨r15, hr15, h⟩ := bd_e h
                  obtain ⟨σ16, eσ16, h⟩ := lt_e h
                  refine cl_WV (rest := []) (wn := (wdX7_X6_X8 cI cZ cB ad σ16)) (lp := [0]) (ci := 5) (q0 := 0) ⟨hx, hb, hml, hown, hts⟩ (mX7_failAt l D cI cZ cB (mp ad [0]) (mp σ [0]) H.size x3 1 r15 hr15) (cwV 2 hts gX7_readInto_X7_failAt rfl rfl rfl (by decide +kernel) ⟨Nat.le_of_ble_eq_true rfl, Nat.le_of_ble_eq_true rfl⟩) hK hP hD hS hA rfl rfl rfl (by rw [eσ16]; rfl) rfl rfl rfl rfl rfl hl.1 rfl (Nat.le_of_ble_eq_true rfl) dX7_readInto_115 ⟨Nat.zero_le _, Nat.zero_le _⟩ (fun H locs hP hD hS => ?_)
                  refine W.eq (g2 := F0 m 118 ls []) rfl ?_
                  refine lv_goto (tgt := 22) hx hb dX7_readInto_118 (by decide) ?_
                  exact ih22 x3 σ16 _ _ hP hD hS _ (lv_sub hl [1, 2, 3, 4] rfl) h
                · have h := ite_f c14 h
                  refine lv_aload_n hx hb dX7_readInto_90 rfl (lv_at hl 3 rfl) ?_
                  refine lv_iload_n hx hb dX7_readInto_91 rfl (lv_at hl 4 rfl) ?_
                  obtain ⟨r17, hr17, h⟩ := bd_e h
                  refine cl_RS (rest := []) ⟨hx, hb, hml, hown, hts⟩ (mX7_wordEnd l D cI cZ cB (mp ad [4, 5]) (mp σ [4, 5]) x3 r17 hr17) (va_cwS 2 hts gX7_readInto_X7_wordEnd rfl rfl rfl (by decide +kernel) ⟨Nat.le_of_ble_eq_true rfl, Nat.le_of_ble_eq_true rfl⟩) hK (hP.sub (ws' := wdX8 cI cZ cB (mp ad [4, 5]) (mp σ [4, 5])) [4, 5] rfl) rfl hl.1 rfl (Nat.le_of_ble_eq_true rfl) dX7_readInto_92 ⟨Nat.zero_le _, Nat.zero_le _⟩ ?_
                  refine W.eq (g2 := F0 m 95 ls [.int r17]) rfl ?_
                  refine lv_istore (lv' := [(5, .int r17), (4, .int r8), (0, .ref (ad 0)), (1, .ref (ad 1)), (2, .ref (ad 4)), (3, .int x3)]) hx hb dX7_readInto_95 hl (by decide) rfl (fun ls hl => ?_)
                  refine lv_aload_n hx hb dX7_readInto_97 rfl (lv_at hl 2 rfl) ?_
                  refine lv_aload_n hx hb dX7_readInto_98 rfl (lv_at hl 3 rfl) ?_
                  refine lv_aload_n hx hb dX7_readInto_99 rfl (lv_at hl 4 rfl) ?_
                  refine lv_iload_n hx hb dX7_readInto_100 rfl (lv_at hl 5 rfl) ?_
                  refine lv_iload hx hb dX7_readInto_101 (lv_at hl 0 rfl) ?_
                  obtain ⟨r18, hr18, h⟩ := bd_e h
                  obtain ⟨σ19, eσ19, h⟩ := lt_e h
                  refine cl_WVsx (rest := []) (wn := (wdX7_X6_X8 cI cZ cB ad σ19)) (ci := 5) (q0 := 0) ⟨hx, hb, hml, hown, hts⟩ (mX7_takeWord K l D cI cZ cB ad σ H.size x3 r17 r18 hr18) (cwV 4 hts gX7_readInto_X7_takeWord rfl rfl rfl (by decide +kernel) ⟨Nat.le_of_ble_eq_true rfl, Nat.le_of_ble_eq_true rfl⟩) hX hK hP hD hS hA (by rw [eσ19]) rfl rfl rfl rfl rfl hl.1 rfl (Nat.le_of_ble_eq_true rfl) dX7_readInto_103 ⟨Nat.zero_le _, Nat.zero_le _⟩ (fun H locs hP hD hS => ?_)
                  refine W.eq (g2 := F0 m 106 ls []) rfl ?_
                  refine lv_iload hx hb dX7_readInto_106 (lv_at hl 0 rfl) ?_
                  refine lv_istore_n (lv' := [(3, .int r17), (5, .int r17), (4, .int r8), (0, .ref (ad 0)), (1, .ref (ad 1)), (2, .ref (ad 4))]) hx hb dX7_readInto_108 rfl hl (by decide) rfl (fun ls hl => ?_)
                  refine lv_goto (tgt := 118) hx hb dX7_readInto_109 (by decide) ?_
                  refine lv_goto (tgt := 22) hx hb dX7_readInto_118 (by decide) ?_
                  exact ih22 r17 σ19 _ _ hP hD hS _ (lv_sub hl [3, 4, 5, 0] rfl) h
              · have h := ite_t c12 h
                refine lv_aload_n hx hb dX7_readInto_71 rfl (lv_at hl 1 rfl) ?_
                refine lv_iload_n hx hb dX7_readInto_72 rfl (lv_at hl 4 rfl) ?_
                obtain ⟨r20, hr20, h⟩ := bd_e h
                obtain ⟨σ21, eσ21, h⟩ := lt_e h
                refine cl_WV (rest := []) (wn := (wdX7_X6_X8 cI cZ cB ad σ21)) (lp := [0]) (ci := 5) (q0 := 0) ⟨hx, hb, hml, hown, hts⟩ (mX7_takeSemicolon l D cI cZ cB (mp ad [0]) (mp σ [0]) H.size x3 r20 hr20) (cwV 1 hts gX7_readInto_X7_takeSemicolon rfl rfl rfl (by decide +kernel) ⟨Nat.le_of_ble_eq_true rfl, Nat.le_of_ble_eq_true rfl⟩) hK hP hD hS hA rfl rfl rfl (by rw [eσ21]; rfl) rfl rfl rfl rfl rfl hl.1 rfl (Nat.le_of_ble_eq_true rfl) dX7_readInto_73 ⟨Nat.zero_le _, Nat.zero_le _⟩ (fun H locs hP hD hS => ?_)
                refine W.eq (g2 := F0 m 76 ls []) rfl ?_
                obtain ⟨x3_22, ex3_22, h⟩ := lt_e h
                refine lv_iinc (v := x3_22) (lv' := [(3, .int x3_22), (4, .int r8), (0, .ref (ad 0)), (1, .ref (ad 1)), (2, .ref (ad 4))]) hx hb dX7_readInto_76 hl (k := 4) rfl (by rw [ex3_22]; rfl) (by decide) rfl (fun ls hl => ?_)
                refine lv_goto (tgt := 118) hx hb dX7_readInto_79 (by decide) ?_
                refine lv_goto (tgt := 22) hx hb dX7_readInto_118 (by decide) ?_
                exact ih22 x3_22 σ21 _ _ hP hD hS _ (lv_sub hl [2, 3, 4, 0] rfl) h
            · have h := ite_t c11 h
              obtain ⟨x3_23, ex3_23, h⟩ := lt_e h
              refine lv_iinc (v := x3_23) (lv' := [(3, .int x3_23), (4, .int r8), (0, .ref (ad 0)), (1, .ref (ad 1)), (2, .ref (ad 4))]) hx hb dX7_readInto_58 hl (k := 4) rfl (by rw [ex3_23]; rfl) (by decide) rfl (fun ls hl => ?_)
              refine lv_goto (tgt := 118) hx hb dX7_readInto_61 (by decide) ?_
              refine lv_goto (tgt := 22) hx hb dX7_readInto_118 (by decide) ?_
              exact ih22 x3_23 σ _ _ hP hD hS _ (lv_sub hl [2, 3, 4, 0] rfl) h
  rw [X7_readInto] at h
  have hS := hS
  refine lv_aload_n hx hb dX7_readInto_0 rfl (lv_at hl 1 rfl) ?_
  refine lv_iconst (v := 0) hx hb dX7_readInto_1 (by decide) ?_
  obtain ⟨σ24, eσ24, h⟩ := lt_e h
  refine va_put (ci := 4) (v := .int 0) (ty := .int) (C := RX6) (T := TX6) (N := 3) hx hb hts hinX6 tyX6 tyX6_ok nmX6 hown hK hP hD hS 1 rfl rfl 2 (by decide) fl4 (fun _ h9 => h9) rfl (by decide +kernel) rfl rfl (Nat.le_of_ble_eq_true rfl) dX7_readInto_2 (fun H locs hP1 hD1 hS => ?_)
  have hP : va_P D vwCl (wdX7_X6_X8 cI cZ cB ad σ24) H := by rw [eσ24]; exact hP1
  have hD : va_D A (wdX7_X6_X8 cI cZ cB ad σ24) := D_of (by rfl) hD
  refine lv_aload_n hx hb dX7_readInto_5 rfl (lv_at hl 0 rfl) ?_
  refine lv_iconst (v := 0) hx hb dX7_readInto_6 (by decide) ?_
  obtain ⟨σ25, eσ25, h⟩ := lt_e h
  refine va_put (ci := 5) (v := .int 0) (ty := .int) (C := RX7) (T := TX7) (N := 3) hx hb hts hinX7 tyX7 tyX7_ok nmX7 hown hK hP hD hS 0 rfl rfl 0 (by decide) fl2 (fun _ h9 => h9) rfl (by decide +kernel) rfl rfl (Nat.le_of_ble_eq_true rfl) dX7_readInto_7 (fun H locs hP1 hD1 hS => ?_)
  have hP : va_P D vwCl (wdX7_X6_X8 cI cZ cB ad σ25) H := by rw [eσ25]; exact hP1
  have hD : va_D A (wdX7_X6_X8 cI cZ cB ad σ25) := D_of (by rfl) hD
  refine lv_aload_n hx hb dX7_readInto_10 rfl (lv_at hl 0 rfl) ?_
  refine lv_iconst (v := (-1)) hx hb dX7_readInto_11 (by decide) ?_
  obtain ⟨σ26, eσ26, h⟩ := lt_e h
  refine va_put (ci := 5) (v := .int (-1)) (ty := .int) (C := RX7) (T := TX7) (N := 3) hx hb hts hinX7 tyX7 tyX7_ok nmX7 hown hK hP hD hS 0 rfl rfl 1 (by decide) fl5 (fun _ h9 => h9) rfl (by decide +kernel) rfl rfl (Nat.le_of_ble_eq_true rfl) dX7_readInto_12 (fun H locs hP1 hD1 hS => ?_)
  have hP : va_P D vwCl (wdX7_X6_X8 cI cZ cB ad σ26) H := by rw [eσ26]; exact hP1
  have hD : va_D A (wdX7_X6_X8 cI cZ cB ad σ26) := D_of (by rfl) hD
  refine lv_aload_n hx hb dX7_readInto_15 rfl (lv_at hl 0 rfl) ?_
  refine lv_iconst (v := 0) hx hb dX7_readInto_16 (by decide) ?_
  obtain ⟨σ27, eσ27, h⟩ := lt_e h
  refine va_put (ci := 5) (v := .int 0) (ty := .int) (C := RX7) (T := TX7) (N := 3) hx hb hts hinX7 tyX7 tyX7_ok nmX7 hown hK hP hD hS 0 rfl rfl 2 (by decide) fl3 (fun _ h9 => h9) rfl (by decide +kernel) rfl rfl (Nat.le_of_ble_eq_true rfl) dX7_readInto_17 (fun H locs hP1 hD1 hS => ?_)
  have hP : va_P D vwCl (wdX7_X6_X8 cI cZ cB ad σ27) H := by rw [eσ27]; exact hP1
  have hD : va_D A (wdX7_X6_X8 cI cZ cB ad σ27) := D_of (by rfl) hD
  refine lv_iconst (v := 0) hx hb dX7_readInto_20 (by decide) ?_
  refine lv_istore_n (lv' := [(3, .int 0), (0, .ref (ad 0)), (1, .ref (ad 1)), (2, .ref (ad 4))]) hx hb dX7_readInto_21 rfl hl (by decide) rfl (fun ls hl => ?_)
  exact n22 FU 0 σ27 _ _ hP hD hS _ (lv_sub hl [1, 2, 3, 0] rfl) h
set_option maxHeartbeats 4000000 in
set_option maxRecDepth 100000 in
theorem mX7_readInto (K : Nat → Nat) (l : Launch) (D : va_G) (cI cZ cB : ClassId) (ad : Nat → Nat) (σ : Mem) (sz : Nat) (res : Mem) (h : X7_readInto σ = some res) : Met l yX7_readInto wsX7_readInto rmX7_readInto (pWx K D cI cZ cB (wdX7_X6_X8 cI cZ cB ad σ) sz [.ref (ad 0), .ref (ad 1), .ref (ad 4)]) (qW D none (wdX7_X6_X8 cI cZ cB ad res) (va_A (wdX7_X6_X8 cI cZ cB ad σ) sz)) 0 0 (va_A (wdX7_X6_X8 cI cZ cB ad σ) sz) := (bX7_readInto K l D cI cZ cB ad σ res h).metv (by decide +kernel) rfl (Nat.le_of_ble_eq_true rfl)
def rmX6_become : Room := { frames := 0, cells := 0, slots := 0, locals := 0 }
set_option maxHeartbeats 4000000 in
set_option maxRecDepth 100000 in
theorem bX6_become (l : Launch) (D : va_G) (cI cZ cB : ClassId) (ad : Nat → Nat) (σ : Mem) (res : Mem) (h : X6_become σ = some res) : BW l yX6_become wsX6_become rmX6_become cX6_become 3 none D cI cZ cB (wdX6_X6 cI cZ cB ad σ) [.ref (ad 0), .ref (ad 3)] none (wdX6_X6 cI cZ cB ad res) := by
  intro p e s m args below meth c ls Q A hx hb hml hts hown hK hA hP hD hS hl0 hR
  have hinX6 : ∀ w ∈ u_ws RX6 TX6 3, w ∈ wsX6_become := (fun _ h => List.mem_cons_of_mem _ (List.mem_append_right _ h))
  have fl1 := hts (.fieldLink RX6 19 "LawNumberer$Levels" "size" "I") (by decide +kernel)
  have fl2 := hts (.fieldLink RX6 9 "LawNumberer$Levels" "forms" "[I") (by decide +kernel)
  have fl3 := hts (.fieldLink RX6 15 "LawNumberer$Levels" "through" "[Z") (by decide +kernel)
  have hl : lv_has ls 3 [(0, .ref (ad 0)), (1, .ref (ad 3))] := hl0
  have n2 : ∀ (n : Nat) (x2 : Int32) (σ : Mem) (H : Heap) (locs : List Loc), va_P D vwCl (wdX6_X6 cI cZ cB ad σ) H → va_D A (wdX6_X6 cI cZ cB ad σ) → va_S A s.heap H locs → ∀ (ls : Array Slot), lv_has ls 3 [(0, .ref (ad 0)), (1, .ref (ad 3)), (2, .int x2)] → X6_become_2 n x2 σ = some res → W p l e rmX6_become s m args below meth c H locs 0 0 Q (F0 m 2 ls []) := by
    intro n
    induction n with
    | zero =>
      intro x2 σ H locs hP hD hS ls hl h
      rw [X6_become_2] at h
      cases h
    | succ n_2 ih2 =>
      intro x2 σ H locs hP hD hS ls hl h
      rw [X6_become_2] at h
      refine lv_iload_n hx hb dX6_become_2 rfl (lv_at hl 2 rfl) ?_
      refine lv_iconst (v := 4) hx hb dX6_become_3 (by decide) ?_
      refine lv_icmp_ge (tgt := 37) hx hb dX6_become_4 (by decide) (fun c1 => ?_) (fun c1 => ?_)
      · have h := ite_t c1 h
        refine lv_aload_n hx hb dX6_become_37 rfl (lv_at hl 0 rfl) ?_
        refine lv_aload_n hx hb dX6_become_38 rfl (lv_at hl 1 rfl) ?_
        refine va_get (ci := 4) (v := .int (σ 3 2)) (C := RX6) (T := TX6) (N := 3) hx hb hts hinX6 hown hK hP 3 rfl rfl 2 (by decide) fl1 (fun _ h9 => h9) rfl dX6_become_39 ?_
        obtain ⟨σ2, eσ2, h⟩ := lt_e h
        refine va_put (ci := 4) (v := .int (σ 3 2)) (ty := .int) (C := RX6) (T := TX6) (N := 3) hx hb hts hinX6 tyX6 tyX6_ok nmX6 hown hK hP hD hS 0 rfl rfl 2 (by decide) fl1 (fun _ h9 => h9) rfl (by decide +kernel) rfl rfl (Nat.le_of_ble_eq_true rfl) dX6_become_42 (fun H locs hP1 hD1 hS => ?_)
        have hP : va_P D vwCl (wdX6_X6 cI cZ cB ad σ2) H := by rw [eσ2]; exact hP1
        have hD : va_D A (wdX6_X6 cI cZ cB ad σ2) := D_of (by rfl) hD
        exact hR none (wdX6_X6 cI cZ cB ad σ2) _ _ _ _ rfl (by rw [← Option.some.inj h]) trivial dX6_become_45 hP hS
      · have h := ite_f c1 h
        refine lv_aload_n hx hb dX6_become_7 rfl (lv_at hl 0 rfl) ?_
        refine va_get (ci := 4) (v := .ref (ad 1)) (C := RX6) (T := TX6) (N := 3) hx hb hts hinX6 hown hK hP 0 rfl rfl 0 (by decide) fl2 (fun _ h9 => h9) rfl dX6_become_8 ?_
        refine lv_iload_n hx hb dX6_become_11 rfl (lv_at hl 2 rfl) ?_
        refine lv_aload_n hx hb dX6_become_12 rfl (lv_at hl 1 rfl) ?_
        refine va_get (ci := 4) (v := .ref (ad 4)) (C := RX6) (T := TX6) (N := 3) hx hb hts hinX6 hown hK hP 3 rfl rfl 0 (by decide) fl2 (fun _ h9 => h9) rfl dX6_become_13 ?_
        refine lv_iload_n hx hb dX6_become_16 rfl (lv_at hl 2 rfl) ?_
        obtain ⟨hin3, h⟩ := gd_e h
        refine va_iald hx hb hK hP 4 0 rfl rfl hin3 dX6_become_17 ?_
        obtain ⟨hin4, h⟩ := gd_e h
        obtain ⟨σ5, eσ5, h⟩ := lt_e h
        refine va_iast hx hb hK hP hD hS 1 0 rfl rfl hin4 dX6_become_18 (fun H locs hP1 hD1 hS => ?_)
        have hP : va_P D vwCl (wdX6_X6 cI cZ cB ad σ5) H := by rw [eσ5]; exact hP1
        have hD : va_D A (wdX6_X6 cI cZ cB ad σ5) := D_of (by rfl) hD
        refine lv_aload_n hx hb dX6_become_19 rfl (lv_at hl 0 rfl) ?_
        refine va_get (ci := 4) (v := .ref (ad 2)) (C := RX6) (T := TX6) (N := 3) hx hb hts hinX6 hown hK hP 0 rfl rfl 1 (by decide) fl3 (fun _ h9 => h9) rfl dX6_become_20 ?_
        refine lv_iload_n hx hb dX6_become_23 rfl (lv_at hl 2 rfl) ?_
        refine lv_aload_n hx hb dX6_become_24 rfl (lv_at hl 1 rfl) ?_
        refine va_get (ci := 4) (v := .ref (ad 5)) (C := RX6) (T := TX6) (N := 3) hx hb hts hinX6 hown hK hP 3 rfl rfl 1 (by decide) fl3 (fun _ h9 => h9) rfl dX6_become_25 ?_
        refine lv_iload_n hx hb dX6_become_28 rfl (lv_at hl 2 rfl) ?_
        obtain ⟨hin6, h⟩ := gd_e h
        refine va_zald hx hb hK hP 5 1 rfl rfl hin6 dX6_become_29 ?_
        obtain ⟨hin7, h⟩ := gd_e h
        obtain ⟨σ8, eσ8, h⟩ := lt_e h
        refine va_zast hx hb hK hP hD hS 2 1 rfl rfl hin7 dX6_become_30 (fun H locs hP1 hD1 hS => ?_)
        have hP : va_P D vwCl (wdX6_X6 cI cZ cB ad σ8) H := by rw [eσ8]; exact hP1
        have hD : va_D A (wdX6_X6 cI cZ cB ad σ8) := D_of (by rfl) hD
        obtain ⟨x2_9, ex2_9, h⟩ := lt_e h
        refine lv_iinc (v := x2_9) (lv' := [(2, .int x2_9), (0, .ref (ad 0)), (1, .ref (ad 3))]) hx hb dX6_become_31 hl (k := 2) rfl (by rw [ex2_9]; rfl) (by decide) rfl (fun ls hl => ?_)
        refine lv_goto (tgt := 2) hx hb dX6_become_34 (by decide) ?_
        exact ih2 x2_9 σ8 _ _ hP hD hS _ (lv_sub hl [1, 2, 0] rfl) h
  rw [X6_become] at h
  have hS := hS
  refine lv_iconst (v := 0) hx hb dX6_become_0 (by decide) ?_
  refine lv_istore_n (lv' := [(2, .int 0), (0, .ref (ad 0)), (1, .ref (ad 3))]) hx hb dX6_become_1 rfl hl (by decide) rfl (fun ls hl => ?_)
  exact n2 FU 0 σ _ _ hP hD hS _ (lv_sub hl [1, 2, 0] rfl) h
set_option maxHeartbeats 4000000 in
set_option maxRecDepth 100000 in
theorem mX6_become (l : Launch) (D : va_G) (cI cZ cB : ClassId) (ad : Nat → Nat) (σ : Mem) (sz : Nat) (res : Mem) (h : X6_become σ = some res) : Met l yX6_become wsX6_become rmX6_become (pW D cI cZ cB (wdX6_X6 cI cZ cB ad σ) sz [.ref (ad 0), .ref (ad 3)]) (qW D none (wdX6_X6 cI cZ cB ad res) (va_A (wdX6_X6 cI cZ cB ad σ) sz)) 0 0 (va_A (wdX6_X6 cI cZ cB ad σ) sz) := (bX6_become l D cI cZ cB ad σ res h).metv (by decide +kernel) rfl (Nat.le_of_ble_eq_true rfl)
def rmX3_clear : Room := { frames := 0, cells := 0, slots := 0, locals := 0 }
set_option maxHeartbeats 4000000 in
set_option maxRecDepth 100000 in
theorem bX3_clear (l : Launch) (D : va_G) (cI cZ cB : ClassId) (ad : Nat → Nat) (σ : Mem) (res : Mem) (h : X3_clear σ = some res) : BW l yX3_clear wsX3_clear rmX3_clear cX3_clear 1 none D cI cZ cB (wdX3 cI cZ cB ad σ) [.ref (ad 0)] none (wdX3 cI cZ cB ad res) := by
  intro p e s m args below meth c ls Q A hx hb hml hts hown hK hA hP hD hS hl0 hR
  have hinX3 : ∀ w ∈ u_ws RX3 TX3 7, w ∈ wsX3_clear := (fun _ h => List.mem_cons_of_mem _ (List.mem_append_right _ h))
  have fl1 := hts (.fieldLink RX3 28 "LawNumberer$Items" "size" "I") (by decide +kernel)
  have fl2 := hts (.fieldLink RX3 32 "LawNumberer$Items" "struckSize" "I") (by decide +kernel)
  have hl : lv_has ls 1 [(0, .ref (ad 0))] := hl0
  rw [X3_clear] at h
  have hS := hS
  refine lv_aload_n hx hb dX3_clear_0 rfl (lv_at hl 0 rfl) ?_
  refine lv_iconst (v := 0) hx hb dX3_clear_1 (by decide) ?_
  obtain ⟨σ1, eσ1, h⟩ := lt_e h
  refine va_put (ci := 2) (v := .int 0) (ty := .int) (C := RX3) (T := TX3) (N := 7) hx hb hts hinX3 tyX3 tyX3_ok nmX3 hown hK hP hD hS 0 rfl rfl 5 (by decide) fl1 (fun _ h9 => h9) rfl (by decide +kernel) rfl rfl (Nat.le_of_ble_eq_true rfl) dX3_clear_2 (fun H locs hP1 hD1 hS => ?_)
  have hP : va_P D vwCl (wdX3 cI cZ cB ad σ1) H := by rw [eσ1]; exact hP1
  have hD : va_D A (wdX3 cI cZ cB ad σ1) := D_of (by rfl) hD
  refine lv_aload_n hx hb dX3_clear_5 rfl (lv_at hl 0 rfl) ?_
  refine lv_iconst (v := 0) hx hb dX3_clear_6 (by decide) ?_
  obtain ⟨σ2, eσ2, h⟩ := lt_e h
  refine va_put (ci := 2) (v := .int 0) (ty := .int) (C := RX3) (T := TX3) (N := 7) hx hb hts hinX3 tyX3 tyX3_ok nmX3 hown hK hP hD hS 0 rfl rfl 6 (by decide) fl2 (fun _ h9 => h9) rfl (by decide +kernel) rfl rfl (Nat.le_of_ble_eq_true rfl) dX3_clear_7 (fun H locs hP1 hD1 hS => ?_)
  have hP : va_P D vwCl (wdX3 cI cZ cB ad σ2) H := by rw [eσ2]; exact hP1
  have hD : va_D A (wdX3 cI cZ cB ad σ2) := D_of (by rfl) hD
  exact hR none (wdX3 cI cZ cB ad σ2) _ _ _ _ rfl (by rw [← Option.some.inj h]) trivial dX3_clear_10 hP hS
set_option maxHeartbeats 4000000 in
set_option maxRecDepth 100000 in
theorem mX3_clear (l : Launch) (D : va_G) (cI cZ cB : ClassId) (ad : Nat → Nat) (σ : Mem) (sz : Nat) (res : Mem) (h : X3_clear σ = some res) : Met l yX3_clear wsX3_clear rmX3_clear (pW D cI cZ cB (wdX3 cI cZ cB ad σ) sz [.ref (ad 0)]) (qW D none (wdX3 cI cZ cB ad res) (va_A (wdX3 cI cZ cB ad σ) sz)) 0 0 (va_A (wdX3 cI cZ cB ad σ) sz) := (bX3_clear l D cI cZ cB ad σ res h).metv (by decide +kernel) rfl (Nat.le_of_ble_eq_true rfl)
def rmX2_clear : Room := { frames := 1, cells := 0, slots := 0, locals := 23 }
set_option maxHeartbeats 4000000 in
set_option maxRecDepth 100000 in
theorem bX2_clear (l : Launch) (D : va_G) (cI cZ cB : ClassId) (ad : Nat → Nat) (σ : Mem) (res : Mem) (h : X2_clear σ = some res) : BW l yX2_clear wsX2_clear rmX2_clear cX2_clear 1 none D cI cZ cB (wdX2 cI cZ cB ad σ) [.ref (ad 0)] none (wdX2 cI cZ cB ad res) := by
  intro p e s m args below meth c ls Q A hx hb hml hts hown hK hA hP hD hS hl0 hR
  have hinX2 : ∀ w ∈ u_ws RX2 TX2 6, w ∈ wsX2_clear := (fun _ h => List.mem_cons_of_mem _ (List.mem_append_right _ h))
  have fl1 := hts (.fieldLink RX2 24 "LawNumberer$History" "last" "[I") (by decide +kernel)
  have fl2 := hts (.fieldLink RX2 33 "LawNumberer$History" "size" "I") (by decide +kernel)
  have hl : lv_has ls 1 [(0, .ref (ad 0))] := hl0
  rw [X2_clear] at h
  have hS := hS
  refine lv_aload_n hx hb dX2_clear_0 rfl (lv_at hl 0 rfl) ?_
  refine va_get (ci := 1) (v := .ref (ad 5)) (C := RX2) (T := TX2) (N := 6) hx hb hts hinX2 hown hK hP 0 rfl rfl 4 (by decide) fl1 (fun _ h9 => h9) rfl dX2_clear_1 ?_
  refine lv_iconst (v := (-1)) hx hb dX2_clear_4 (by decide) ?_
  obtain ⟨r1, hr1, h⟩ := bd_e h
  obtain ⟨σ2, eσ2, h⟩ := lt_e h
  refine cl_WS (rest := []) (wn := (wdX2 cI cZ cB ad σ2)) (lp := [5]) ⟨hx, hb, hml, hown, hts⟩ (mJ7_fill_53178 l D cI cZ cB (mp ad [5]) (mp σ [5]) s.heap.size (-1) r1 hr1) (va_cwS 2 hts gX2_clear_J7_fill_53178 rfl rfl rfl (by decide +kernel) ⟨Nat.le_of_ble_eq_true rfl, Nat.le_of_ble_eq_true rfl⟩) hK hP hD hS hA rfl rfl rfl (by rw [eσ2]; rfl) rfl rfl hl.1 rfl (Nat.le_of_ble_eq_true rfl) dX2_clear_5 ⟨Nat.zero_le _, Nat.zero_le _⟩ (fun H locs hP hD hS => ?_)
  refine W.eq (g2 := F0 m 8 ls []) rfl ?_
  refine lv_aload_n hx hb dX2_clear_8 rfl (lv_at hl 0 rfl) ?_
  refine lv_iconst (v := 0) hx hb dX2_clear_9 (by decide) ?_
  obtain ⟨σ3, eσ3, h⟩ := lt_e h
  refine va_put (ci := 1) (v := .int 0) (ty := .int) (C := RX2) (T := TX2) (N := 6) hx hb hts hinX2 tyX2 tyX2_ok nmX2 hown hK hP hD hS 0 rfl rfl 5 (by decide) fl2 (fun _ h9 => h9) rfl (by decide +kernel) rfl rfl (Nat.le_of_ble_eq_true rfl) dX2_clear_10 (fun H locs hP1 hD1 hS => ?_)
  have hP : va_P D vwCl (wdX2 cI cZ cB ad σ3) H := by rw [eσ3]; exact hP1
  have hD : va_D A (wdX2 cI cZ cB ad σ3) := D_of (by rfl) hD
  exact hR none (wdX2 cI cZ cB ad σ3) _ _ _ _ rfl (by rw [← Option.some.inj h]) trivial dX2_clear_13 hP hS
set_option maxHeartbeats 4000000 in
set_option maxRecDepth 100000 in
theorem mX2_clear (l : Launch) (D : va_G) (cI cZ cB : ClassId) (ad : Nat → Nat) (σ : Mem) (sz : Nat) (res : Mem) (h : X2_clear σ = some res) : Met l yX2_clear wsX2_clear rmX2_clear (pW D cI cZ cB (wdX2 cI cZ cB ad σ) sz [.ref (ad 0)]) (qW D none (wdX2 cI cZ cB ad res) (va_A (wdX2 cI cZ cB ad σ) sz)) 0 0 (va_A (wdX2 cI cZ cB ad σ) sz) := (bX2_clear l D cI cZ cB ad σ res h).metv (by decide +kernel) rfl (Nat.le_of_ble_eq_true rfl)
def rmX0_clear : Room := { frames := 0, cells := 0, slots := 0, locals := 0 }
set_option maxHeartbeats 4000000 in
set_option maxRecDepth 100000 in
theorem bX0_clear (l : Launch) (D : va_G) (cI cZ cB : ClassId) (ad : Nat → Nat) (σ : Mem) (res : Mem) (h : X0_clear σ = some res) : BW l yX0_clear wsX0_clear rmX0_clear cX0_clear 1 none D cI cZ cB (wdX0 cI cZ cB ad σ) [.ref (ad 0)] none (wdX0 cI cZ cB ad res) := by
  intro p e s m args below meth c ls Q A hx hb hml hts hown hK hA hP hD hS hl0 hR
  have hinX0 : ∀ w ∈ u_ws RX0 TX0 5, w ∈ wsX0_clear := (fun _ h => List.mem_cons_of_mem _ (List.mem_append_right _ h))
  have fl1 := hts (.fieldLink RX0 21 "LawNumberer$Acts" "next" "I") (by decide +kernel)
  have fl2 := hts (.fieldLink RX0 25 "LawNumberer$Acts" "size" "I") (by decide +kernel)
  have hl : lv_has ls 1 [(0, .ref (ad 0))] := hl0
  rw [X0_clear] at h
  have hS := hS
  refine lv_aload_n hx hb dX0_clear_0 rfl (lv_at hl 0 rfl) ?_
  refine lv_iconst (v := 0) hx hb dX0_clear_1 (by decide) ?_
  obtain ⟨σ1, eσ1, h⟩ := lt_e h
  refine va_put (ci := 0) (v := .int 0) (ty := .int) (C := RX0) (T := TX0) (N := 5) hx hb hts hinX0 tyX0 tyX0_ok nmX0 hown hK hP hD hS 0 rfl rfl 3 (by decide) fl1 (fun _ h9 => h9) rfl (by decide +kernel) rfl rfl (Nat.le_of_ble_eq_true rfl) dX0_clear_2 (fun H locs hP1 hD1 hS => ?_)
  have hP : va_P D vwCl (wdX0 cI cZ cB ad σ1) H := by rw [eσ1]; exact hP1
  have hD : va_D A (wdX0 cI cZ cB ad σ1) := D_of (by rfl) hD
  refine lv_aload_n hx hb dX0_clear_5 rfl (lv_at hl 0 rfl) ?_
  refine lv_iconst (v := 0) hx hb dX0_clear_6 (by decide) ?_
  obtain ⟨σ2, eσ2, h⟩ := lt_e h
  refine va_put (ci := 0) (v := .int 0) (ty := .int) (C := RX0) (T := TX0) (N := 5) hx hb hts hinX0 tyX0 tyX0_ok nmX0 hown hK hP hD hS 0 rfl rfl 4 (by decide) fl2 (fun _ h9 => h9) rfl (by decide +kernel) rfl rfl (Nat.le_of_ble_eq_true rfl) dX0_clear_7 (fun H locs hP1 hD1 hS => ?_)
  have hP : va_P D vwCl (wdX0 cI cZ cB ad σ2) H := by rw [eσ2]; exact hP1
  have hD : va_D A (wdX0 cI cZ cB ad σ2) := D_of (by rfl) hD
  exact hR none (wdX0 cI cZ cB ad σ2) _ _ _ _ rfl (by rw [← Option.some.inj h]) trivial dX0_clear_10 hP hS
set_option maxHeartbeats 4000000 in
set_option maxRecDepth 100000 in
theorem mX0_clear (l : Launch) (D : va_G) (cI cZ cB : ClassId) (ad : Nat → Nat) (σ : Mem) (sz : Nat) (res : Mem) (h : X0_clear σ = some res) : Met l yX0_clear wsX0_clear rmX0_clear (pW D cI cZ cB (wdX0 cI cZ cB ad σ) sz [.ref (ad 0)]) (qW D none (wdX0 cI cZ cB ad res) (va_A (wdX0 cI cZ cB ad σ) sz)) 0 0 (va_A (wdX0 cI cZ cB ad σ) sz) := (bX0_clear l D cI cZ cB ad σ res h).metv (by decide +kernel) rfl (Nat.le_of_ble_eq_true rfl)
def rmX3_has : Room := { frames := 0, cells := 0, slots := 0, locals := 0 }
set_option maxHeartbeats 4000000 in
set_option maxRecDepth 100000 in
theorem bX3_has (l : Launch) (D : va_G) (cI cZ cB : ClassId) (ad : Nat → Nat) (σ : Mem) (a1 : Int32) (res : Int32) (h : X3_has a1 σ = some res) : BR l yX3_has wsX3_has rmX3_has cX3_has 2 (some .boolean) D cI cZ cB (wdX3 cI cZ cB ad σ) [.ref (ad 0), .int a1] (some (.int res)) := by
  intro p e s m args below meth c ls Q hx hb hml hts hown hK hP hl0 hR
  have hinX3 : ∀ w ∈ u_ws RX3 TX3 7, w ∈ wsX3_has := (fun _ h => List.mem_cons_of_mem _ (List.mem_append_right _ h))
  have fl1 := hts (.fieldLink RX3 28 "LawNumberer$Items" "size" "I") (by decide +kernel)
  have hl : lv_has ls 2 [(0, .ref (ad 0)), (1, .int a1)] := hl0
  rw [X3_has] at h
  refine lv_iload_n hx hb dX3_has_0 rfl (lv_at hl 1 rfl) ?_
  refine lv_if_lt (tgt := 16) hx hb dX3_has_1 (by decide) (fun c1 => ?_) (fun c1 => ?_)
  · have h := ite_t c1 h
    refine lv_iconst (v := 0) hx hb dX3_has_16 (by decide) ?_
    exact hR (some (.int 0)) _ _ (by rw [← Option.some.inj h]) nb0 dX3_has_17
  · have h := ite_f c1 h
    refine lv_iload_n hx hb dX3_has_4 rfl (lv_at hl 1 rfl) ?_
    refine lv_aload_n hx hb dX3_has_5 rfl (lv_at hl 0 rfl) ?_
    refine va_get (ci := 2) (v := .int (σ 0 5)) (C := RX3) (T := TX3) (N := 7) hx hb hts hinX3 hown hK hP 0 rfl rfl 5 (by decide) fl1 (fun _ h9 => h9) rfl dX3_has_6 ?_
    refine lv_icmp_ge (tgt := 16) hx hb dX3_has_9 (by decide) (fun c2 => ?_) (fun c2 => ?_)
    · have h := ite_t c2 h
      refine lv_iconst (v := 0) hx hb dX3_has_16 (by decide) ?_
      exact hR (some (.int 0)) _ _ (by rw [← Option.some.inj h]) nb0 dX3_has_17
    · have h := ite_f c2 h
      refine lv_iconst (v := 1) hx hb dX3_has_12 (by decide) ?_
      refine lv_goto (tgt := 17) hx hb dX3_has_13 (by decide) ?_
      exact hR (some (.int 1)) _ _ (by rw [← Option.some.inj h]) nb1 dX3_has_17
set_option maxHeartbeats 4000000 in
set_option maxRecDepth 100000 in
theorem mX3_has (l : Launch) (D : va_G) (cI cZ cB : ClassId) (ad : Nat → Nat) (σ : Mem) (a1 : Int32) (res : Int32) (h : X3_has a1 σ = some res) : Met l yX3_has wsX3_has rmX3_has (pR D cI cZ cB (wdX3 cI cZ cB ad σ) [.ref (ad 0), .int a1]) (qR (some (.int res))) 0 0 (fun _ => False) := (bX3_has l D cI cZ cB ad σ a1 res h).met (by decide +kernel) rfl (Nat.le_of_ble_eq_true rfl)
def rmX3_placeOf : Room := { frames := 0, cells := 0, slots := 0, locals := 0 }
set_option maxHeartbeats 4000000 in
set_option maxRecDepth 100000 in
theorem bX3_placeOf (l : Launch) (D : va_G) (cI cZ cB : ClassId) (ad : Nat → Nat) (σ : Mem) (a1 : Int32) (res : Int32) (h : X3_placeOf a1 σ = some res) : BR l yX3_placeOf wsX3_placeOf rmX3_placeOf cX3_placeOf 3 (some .int) D cI cZ cB (wdX3 cI cZ cB ad σ) [.ref (ad 0), .int a1] (some (.int res)) := by
  intro p e s m args below meth c ls Q hx hb hml hts hown hK hP hl0 hR
  have hinX3 : ∀ w ∈ u_ws RX3 TX3 7, w ∈ wsX3_placeOf := (fun _ h => List.mem_cons_of_mem _ (List.mem_append_right _ h))
  have fl1 := hts (.fieldLink RX3 28 "LawNumberer$Items" "size" "I") (by decide +kernel)
  have fl2 := hts (.fieldLink RX3 25 "LawNumberer$Items" "order" "[I") (by decide +kernel)
  have hl : lv_has ls 3 [(0, .ref (ad 0)), (1, .int a1)] := hl0
  have n2 : ∀ (n : Nat) (x2 : Int32) (ls : Array Slot), lv_has ls 3 [(0, .ref (ad 0)), (1, .int a1), (2, .int x2)] → X3_placeOf_2 a1 σ n x2 = some res → W p l e rmX3_placeOf s m args below meth c s.heap [] 0 0 Q (F0 m 2 ls []) := by
    intro n
    induction n with
    | zero =>
      intro x2 ls hl h
      rw [X3_placeOf_2] at h
      cases h
    | succ n_2 ih2 =>
      intro x2 ls hl h
      rw [X3_placeOf_2] at h
      refine lv_iload_n hx hb dX3_placeOf_2 rfl (lv_at hl 2 rfl) ?_
      refine lv_aload_n hx hb dX3_placeOf_3 rfl (lv_at hl 0 rfl) ?_
      refine va_get (ci := 2) (v := .int (σ 0 5)) (C := RX3) (T := TX3) (N := 7) hx hb hts hinX3 hown hK hP 0 rfl rfl 5 (by decide) fl1 (fun _ h9 => h9) rfl dX3_placeOf_4 ?_
      refine lv_icmp_ge (tgt := 28) hx hb dX3_placeOf_7 (by decide) (fun c1 => ?_) (fun c1 => ?_)
      · have h := ite_t c1 h
        refine lv_iconst (v := (-1)) hx hb dX3_placeOf_28 (by decide) ?_
        exact hR (some (.int (-1))) _ _ (by rw [← Option.some.inj h]) rfl dX3_placeOf_29
      · have h := ite_f c1 h
        refine lv_aload_n hx hb dX3_placeOf_10 rfl (lv_at hl 0 rfl) ?_
        refine va_get (ci := 2) (v := .ref (ad 5)) (C := RX3) (T := TX3) (N := 7) hx hb hts hinX3 hown hK hP 0 rfl rfl 4 (by decide) fl2 (fun _ h9 => h9) rfl dX3_placeOf_11 ?_
        refine lv_iload_n hx hb dX3_placeOf_14 rfl (lv_at hl 2 rfl) ?_
        obtain ⟨hin2, h⟩ := gd_e h
        refine va_iald hx hb hK hP 5 0 rfl rfl hin2 dX3_placeOf_15 ?_
        refine lv_iload_n hx hb dX3_placeOf_16 rfl (lv_at hl 1 rfl) ?_
        refine lv_icmp_ne (tgt := 22) hx hb dX3_placeOf_17 (by decide) (fun c3 => ?_) (fun c3 => ?_)
        · have h := ite_f c3 h
          obtain ⟨x2_4, ex2_4, h⟩ := lt_e h
          refine lv_iinc (v := x2_4) (lv' := [(2, .int x2_4), (0, .ref (ad 0)), (1, .int a1)]) hx hb dX3_placeOf_22 hl (k := 2) rfl (by rw [ex2_4]; rfl) (by decide) rfl (fun ls hl => ?_)
          refine lv_goto (tgt := 2) hx hb dX3_placeOf_25 (by decide) ?_
          exact ih2 x2_4 _ (lv_sub hl [1, 2, 0] rfl) h
        · have h := ite_t c3 h
          refine lv_iload_n hx hb dX3_placeOf_20 rfl (lv_at hl 2 rfl) ?_
          exact hR (some (.int x2)) _ _ (by rw [← Option.some.inj h]) rfl dX3_placeOf_21
  rw [X3_placeOf] at h
  refine lv_iconst (v := 0) hx hb dX3_placeOf_0 (by decide) ?_
  refine lv_istore_n (lv' := [(2, .int 0), (0, .ref (ad 0)), (1, .int a1)]) hx hb dX3_placeOf_1 rfl hl (by decide) rfl (fun ls hl => ?_)
  exact n2 FU 0 _ (lv_sub hl [1, 2, 0] rfl) h
set_option maxHeartbeats 4000000 in
set_option maxRecDepth 100000 in
theorem mX3_placeOf (l : Launch) (D : va_G) (cI cZ cB : ClassId) (ad : Nat → Nat) (σ : Mem) (a1 : Int32) (res : Int32) (h : X3_placeOf a1 σ = some res) : Met l yX3_placeOf wsX3_placeOf rmX3_placeOf (pR D cI cZ cB (wdX3 cI cZ cB ad σ) [.ref (ad 0), .int a1]) (qR (some (.int res))) 0 0 (fun _ => False) := (bX3_placeOf l D cI cZ cB ad σ a1 res h).met (by decide +kernel) rfl (Nat.le_of_ble_eq_true rfl)
def rmX3_placeBehind : Room := { frames := 1, cells := 0, slots := 0, locals := 22 }
set_option maxHeartbeats 4000000 in
set_option maxRecDepth 100000 in
theorem bX3_placeBehind (l : Launch) (D : va_G) (cI cZ cB : ClassId) (ad : Nat → Nat) (σ : Mem) (a1 : Int32) (res : Int32) (h : X3_placeBehind a1 σ = some res) : BR l yX3_placeBehind wsX3_placeBehind rmX3_placeBehind cX3_placeBehind 3 (some .int) D cI cZ cB (wdX3 cI cZ cB ad σ) [.ref (ad 0), .int a1] (some (.int res)) := by
  intro p e s m args below meth c ls Q hx hb hml hts hown hK hP hl0 hR
  have hinX3 : ∀ w ∈ u_ws RX3 TX3 7, w ∈ wsX3_placeBehind := (fun _ h => List.mem_cons_of_mem _ (List.mem_append_right _ h))
  have fl1 := hts (.fieldLink RX3 28 "LawNumberer$Items" "size" "I") (by decide +kernel)
  have fl2 := hts (.fieldLink RX3 9 "LawNumberer$Items" "levels" "[I") (by decide +kernel)
  have fl3 := hts (.fieldLink RX3 25 "LawNumberer$Items" "order" "[I") (by decide +kernel)
  have hl : lv_has ls 3 [(0, .ref (ad 0)), (1, .int a1)] := hl0
  have n8 : ∀ (n : Nat) (x2 : Int32) (ls : Array Slot), lv_has ls 3 [(0, .ref (ad 0)), (1, .int a1), (2, .int x2)] → X3_placeBehind_8 a1 σ n x2 = some res → W p l e rmX3_placeBehind s m args below meth c s.heap [] 0 0 Q (F0 m 8 ls []) := by
    intro n
    induction n with
    | zero =>
      intro x2 ls hl h
      rw [X3_placeBehind_8] at h
      cases h
    | succ n_8 ih8 =>
      intro x2 ls hl h
      rw [X3_placeBehind_8] at h
      refine lv_iload_n hx hb dX3_placeBehind_8 rfl (lv_at hl 2 rfl) ?_
      refine lv_aload_n hx hb dX3_placeBehind_9 rfl (lv_at hl 0 rfl) ?_
      refine va_get (ci := 2) (v := .int (σ 0 5)) (C := RX3) (T := TX3) (N := 7) hx hb hts hinX3 hown hK hP 0 rfl rfl 5 (by decide) fl1 (fun _ h9 => h9) rfl dX3_placeBehind_10 ?_
      refine lv_icmp_ge (tgt := 42) hx hb dX3_placeBehind_13 (by decide) (fun c1 => ?_) (fun c1 => ?_)
      · have h := ite_t c1 h
        refine lv_iload_n hx hb dX3_placeBehind_42 rfl (lv_at hl 2 rfl) ?_
        exact hR (some (.int x2)) _ _ (by rw [← Option.some.inj h]) rfl dX3_placeBehind_43
      · have h := ite_f c1 h
        refine lv_aload_n hx hb dX3_placeBehind_16 rfl (lv_at hl 0 rfl) ?_
        refine va_get (ci := 2) (v := .ref (ad 1)) (C := RX3) (T := TX3) (N := 7) hx hb hts hinX3 hown hK hP 0 rfl rfl 0 (by decide) fl2 (fun _ h9 => h9) rfl dX3_placeBehind_17 ?_
        refine lv_aload_n hx hb dX3_placeBehind_20 rfl (lv_at hl 0 rfl) ?_
        refine va_get (ci := 2) (v := .ref (ad 5)) (C := RX3) (T := TX3) (N := 7) hx hb hts hinX3 hown hK hP 0 rfl rfl 4 (by decide) fl3 (fun _ h9 => h9) rfl dX3_placeBehind_21 ?_
        refine lv_iload_n hx hb dX3_placeBehind_24 rfl (lv_at hl 2 rfl) ?_
        obtain ⟨hin2, h⟩ := gd_e h
        refine va_iald hx hb hK hP 5 0 rfl rfl hin2 dX3_placeBehind_25 ?_
        obtain ⟨hin3, h⟩ := gd_e h
        refine va_iald hx hb hK hP 1 0 rfl rfl hin3 dX3_placeBehind_26 ?_
        refine lv_aload_n hx hb dX3_placeBehind_27 rfl (lv_at hl 0 rfl) ?_
        refine va_get (ci := 2) (v := .ref (ad 1)) (C := RX3) (T := TX3) (N := 7) hx hb hts hinX3 hown hK hP 0 rfl rfl 0 (by decide) fl2 (fun _ h9 => h9) rfl dX3_placeBehind_28 ?_
        refine lv_iload_n hx hb dX3_placeBehind_31 rfl (lv_at hl 1 rfl) ?_
        obtain ⟨hin4, h⟩ := gd_e h
        refine va_iald hx hb hK hP 1 0 rfl rfl hin4 dX3_placeBehind_32 ?_
        refine lv_icmp_le (tgt := 42) hx hb dX3_placeBehind_33 (by decide) (fun c5 => ?_) (fun c5 => ?_)
        · have h := ite_t c5 h
          refine lv_iload_n hx hb dX3_placeBehind_42 rfl (lv_at hl 2 rfl) ?_
          exact hR (some (.int x2)) _ _ (by rw [← Option.some.inj h]) rfl dX3_placeBehind_43
        · have h := ite_f c5 h
          obtain ⟨x2_6, ex2_6, h⟩ := lt_e h
          refine lv_iinc (v := x2_6) (lv' := [(2, .int x2_6), (0, .ref (ad 0)), (1, .int a1)]) hx hb dX3_placeBehind_36 hl (k := 2) rfl (by rw [ex2_6]; rfl) (by decide) rfl (fun ls hl => ?_)
          refine lv_goto (tgt := 8) hx hb dX3_placeBehind_39 (by decide) ?_
          exact ih8 x2_6 _ (lv_sub hl [1, 2, 0] rfl) h
  rw [X3_placeBehind] at h
  refine lv_aload_n hx hb dX3_placeBehind_0 rfl (lv_at hl 0 rfl) ?_
  refine lv_iload_n hx hb dX3_placeBehind_1 rfl (lv_at hl 1 rfl) ?_
  obtain ⟨r7, hr7, h⟩ := bd_e h
  refine cl_RV (rest := []) (ci := 2) (q0 := 0) ⟨hx, hb, hml, hown, hts⟩ (mX3_placeOf l D cI cZ cB ad σ a1 r7 hr7) (cwV 1 hts gX3_placeBehind_X3_placeOf rfl rfl rfl (by decide +kernel) ⟨Nat.le_of_ble_eq_true rfl, Nat.le_of_ble_eq_true rfl⟩) hK hP rfl rfl rfl rfl hl.1 rfl (Nat.le_of_ble_eq_true rfl) dX3_placeBehind_2 ⟨Nat.zero_le _, Nat.zero_le _⟩ ?_
  refine W.eq (g2 := F0 m 5 ls [.int r7]) rfl ?_
  refine lv_iconst (v := 1) hx hb dX3_placeBehind_5 (by decide) ?_
  refine lv_iadd hx hb dX3_placeBehind_6 ?_
  obtain ⟨x2_8, ex2_8, h⟩ := lt_e h
  refine lv_topE ex2_8 ?_
  refine lv_istore_n (lv' := [(2, .int x2_8), (0, .ref (ad 0)), (1, .int a1)]) hx hb dX3_placeBehind_7 rfl hl (by decide) rfl (fun ls hl => ?_)
  exact n8 FU x2_8 _ (lv_sub hl [1, 2, 0] rfl) h
set_option maxHeartbeats 4000000 in
set_option maxRecDepth 100000 in
theorem mX3_placeBehind (l : Launch) (D : va_G) (cI cZ cB : ClassId) (ad : Nat → Nat) (σ : Mem) (a1 : Int32) (res : Int32) (h : X3_placeBehind a1 σ = some res) : Met l yX3_placeBehind wsX3_placeBehind rmX3_placeBehind (pR D cI cZ cB (wdX3 cI cZ cB ad σ) [.ref (ad 0), .int a1]) (qR (some (.int res))) 0 0 (fun _ => False) := (bX3_placeBehind l D cI cZ cB ad σ a1 res h).met (by decide +kernel) rfl (Nat.le_of_ble_eq_true rfl)
def rmX6_isThrough : Room := { frames := 0, cells := 0, slots := 0, locals := 0 }
set_option maxHeartbeats 4000000 in
set_option maxRecDepth 100000 in
theorem bX6_isThrough (l : Launch) (D : va_G) (cI cZ cB : ClassId) (ad : Nat → Nat) (σ : Mem) (a1 : Int32) (res : Int32) (h : X6_isThrough a1 σ = some res) : BR l yX6_isThrough wsX6_isThrough rmX6_isThrough cX6_isThrough 2 (some .boolean) D cI cZ cB (wdX6 cI cZ cB ad σ) [.ref (ad 0), .int a1] (some (.int res)) := by
  intro p e s m args below meth c ls Q hx hb hml hts hown hK hP hl0 hR
  have hinX6 : ∀ w ∈ u_ws RX6 TX6 3, w ∈ wsX6_isThrough := (fun _ h => List.mem_cons_of_mem _ (List.mem_append_right _ h))
  have fl1 := hts (.fieldLink RX6 19 "LawNumberer$Levels" "size" "I") (by decide +kernel)
  have fl2 := hts (.fieldLink RX6 15 "LawNumberer$Levels" "through" "[Z") (by decide +kernel)
  have hl : lv_has ls 2 [(0, .ref (ad 0)), (1, .int a1)] := hl0
  rw [X6_isThrough] at h
  refine lv_iload_n hx hb dX6_isThrough_0 rfl (lv_at hl 1 rfl) ?_
  refine lv_if_lt (tgt := 25) hx hb dX6_isThrough_1 (by decide) (fun c1 => ?_) (fun c1 => ?_)
  · have h := ite_t c1 h
    refine lv_iconst (v := 0) hx hb dX6_isThrough_25 (by decide) ?_
    exact hR (some (.int 0)) _ _ (by rw [← Option.some.inj h]) nb0 dX6_isThrough_26
  · have h := ite_f c1 h
    refine lv_iload_n hx hb dX6_isThrough_4 rfl (lv_at hl 1 rfl) ?_
    refine lv_aload_n hx hb dX6_isThrough_5 rfl (lv_at hl 0 rfl) ?_
    refine va_get (ci := 4) (v := .int (σ 0 2)) (C := RX6) (T := TX6) (N := 3) hx hb hts hinX6 hown hK hP 0 rfl rfl 2 (by decide) fl1 (fun _ h9 => h9) rfl dX6_isThrough_6 ?_
    refine lv_icmp_ge (tgt := 25) hx hb dX6_isThrough_9 (by decide) (fun c2 => ?_) (fun c2 => ?_)
    · have h := ite_t c2 h
      refine lv_iconst (v := 0) hx hb dX6_isThrough_25 (by decide) ?_
      exact hR (some (.int 0)) _ _ (by rw [← Option.some.inj h]) nb0 dX6_isThrough_26
    · have h := ite_f c2 h
      refine lv_aload_n hx hb dX6_isThrough_12 rfl (lv_at hl 0 rfl) ?_
      refine va_get (ci := 4) (v := .ref (ad 2)) (C := RX6) (T := TX6) (N := 3) hx hb hts hinX6 hown hK hP 0 rfl rfl 1 (by decide) fl2 (fun _ h9 => h9) rfl dX6_isThrough_13 ?_
      refine lv_iload_n hx hb dX6_isThrough_16 rfl (lv_at hl 1 rfl) ?_
      obtain ⟨hin3, h⟩ := gd_e h
      refine va_zald hx hb hK hP 2 1 rfl rfl hin3 dX6_isThrough_17 ?_
      refine lv_if_eq (tgt := 25) hx hb dX6_isThrough_18 (by decide) (fun c4 => ?_) (fun c4 => ?_)
      · have h := ite_t c4 h
        refine lv_iconst (v := 0) hx hb dX6_isThrough_25 (by decide) ?_
        exact hR (some (.int 0)) _ _ (by rw [← Option.some.inj h]) nb0 dX6_isThrough_26
      · have h := ite_f c4 h
        refine lv_iconst (v := 1) hx hb dX6_isThrough_21 (by decide) ?_
        refine lv_goto (tgt := 26) hx hb dX6_isThrough_22 (by decide) ?_
        exact hR (some (.int 1)) _ _ (by rw [← Option.some.inj h]) nb1 dX6_isThrough_26
set_option maxHeartbeats 4000000 in
set_option maxRecDepth 100000 in
theorem mX6_isThrough (l : Launch) (D : va_G) (cI cZ cB : ClassId) (ad : Nat → Nat) (σ : Mem) (a1 : Int32) (res : Int32) (h : X6_isThrough a1 σ = some res) : Met l yX6_isThrough wsX6_isThrough rmX6_isThrough (pR D cI cZ cB (wdX6 cI cZ cB ad σ) [.ref (ad 0), .int a1]) (qR (some (.int res))) 0 0 (fun _ => False) := (bX6_isThrough l D cI cZ cB ad σ a1 res h).met (by decide +kernel) rfl (Nat.le_of_ble_eq_true rfl)
def rmX3_isInRow : Room := { frames := 1, cells := 0, slots := 0, locals := 21 }
set_option maxHeartbeats 4000000 in
set_option maxRecDepth 100000 in
theorem bX3_isInRow (l : Launch) (D : va_G) (cI cZ cB : ClassId) (ad : Nat → Nat) (σ : Mem) (a1 : Int32) (a2 : Int32) (a3 : Int32) (a4 : Int32) (res : Int32) (h : X3_isInRow a1 a2 a3 a4 σ = some res) : BR l yX3_isInRow wsX3_isInRow rmX3_isInRow cX3_isInRow 5 (some .boolean) D cI cZ cB (wdX3 cI cZ cB ad σ) [.ref (ad 0), .int a1, .int a2, .int a3, .int a4] (some (.int res)) := by
  intro p e s m args below meth c ls Q hx hb hml hts hown hK hP hl0 hR
  have hinX3 : ∀ w ∈ u_ws RX3 TX3 7, w ∈ wsX3_isInRow := (fun _ h => List.mem_cons_of_mem _ (List.mem_append_right _ h))
  have fl1 := hts (.fieldLink RX3 9 "LawNumberer$Items" "levels" "[I") (by decide +kernel)
  have fl2 := hts (.fieldLink RX3 15 "LawNumberer$Items" "under" "[I") (by decide +kernel)
  have hl : lv_has ls 5 [(0, .ref (ad 0)), (1, .int a1), (2, .int a2), (3, .int a3), (4, .int a4)] := hl0
  rw [X3_isInRow] at h
  refine lv_aload_n hx hb dX3_isInRow_0 rfl (lv_at hl 0 rfl) ?_
  refine lv_iload_n hx hb dX3_isInRow_1 rfl (lv_at hl 1 rfl) ?_
  obtain ⟨r1, hr1, h⟩ := bd_e h
  refine cl_RV (rest := []) (ci := 2) (q0 := 0) ⟨hx, hb, hml, hown, hts⟩ (mX3_has l D cI cZ cB ad σ a1 r1 hr1) (cwV 1 hts gX3_isInRow_X3_has rfl rfl rfl (by decide +kernel) ⟨Nat.le_of_ble_eq_true rfl, Nat.le_of_ble_eq_true rfl⟩) hK hP rfl rfl rfl rfl hl.1 rfl (Nat.le_of_ble_eq_true rfl) dX3_isInRow_2 ⟨Nat.zero_le _, Nat.zero_le _⟩ ?_
  refine W.eq (g2 := F0 m 5 ls [.int r1]) rfl ?_
  refine lv_if_eq (tgt := 37) hx hb dX3_isInRow_5 (by decide) (fun c2 => ?_) (fun c2 => ?_)
  · have h := ite_t c2 h
    refine lv_iconst (v := 0) hx hb dX3_isInRow_37 (by decide) ?_
    exact hR (some (.int 0)) _ _ (by rw [← Option.some.inj h]) nb0 dX3_isInRow_38
  · have h := ite_f c2 h
    refine lv_aload_n hx hb dX3_isInRow_8 rfl (lv_at hl 0 rfl) ?_
    refine va_get (ci := 2) (v := .ref (ad 1)) (C := RX3) (T := TX3) (N := 7) hx hb hts hinX3 hown hK hP 0 rfl rfl 0 (by decide) fl1 (fun _ h9 => h9) rfl dX3_isInRow_9 ?_
    refine lv_iload_n hx hb dX3_isInRow_12 rfl (lv_at hl 1 rfl) ?_
    obtain ⟨hin3, h⟩ := gd_e h
    refine va_iald hx hb hK hP 1 0 rfl rfl hin3 dX3_isInRow_13 ?_
    refine lv_iload_n hx hb dX3_isInRow_14 rfl (lv_at hl 2 rfl) ?_
    refine lv_icmp_ne (tgt := 37) hx hb dX3_isInRow_15 (by decide) (fun c4 => ?_) (fun c4 => ?_)
    · have h := ite_f c4 h
      refine lv_iconst (v := 0) hx hb dX3_isInRow_37 (by decide) ?_
      exact hR (some (.int 0)) _ _ (by rw [← Option.some.inj h]) nb0 dX3_isInRow_38
    · have h := ite_t c4 h
      refine lv_iload hx hb dX3_isInRow_18 (lv_at hl 4 rfl) ?_
      refine lv_if_ne (tgt := 33) hx hb dX3_isInRow_20 (by decide) (fun c5 => ?_) (fun c5 => ?_)
      · have h := ite_f c5 h
        refine lv_iconst (v := 1) hx hb dX3_isInRow_33 (by decide) ?_
        refine lv_goto (tgt := 38) hx hb dX3_isInRow_34 (by decide) ?_
        exact hR (some (.int 1)) _ _ (by rw [← Option.some.inj h]) nb1 dX3_isInRow_38
      · have h := ite_t c5 h
        refine lv_aload_n hx hb dX3_isInRow_23 rfl (lv_at hl 0 rfl) ?_
        refine va_get (ci := 2) (v := .ref (ad 2)) (C := RX3) (T := TX3) (N := 7) hx hb hts hinX3 hown hK hP 0 rfl rfl 1 (by decide) fl2 (fun _ h9 => h9) rfl dX3_isInRow_24 ?_
        refine lv_iload_n hx hb dX3_isInRow_27 rfl (lv_at hl 1 rfl) ?_
        obtain ⟨hin6, h⟩ := gd_e h
        refine va_iald hx hb hK hP 2 0 rfl rfl hin6 dX3_isInRow_28 ?_
        refine lv_iload_n hx hb dX3_isInRow_29 rfl (lv_at hl 3 rfl) ?_
        refine lv_icmp_ne (tgt := 37) hx hb dX3_isInRow_30 (by decide) (fun c7 => ?_) (fun c7 => ?_)
        · have h := ite_f c7 h
          refine lv_iconst (v := 0) hx hb dX3_isInRow_37 (by decide) ?_
          exact hR (some (.int 0)) _ _ (by rw [← Option.some.inj h]) nb0 dX3_isInRow_38
        · have h := ite_t c7 h
          refine lv_iconst (v := 1) hx hb dX3_isInRow_33 (by decide) ?_
          refine lv_goto (tgt := 38) hx hb dX3_isInRow_34 (by decide) ?_
          exact hR (some (.int 1)) _ _ (by rw [← Option.some.inj h]) nb1 dX3_isInRow_38
set_option maxHeartbeats 4000000 in
set_option maxRecDepth 100000 in
theorem mX3_isInRow (l : Launch) (D : va_G) (cI cZ cB : ClassId) (ad : Nat → Nat) (σ : Mem) (a1 : Int32) (a2 : Int32) (a3 : Int32) (a4 : Int32) (res : Int32) (h : X3_isInRow a1 a2 a3 a4 σ = some res) : Met l yX3_isInRow wsX3_isInRow rmX3_isInRow (pR D cI cZ cB (wdX3 cI cZ cB ad σ) [.ref (ad 0), .int a1, .int a2, .int a3, .int a4]) (qR (some (.int res))) 0 0 (fun _ => False) := (bX3_isInRow l D cI cZ cB ad σ a1 a2 a3 a4 res h).met (by decide +kernel) rfl (Nat.le_of_ble_eq_true rfl)
def rmX2_latest : Room := { frames := 0, cells := 0, slots := 0, locals := 0 }
set_option maxHeartbeats 4000000 in
set_option maxRecDepth 100000 in
theorem bX2_latest (l : Launch) (D : va_G) (cI cZ cB : ClassId) (ad : Nat → Nat) (σ : Mem) (a1 : Int32) (res : Int32) (h : X2_latest a1 σ = some res) : BR l yX2_latest wsX2_latest rmX2_latest cX2_latest 2 (some .int) D cI cZ cB (wdX2 cI cZ cB ad σ) [.ref (ad 0), .int a1] (some (.int res)) := by
  intro p e s m args below meth c ls Q hx hb hml hts hown hK hP hl0 hR
  have hinX2 : ∀ w ∈ u_ws RX2 TX2 6, w ∈ wsX2_latest := (fun _ h => List.mem_cons_of_mem _ (List.mem_append_right _ h))
  have fl1 := hts (.fieldLink RX2 24 "LawNumberer$History" "last" "[I") (by decide +kernel)
  have fl2 := hts (.fieldLink RX2 18 "LawNumberer$History" "labels" "[I") (by decide +kernel)
  have hl : lv_has ls 2 [(0, .ref (ad 0)), (1, .int a1)] := hl0
  rw [X2_latest] at h
  refine lv_iload_n hx hb dX2_latest_0 rfl (lv_at hl 1 rfl) ?_
  refine lv_if_lt (tgt := 33) hx hb dX2_latest_1 (by decide) (fun c1 => ?_) (fun c1 => ?_)
  · have h := ite_t c1 h
    refine lv_iconst (v := 0) hx hb dX2_latest_33 (by decide) ?_
    exact hR (some (.int 0)) _ _ (by rw [← Option.some.inj h]) rfl dX2_latest_34
  · have h := ite_f c1 h
    refine lv_iload_n hx hb dX2_latest_4 rfl (lv_at hl 1 rfl) ?_
    refine lv_bipush (v := 80) hx hb dX2_latest_5 (by decide) ?_
    refine lv_icmp_ge (tgt := 33) hx hb dX2_latest_7 (by decide) (fun c2 => ?_) (fun c2 => ?_)
    · have h := ite_t c2 h
      refine lv_iconst (v := 0) hx hb dX2_latest_33 (by decide) ?_
      exact hR (some (.int 0)) _ _ (by rw [← Option.some.inj h]) rfl dX2_latest_34
    · have h := ite_f c2 h
      refine lv_aload_n hx hb dX2_latest_10 rfl (lv_at hl 0 rfl) ?_
      refine va_get (ci := 1) (v := .ref (ad 5)) (C := RX2) (T := TX2) (N := 6) hx hb hts hinX2 hown hK hP 0 rfl rfl 4 (by decide) fl1 (fun _ h9 => h9) rfl dX2_latest_11 ?_
      refine lv_iload_n hx hb dX2_latest_14 rfl (lv_at hl 1 rfl) ?_
      obtain ⟨hin3, h⟩ := gd_e h
      refine va_iald hx hb hK hP 5 0 rfl rfl hin3 dX2_latest_15 ?_
      refine lv_if_lt (tgt := 33) hx hb dX2_latest_16 (by decide) (fun c4 => ?_) (fun c4 => ?_)
      · have h := ite_t c4 h
        refine lv_iconst (v := 0) hx hb dX2_latest_33 (by decide) ?_
        exact hR (some (.int 0)) _ _ (by rw [← Option.some.inj h]) rfl dX2_latest_34
      · have h := ite_f c4 h
        refine lv_aload_n hx hb dX2_latest_19 rfl (lv_at hl 0 rfl) ?_
        refine va_get (ci := 1) (v := .ref (ad 3)) (C := RX2) (T := TX2) (N := 6) hx hb hts hinX2 hown hK hP 0 rfl rfl 2 (by decide) fl2 (fun _ h9 => h9) rfl dX2_latest_20 ?_
        refine lv_aload_n hx hb dX2_latest_23 rfl (lv_at hl 0 rfl) ?_
        refine va_get (ci := 1) (v := .ref (ad 5)) (C := RX2) (T := TX2) (N := 6) hx hb hts hinX2 hown hK hP 0 rfl rfl 4 (by decide) fl1 (fun _ h9 => h9) rfl dX2_latest_24 ?_
        refine lv_iload_n hx hb dX2_latest_27 rfl (lv_at hl 1 rfl) ?_
        obtain ⟨hin5, h⟩ := gd_e h
        refine va_iald hx hb hK hP 5 0 rfl rfl hin5 dX2_latest_28 ?_
        obtain ⟨hin6, h⟩ := gd_e h
        refine va_iald hx hb hK hP 3 0 rfl rfl hin6 dX2_latest_29 ?_
        refine lv_goto (tgt := 34) hx hb dX2_latest_30 (by decide) ?_
        exact hR (some (.int (σ 3 (Int32.toNatClampNeg (σ 5 (Int32.toNatClampNeg a1)))))) _ _ (by rw [← Option.some.inj h]) rfl dX2_latest_34
set_option maxHeartbeats 4000000 in
set_option maxRecDepth 100000 in
theorem mX2_latest (l : Launch) (D : va_G) (cI cZ cB : ClassId) (ad : Nat → Nat) (σ : Mem) (a1 : Int32) (res : Int32) (h : X2_latest a1 σ = some res) : Met l yX2_latest wsX2_latest rmX2_latest (pR D cI cZ cB (wdX2 cI cZ cB ad σ) [.ref (ad 0), .int a1]) (qR (some (.int res))) 0 0 (fun _ => False) := (bX2_latest l D cI cZ cB ad σ a1 res h).met (by decide +kernel) rfl (Nat.le_of_ble_eq_true rfl)
def rmX5_numberOf : Room := { frames := 0, cells := 0, slots := 0, locals := 0 }
set_option maxHeartbeats 4000000 in
set_option maxRecDepth 100000 in
theorem bX5_numberOf (l : Launch) (D : va_G) (cI cZ cB : ClassId) (a0 : Int32) (res : Int32) (h : X5_numberOf a0 = some res) : BR l yX5_numberOf wsX5_numberOf rmX5_numberOf cX5_numberOf 1 (some .int) D cI cZ cB wd0 [.int a0] (some (.int res)) := by
  intro p e s m args below meth c ls Q hx hb hml hts hown hK hP hl0 hR
  have hl : lv_has ls 1 [(0, .int a0)] := hl0
  rw [X5_numberOf] at h
  refine lv_iload_n hx hb dX5_numberOf_0 rfl (lv_at hl 0 rfl) ?_
  refine lv_bipush (v := 20) hx hb dX5_numberOf_1 (by decide) ?_
  refine lv_ishr hx hb dX5_numberOf_3 ?_
  exact hR (some (.int (a0 >>> (20 &&& 31)))) _ _ (by rw [← Option.some.inj h]) rfl dX5_numberOf_4
set_option maxHeartbeats 4000000 in
set_option maxRecDepth 100000 in
theorem mX5_numberOf (l : Launch) (D : va_G) (cI cZ cB : ClassId) (a0 : Int32) (res : Int32) (h : X5_numberOf a0 = some res) : Met l yX5_numberOf wsX5_numberOf rmX5_numberOf (pR D cI cZ cB wd0 [.int a0]) (qR (some (.int res))) 0 0 (fun _ => False) := (bX5_numberOf l D cI cZ cB a0 res h).met (by decide +kernel) rfl (Nat.le_of_ble_eq_true rfl)
def rmX5_plain : Room := { frames := 0, cells := 0, slots := 0, locals := 0 }
set_option maxHeartbeats 4000000 in
set_option maxRecDepth 100000 in
theorem bX5_plain (l : Launch) (D : va_G) (cI cZ cB : ClassId) (a0 : Int32) (res : Int32) (h : X5_plain a0 = some res) : BR l yX5_plain wsX5_plain rmX5_plain cX5_plain 1 (some .int) D cI cZ cB wd0 [.int a0] (some (.int res)) := by
  intro p e s m args below meth c ls Q hx hb hml hts hown hK hP hl0 hR
  have hl : lv_has ls 1 [(0, .int a0)] := hl0
  rw [X5_plain] at h
  refine lv_iload_n hx hb dX5_plain_0 rfl (lv_at hl 0 rfl) ?_
  refine lv_iconst (v := 1) hx hb dX5_plain_1 (by decide) ?_
  refine lv_icmp_lt (tgt := 12) hx hb dX5_plain_2 (by decide) (fun c1 => ?_) (fun c1 => ?_)
  · have h := ite_t c1 h
    refine lv_iconst (v := 0) hx hb dX5_plain_12 (by decide) ?_
    refine lv_goto (tgt := 20) hx hb dX5_plain_13 (by decide) ?_
    exact hR (some (.int 0)) _ _ (by rw [← Option.some.inj h]) rfl dX5_plain_20
  · have h := ite_f c1 h
    refine lv_iload_n hx hb dX5_plain_5 rfl (lv_at hl 0 rfl) ?_
    refine lv_sipush (v := 999) hx hb dX5_plain_6 (by decide) ?_
    refine lv_icmp_le (tgt := 16) hx hb dX5_plain_9 (by decide) (fun c2 => ?_) (fun c2 => ?_)
    · have h := ite_t c2 h
      refine lv_iload_n hx hb dX5_plain_16 rfl (lv_at hl 0 rfl) ?_
      refine lv_bipush (v := 20) hx hb dX5_plain_17 (by decide) ?_
      refine lv_ishl hx hb dX5_plain_19 ?_
      exact hR (some (.int (a0 <<< (20 &&& 31)))) _ _ (by rw [← Option.some.inj h]) rfl dX5_plain_20
    · have h := ite_f c2 h
      refine lv_iconst (v := 0) hx hb dX5_plain_12 (by decide) ?_
      refine lv_goto (tgt := 20) hx hb dX5_plain_13 (by decide) ?_
      exact hR (some (.int 0)) _ _ (by rw [← Option.some.inj h]) rfl dX5_plain_20
set_option maxHeartbeats 4000000 in
set_option maxRecDepth 100000 in
theorem mX5_plain (l : Launch) (D : va_G) (cI cZ cB : ClassId) (a0 : Int32) (res : Int32) (h : X5_plain a0 = some res) : Met l yX5_plain wsX5_plain rmX5_plain (pR D cI cZ cB wd0 [.int a0]) (qR (some (.int res))) 0 0 (fun _ => False) := (bX5_plain l D cI cZ cB a0 res h).met (by decide +kernel) rfl (Nat.le_of_ble_eq_true rfl)
def rmX5_letterOf : Room := { frames := 0, cells := 0, slots := 0, locals := 0 }
set_option maxHeartbeats 4000000 in
set_option maxRecDepth 100000 in
theorem bX5_letterOf (l : Launch) (D : va_G) (cI cZ cB : ClassId) (a0 : Int32) (a1 : Int32) (res : Int32) (h : X5_letterOf a0 a1 = some res) : BR l yX5_letterOf wsX5_letterOf rmX5_letterOf cX5_letterOf 2 (some .int) D cI cZ cB wd0 [.int a0, .int a1] (some (.int res)) := by
  intro p e s m args below meth c ls Q hx hb hml hts hown hK hP hl0 hR
  have hl : lv_has ls 2 [(0, .int a0), (1, .int a1)] := hl0
  rw [X5_letterOf] at h
  refine lv_iload_n hx hb dX5_letterOf_0 rfl (lv_at hl 0 rfl) ?_
  refine lv_bipush (v := 20) hx hb dX5_letterOf_1 (by decide) ?_
  refine lv_iconst (v := 5) hx hb dX5_letterOf_3 (by decide) ?_
  refine lv_iload_n hx hb dX5_letterOf_4 rfl (lv_at hl 1 rfl) ?_
  refine lv_iconst (v := 1) hx hb dX5_letterOf_5 (by decide) ?_
  refine lv_iadd hx hb dX5_letterOf_6 ?_
  refine lv_imul hx hb dX5_letterOf_7 ?_
  refine lv_isub hx hb dX5_letterOf_8 ?_
  refine lv_ishr hx hb dX5_letterOf_9 ?_
  refine lv_bipush (v := 31) hx hb dX5_letterOf_10 (by decide) ?_
  refine lv_iand hx hb dX5_letterOf_12 ?_
  exact hR (some (.int ((a0 >>> ((20 - (5 * (a1 + 1))) &&& 31)) &&& 31))) _ _ (by rw [← Option.some.inj h]) rfl dX5_letterOf_13
set_option maxHeartbeats 4000000 in
set_option maxRecDepth 100000 in
theorem mX5_letterOf (l : Launch) (D : va_G) (cI cZ cB : ClassId) (a0 : Int32) (a1 : Int32) (res : Int32) (h : X5_letterOf a0 a1 = some res) : Met l yX5_letterOf wsX5_letterOf rmX5_letterOf (pR D cI cZ cB wd0 [.int a0, .int a1]) (qR (some (.int res))) 0 0 (fun _ => False) := (bX5_letterOf l D cI cZ cB a0 a1 res h).met (by decide +kernel) rfl (Nat.le_of_ble_eq_true rfl)
def rmX5_lettersIn : Room := { frames := 1, cells := 0, slots := 0, locals := 21 }
set_option maxHeartbeats 4000000 in
set_option maxRecDepth 100000 in
theorem bX5_lettersIn (l : Launch) (D : va_G) (cI cZ cB : ClassId) (a0 : Int32) (res : Int32) (h : X5_lettersIn a0 = some res) : BR l yX5_lettersIn wsX5_lettersIn rmX5_lettersIn cX5_lettersIn 2 (some .int) D cI cZ cB wd0 [.int a0] (some (.int res)) := by
  intro p e s m args below meth c ls Q hx hb hml hts hown hK hP hl0 hR
  have hl : lv_has ls 2 [(0, .int a0)] := hl0
  have n2 : ∀ (n : Nat) (x1 : Int32) (ls : Array Slot), lv_has ls 2 [(0, .int a0), (1, .int x1)] → X5_lettersIn_2 a0 n x1 = some res → W p l e rmX5_lettersIn s m args below meth c s.heap [] 0 0 Q (F0 m 2 ls []) := by
    intro n
    induction n with
    | zero =>
      intro x1 ls hl h
      rw [X5_lettersIn_2] at h
      cases h
    | succ n_2 ih2 =>
      intro x1 ls hl h
      rw [X5_lettersIn_2] at h
      refine lv_iload_n hx hb dX5_lettersIn_2 rfl (lv_at hl 1 rfl) ?_
      refine lv_iconst (v := 4) hx hb dX5_lettersIn_3 (by decide) ?_
      refine lv_icmp_ge (tgt := 21) hx hb dX5_lettersIn_4 (by decide) (fun c1 => ?_) (fun c1 => ?_)
      · have h := ite_t c1 h
        refine lv_iload_n hx hb dX5_lettersIn_21 rfl (lv_at hl 1 rfl) ?_
        exact hR (some (.int x1)) _ _ (by rw [← Option.some.inj h]) rfl dX5_lettersIn_22
      · have h := ite_f c1 h
        refine lv_iload_n hx hb dX5_lettersIn_7 rfl (lv_at hl 0 rfl) ?_
        refine lv_iload_n hx hb dX5_lettersIn_8 rfl (lv_at hl 1 rfl) ?_
        obtain ⟨r2, hr2, h⟩ := bd_e h
        refine cl_RS (rest := []) ⟨hx, hb, hml, hown, hts⟩ (mX5_letterOf l D cI cZ cB a0 x1 r2 hr2) (va_cwS 2 hts gX5_lettersIn_X5_letterOf rfl rfl rfl (by decide +kernel) ⟨Nat.le_of_ble_eq_true rfl, Nat.le_of_ble_eq_true rfl⟩) hK hP rfl hl.1 rfl (Nat.le_of_ble_eq_true rfl) dX5_lettersIn_9 ⟨Nat.zero_le _, Nat.zero_le _⟩ ?_
        refine W.eq (g2 := F0 m 12 ls [.int r2]) rfl ?_
        refine lv_if_eq (tgt := 21) hx hb dX5_lettersIn_12 (by decide) (fun c3 => ?_) (fun c3 => ?_)
        · have h := ite_t c3 h
          refine lv_iload_n hx hb dX5_lettersIn_21 rfl (lv_at hl 1 rfl) ?_
          exact hR (some (.int x1)) _ _ (by rw [← Option.some.inj h]) rfl dX5_lettersIn_22
        · have h := ite_f c3 h
          obtain ⟨x1_4, ex1_4, h⟩ := lt_e h
          refine lv_iinc (v := x1_4) (lv' := [(1, .int x1_4), (0, .int a0)]) hx hb dX5_lettersIn_15 hl (k := 1) rfl (by rw [ex1_4]; rfl) (by decide) rfl (fun ls hl => ?_)
          refine lv_goto (tgt := 2) hx hb dX5_lettersIn_18 (by decide) ?_
          exact ih2 x1_4 _ (lv_sub hl [1, 0] rfl) h
  rw [X5_lettersIn] at h
  refine lv_iconst (v := 0) hx hb dX5_lettersIn_0 (by decide) ?_
  refine lv_istore_n (lv' := [(1, .int 0), (0, .int a0)]) hx hb dX5_lettersIn_1 rfl hl (by decide) rfl (fun ls hl => ?_)
  exact n2 FU 0 _ (lv_sub hl [1, 0] rfl) h
set_option maxHeartbeats 4000000 in
set_option maxRecDepth 100000 in
theorem mX5_lettersIn (l : Launch) (D : va_G) (cI cZ cB : ClassId) (a0 : Int32) (res : Int32) (h : X5_lettersIn a0 = some res) : Met l yX5_lettersIn wsX5_lettersIn rmX5_lettersIn (pR D cI cZ cB wd0 [.int a0]) (qR (some (.int res))) 0 0 (fun _ => False) := (bX5_lettersIn l D cI cZ cB a0 res h).met (by decide +kernel) rfl (Nat.le_of_ble_eq_true rfl)
def rmX5_setLetter : Room := { frames := 0, cells := 0, slots := 0, locals := 0 }
set_option maxHeartbeats 4000000 in
set_option maxRecDepth 100000 in
theorem bX5_setLetter (l : Launch) (D : va_G) (cI cZ cB : ClassId) (a0 : Int32) (a1 : Int32) (a2 : Int32) (res : Int32) (h : X5_setLetter a0 a1 a2 = some res) : BR l yX5_setLetter wsX5_setLetter rmX5_setLetter cX5_setLetter 4 (some .int) D cI cZ cB wd0 [.int a0, .int a1, .int a2] (some (.int res)) := by
  intro p e s m args below meth c ls Q hx hb hml hts hown hK hP hl0 hR
  have hl : lv_has ls 4 [(0, .int a0), (1, .int a1), (2, .int a2)] := hl0
  rw [X5_setLetter] at h
  refine lv_bipush (v := 20) hx hb dX5_setLetter_0 (by decide) ?_
  refine lv_iconst (v := 5) hx hb dX5_setLetter_2 (by decide) ?_
  refine lv_iload_n hx hb dX5_setLetter_3 rfl (lv_at hl 1 rfl) ?_
  refine lv_iconst (v := 1) hx hb dX5_setLetter_4 (by decide) ?_
  refine lv_iadd hx hb dX5_setLetter_5 ?_
  refine lv_imul hx hb dX5_setLetter_6 ?_
  refine lv_isub hx hb dX5_setLetter_7 ?_
  obtain ⟨x3_1, ex3_1, h⟩ := lt_e h
  refine lv_topE ex3_1 ?_
  refine lv_istore_n (lv' := [(3, .int x3_1), (0, .int a0), (1, .int a1), (2, .int a2)]) hx hb dX5_setLetter_8 rfl hl (by decide) rfl (fun ls hl => ?_)
  refine lv_iload_n hx hb dX5_setLetter_9 rfl (lv_at hl 1 rfl) ?_
  refine lv_bipush (v := 31) hx hb dX5_setLetter_10 (by decide) ?_
  refine lv_iload_n hx hb dX5_setLetter_12 rfl (lv_at hl 0 rfl) ?_
  refine lv_ishl hx hb dX5_setLetter_13 ?_
  refine lv_iconst (v := (-1)) hx hb dX5_setLetter_14 (by decide) ?_
  refine lv_ixor hx hb dX5_setLetter_15 ?_
  refine lv_iand hx hb dX5_setLetter_16 ?_
  refine lv_iload_n hx hb dX5_setLetter_17 rfl (lv_at hl 3 rfl) ?_
  refine lv_iload_n hx hb dX5_setLetter_18 rfl (lv_at hl 0 rfl) ?_
  refine lv_ishl hx hb dX5_setLetter_19 ?_
  refine lv_ior hx hb dX5_setLetter_20 ?_
  exact hR (some (.int ((a0 &&& ((31 <<< (x3_1 &&& 31)) ^^^ (-1))) ||| (a2 <<< (x3_1 &&& 31))))) _ _ (by rw [← Option.some.inj h]) rfl dX5_setLetter_21
set_option maxHeartbeats 4000000 in
set_option maxRecDepth 100000 in
theorem mX5_setLetter (l : Launch) (D : va_G) (cI cZ cB : ClassId) (a0 : Int32) (a1 : Int32) (a2 : Int32) (res : Int32) (h : X5_setLetter a0 a1 a2 = some res) : Met l yX5_setLetter wsX5_setLetter rmX5_setLetter (pR D cI cZ cB wd0 [.int a0, .int a1, .int a2]) (qR (some (.int res))) 0 0 (fun _ => False) := (bX5_setLetter l D cI cZ cB a0 a1 a2 res h).met (by decide +kernel) rfl (Nat.le_of_ble_eq_true rfl)
def rmX5_fillWithA : Room := { frames := 1, cells := 0, slots := 0, locals := 23 }
set_option maxHeartbeats 4000000 in
set_option maxRecDepth 100000 in
theorem bX5_fillWithA (l : Launch) (D : va_G) (cI cZ cB : ClassId) (a0 : Int32) (a1 : Int32) (a2 : Int32) (res : Int32) (h : X5_fillWithA a0 a1 a2 = some res) : BR l yX5_fillWithA wsX5_fillWithA rmX5_fillWithA cX5_fillWithA 5 (some .int) D cI cZ cB wd0 [.int a0, .int a1, .int a2] (some (.int res)) := by
  intro p e s m args below meth c ls Q hx hb hml hts hown hK hP hl0 hR
  have hl : lv_has ls 5 [(0, .int a0), (1, .int a1), (2, .int a2)] := hl0
  have n5 : ∀ (n : Nat) (x3 : Int32) (x4 : Int32) (ls : Array Slot), lv_has ls 5 [(2, .int a2), (3, .int x3), (4, .int x4)] → X5_fillWithA_5 a0 a1 a2 n x3 x4 = some res → W p l e rmX5_fillWithA s m args below meth c s.heap [] 0 0 Q (F0 m 5 ls []) := by
    intro n
    induction n with
    | zero =>
      intro x3 x4 ls hl h
      rw [X5_fillWithA_5] at h
      cases h
    | succ n_5 ih5 =>
      intro x3 x4 ls hl h
      rw [X5_fillWithA_5] at h
      refine lv_iload hx hb dX5_fillWithA_5 (lv_at hl 2 rfl) ?_
      refine lv_iload_n hx hb dX5_fillWithA_7 rfl (lv_at hl 0 rfl) ?_
      refine lv_icmp_ge (tgt := 25) hx hb dX5_fillWithA_8 (by decide) (fun c1 => ?_) (fun c1 => ?_)
      · have h := ite_t c1 h
        refine lv_iload_n hx hb dX5_fillWithA_25 rfl (lv_at hl 1 rfl) ?_
        exact hR (some (.int x3)) _ _ (by rw [← Option.some.inj h]) rfl dX5_fillWithA_26
      · have h := ite_f c1 h
        refine lv_iload_n hx hb dX5_fillWithA_11 rfl (lv_at hl 1 rfl) ?_
        refine lv_iload hx hb dX5_fillWithA_12 (lv_at hl 2 rfl) ?_
        refine lv_iconst (v := 1) hx hb dX5_fillWithA_14 (by decide) ?_
        obtain ⟨r2, hr2, h⟩ := bd_e h
        refine cl_RS (rest := []) ⟨hx, hb, hml, hown, hts⟩ (mX5_setLetter l D cI cZ cB x3 x4 1 r2 hr2) (va_cwS 3 hts gX5_fillWithA_X5_setLetter rfl rfl rfl (by decide +kernel) ⟨Nat.le_of_ble_eq_true rfl, Nat.le_of_ble_eq_true rfl⟩) hK hP rfl hl.1 rfl (Nat.le_of_ble_eq_true rfl) dX5_fillWithA_15 ⟨Nat.zero_le _, Nat.zero_le _⟩ ?_
        refine W.eq (g2 := F0 m 18 ls [.int r2]) rfl ?_
        refine lv_istore_n (lv' := [(3, .int r2), (2, .int a2), (4, .int x4)]) hx hb dX5_fillWithA_18 rfl hl (by decide) rfl (fun ls hl => ?_)
        obtain ⟨x4_3, ex4_3, h⟩ := lt_e h
        refine lv_iinc (v := x4_3) (lv' := [(4, .int x4_3), (3, .int r2), (2, .int a2)]) hx hb dX5_fillWithA_19 hl (k := 2) rfl (by rw [ex4_3]; rfl) (by decide) rfl (fun ls hl => ?_)
        refine lv_goto (tgt := 5) hx hb dX5_fillWithA_22 (by decide) ?_
        exact ih5 r2 x4_3 _ (lv_sub hl [2, 1, 0] rfl) h
  rw [X5_fillWithA] at h
  refine lv_iload_n hx hb dX5_fillWithA_0 rfl (lv_at hl 0 rfl) ?_
  refine lv_istore_n (lv' := [(3, .int a0), (0, .int a0), (1, .int a1), (2, .int a2)]) hx hb dX5_fillWithA_1 rfl hl (by decide) rfl (fun ls hl => ?_)
  refine lv_iload_n hx hb dX5_fillWithA_2 rfl (lv_at hl 2 rfl) ?_
  refine lv_istore (lv' := [(4, .int a1), (3, .int a0), (0, .int a0), (1, .int a1), (2, .int a2)]) hx hb dX5_fillWithA_3 hl (by decide) rfl (fun ls hl => ?_)
  exact n5 FU a0 a1 _ (lv_sub hl [4, 1, 0] rfl) h
set_option maxHeartbeats 4000000 in
set_option maxRecDepth 100000 in
theorem mX5_fillWithA (l : Launch) (D : va_G) (cI cZ cB : ClassId) (a0 : Int32) (a1 : Int32) (a2 : Int32) (res : Int32) (h : X5_fillWithA a0 a1 a2 = some res) : Met l yX5_fillWithA wsX5_fillWithA rmX5_fillWithA (pR D cI cZ cB wd0 [.int a0, .int a1, .int a2]) (qR (some (.int res))) 0 0 (fun _ => False) := (bX5_fillWithA l D cI cZ cB a0 a1 a2 res h).met (by decide +kernel) rfl (Nat.le_of_ble_eq_true rfl)
def rmX5_leastAbove : Room := { frames := 2, cells := 0, slots := 0, locals := 47 }
set_option maxHeartbeats 4000000 in
set_option maxRecDepth 100000 in
theorem bX5_leastAbove (l : Launch) (D : va_G) (cI cZ cB : ClassId) (a0 : Int32) (a1 : Int32) (res : Int32) (h : X5_leastAbove a0 a1 = some res) : BR l yX5_leastAbove wsX5_leastAbove rmX5_leastAbove cX5_leastAbove 6 (some .int) D cI cZ cB wd0 [.int a0, .int a1] (some (.int res)) := by
  intro p e s m args below meth c ls Q hx hb hml hts hown hK hP hl0 hR
  have hl : lv_has ls 6 [(0, .int a0), (1, .int a1)] := hl0
  have n61 : ∀ (n : Nat) (x3 : Int32) (x4 : Int32) (ls : Array Slot), lv_has ls 6 [(0, .int a0), (1, .int a1), (3, .int x3), (4, .int x4)] → X5_leastAbove_61 a0 a1 n x3 x4 = some res → W p l e rmX5_leastAbove s m args below meth c s.heap [] 0 0 Q (F0 m 61 ls []) := by
    intro n
    induction n with
    | zero =>
      intro x3 x4 ls hl h
      rw [X5_leastAbove_61] at h
      cases h
    | succ n_61 ih61 =>
      intro x3 x4 ls hl h
      rw [X5_leastAbove_61] at h
      refine lv_iload hx hb dX5_leastAbove_61 (lv_at hl 3 rfl) ?_
      refine lv_if_lt (tgt := 106) hx hb dX5_leastAbove_63 (by decide) (fun c1 => ?_) (fun c1 => ?_)
      · have h := ite_t c1 h
        refine lv_iload_n hx hb dX5_leastAbove_106 rfl (lv_at hl 0 rfl) ?_
        obtain ⟨r2, hr2, h⟩ := bd_e h
        refine cl_RS (rest := []) ⟨hx, hb, hml, hown, hts⟩ (mX5_numberOf l D cI cZ cB a0 r2 hr2) (va_cwS 1 hts gX5_leastAbove_X5_numberOf rfl rfl rfl (by decide +kernel) ⟨Nat.le_of_ble_eq_true rfl, Nat.le_of_ble_eq_true rfl⟩) hK hP rfl hl.1 rfl (Nat.le_of_ble_eq_true rfl) dX5_leastAbove_107 ⟨Nat.zero_le _, Nat.zero_le _⟩ ?_
        refine W.eq (g2 := F0 m 110 ls [.int r2]) rfl ?_
        refine lv_iconst (v := 1) hx hb dX5_leastAbove_110 (by decide) ?_
        refine lv_iadd hx hb dX5_leastAbove_111 ?_
        obtain ⟨r3, hr3, h⟩ := bd_e h
        refine cl_RS (rest := []) ⟨hx, hb, hml, hown, hts⟩ (mX5_plain l D cI cZ cB (r2 + 1) r3 hr3) (va_cwS 1 hts gX5_leastAbove_X5_plain rfl rfl rfl (by decide +kernel) ⟨Nat.le_of_ble_eq_true rfl, Nat.le_of_ble_eq_true rfl⟩) hK hP rfl hl.1 rfl (Nat.le_of_ble_eq_true rfl) dX5_leastAbove_112 ⟨Nat.zero_le _, Nat.zero_le _⟩ ?_
        refine W.eq (g2 := F0 m 115 ls [.int r3]) rfl ?_
        refine lv_istore (lv' := [(4, .int r3), (0, .int a0), (1, .int a1), (3, .int x3)]) hx hb dX5_leastAbove_115 hl (by decide) rfl (fun ls hl => ?_)
        refine lv_iload hx hb dX5_leastAbove_117 (lv_at hl 0 rfl) ?_
        refine lv_if_ne (tgt := 126) hx hb dX5_leastAbove_119 (by decide) (fun c4 => ?_) (fun c4 => ?_)
        · have h := ite_f c4 h
          refine lv_iload hx hb dX5_leastAbove_126 (lv_at hl 0 rfl) ?_
          refine lv_iconst (v := 0) hx hb dX5_leastAbove_128 (by decide) ?_
          refine lv_iload_n hx hb dX5_leastAbove_129 rfl (lv_at hl 2 rfl) ?_
          obtain ⟨r5, hr5, h⟩ := bd_e h
          refine cl_RS (rest := []) ⟨hx, hb, hml, hown, hts⟩ (mX5_fillWithA l D cI cZ cB r3 0 a1 r5 hr5) (va_cwS 3 hts gX5_leastAbove_X5_fillWithA rfl rfl rfl (by decide +kernel) ⟨Nat.le_of_ble_eq_true rfl, Nat.le_of_ble_eq_true rfl⟩) hK hP rfl hl.1 rfl (Nat.le_of_ble_eq_true rfl) dX5_leastAbove_130 ⟨Nat.zero_le _, Nat.zero_le _⟩ ?_
          refine W.eq (g2 := F0 m 133 ls [.int r5]) rfl ?_
          exact hR (some (.int r5)) _ _ (by rw [← Option.some.inj h]) rfl dX5_leastAbove_133
        · have h := ite_t c4 h
          refine lv_iconst (v := 0) hx hb dX5_leastAbove_122 (by decide) ?_
          refine lv_goto (tgt := 133) hx hb dX5_leastAbove_123 (by decide) ?_
          exact hR (some (.int 0)) _ _ (by rw [← Option.some.inj h]) rfl dX5_leastAbove_133
      · have h := ite_f c1 h
        refine lv_iload_n hx hb dX5_leastAbove_66 rfl (lv_at hl 2 rfl) ?_
        refine lv_iload hx hb dX5_leastAbove_67 (lv_at hl 3 rfl) ?_
        obtain ⟨r6, hr6, h⟩ := bd_e h
        refine cl_RS (rest := []) ⟨hx, hb, hml, hown, hts⟩ (mX5_letterOf l D cI cZ cB x3 x4 r6 hr6) (va_cwS 2 hts gX5_leastAbove_X5_letterOf rfl rfl rfl (by decide +kernel) ⟨Nat.le_of_ble_eq_true rfl, Nat.le_of_ble_eq_true rfl⟩) hK hP rfl hl.1 rfl (Nat.le_of_ble_eq_true rfl) dX5_leastAbove_69 ⟨Nat.zero_le _, Nat.zero_le _⟩ ?_
        refine W.eq (g2 := F0 m 72 ls [.int r6]) rfl ?_
        refine lv_istore (lv' := [(5, .int r6), (0, .int a0), (1, .int a1), (3, .int x3), (4, .int x4)]) hx hb dX5_leastAbove_72 hl (by decide) rfl (fun ls hl => ?_)
        refine lv_iload hx hb dX5_leastAbove_74 (lv_at hl 0 rfl) ?_
        refine lv_bipush (v := 26) hx hb dX5_leastAbove_76 (by decide) ?_
        refine lv_icmp_ge (tgt := 100) hx hb dX5_leastAbove_78 (by decide) (fun c7 => ?_) (fun c7 => ?_)
        · have h := ite_t c7 h
          obtain ⟨x4_8, ex4_8, h⟩ := lt_e h
          refine lv_iinc (v := x4_8) (lv' := [(4, .int x4_8), (5, .int r6), (0, .int a0), (1, .int a1), (3, .int x3)]) hx hb dX5_leastAbove_100 hl (k := 4) rfl (by rw [ex4_8]; rfl) (by decide) rfl (fun ls hl => ?_)
          refine lv_goto (tgt := 61) hx hb dX5_leastAbove_103 (by decide) ?_
          exact ih61 x3 x4_8 _ (lv_sub hl [2, 3, 4, 0] rfl) h
        · have h := ite_f c7 h
          refine lv_iload_n hx hb dX5_leastAbove_81 rfl (lv_at hl 3 rfl) ?_
          refine lv_iload hx hb dX5_leastAbove_82 (lv_at hl 4 rfl) ?_
          refine lv_iload hx hb dX5_leastAbove_84 (lv_at hl 0 rfl) ?_
          refine lv_iconst (v := 1) hx hb dX5_leastAbove_86 (by decide) ?_
          refine lv_iadd hx hb dX5_leastAbove_87 ?_
          obtain ⟨r9, hr9, h⟩ := bd_e h
          refine cl_RS (rest := []) ⟨hx, hb, hml, hown, hts⟩ (mX5_setLetter l D cI cZ cB x3 x4 (r6 + 1) r9 hr9) (va_cwS 3 hts gX5_leastAbove_X5_setLetter rfl rfl rfl (by decide +kernel) ⟨Nat.le_of_ble_eq_true rfl, Nat.le_of_ble_eq_true rfl⟩) hK hP rfl hl.1 rfl (Nat.le_of_ble_eq_true rfl) dX5_leastAbove_88 ⟨Nat.zero_le _, Nat.zero_le _⟩ ?_
          refine W.eq (g2 := F0 m 91 ls [.int r9]) rfl ?_
          refine lv_iload hx hb dX5_leastAbove_91 (lv_at hl 4 rfl) ?_
          refine lv_iconst (v := 1) hx hb dX5_leastAbove_93 (by decide) ?_
          refine lv_iadd hx hb dX5_leastAbove_94 ?_
          refine lv_iload_n hx hb dX5_leastAbove_95 rfl (lv_at hl 2 rfl) ?_
          obtain ⟨r10, hr10, h⟩ := bd_e h
          refine cl_RS (rest := []) ⟨hx, hb, hml, hown, hts⟩ (mX5_fillWithA l D cI cZ cB r9 (x4 + 1) a1 r10 hr10) (va_cwS 3 hts gX5_leastAbove_X5_fillWithA rfl rfl rfl (by decide +kernel) ⟨Nat.le_of_ble_eq_true rfl, Nat.le_of_ble_eq_true rfl⟩) hK hP rfl hl.1 rfl (Nat.le_of_ble_eq_true rfl) dX5_leastAbove_96 ⟨Nat.zero_le _, Nat.zero_le _⟩ ?_
          refine W.eq (g2 := F0 m 99 ls [.int r10]) rfl ?_
          exact hR (some (.int r10)) _ _ (by rw [← Option.some.inj h]) rfl dX5_leastAbove_99
  have n36 : ∀ (n : Nat) (x3 : Int32) (x4 : Int32) (ls : Array Slot), lv_has ls 6 [(0, .int a0), (1, .int a1), (3, .int x3), (4, .int x4)] → X5_leastAbove_36 a0 a1 n x3 x4 = some res → W p l e rmX5_leastAbove s m args below meth c s.heap [] 0 0 Q (F0 m 36 ls []) := by
    intro n
    induction n with
    | zero =>
      intro x3 x4 ls hl h
      rw [X5_leastAbove_36] at h
      cases h
    | succ n_36 ih36 =>
      intro x3 x4 ls hl h
      rw [X5_leastAbove_36] at h
      refine lv_iload hx hb dX5_leastAbove_36 (lv_at hl 3 rfl) ?_
      refine lv_iconst (v := 4) hx hb dX5_leastAbove_38 (by decide) ?_
      refine lv_icmp_ge (tgt := 56) hx hb dX5_leastAbove_39 (by decide) (fun c11 => ?_) (fun c11 => ?_)
      · have h := ite_t c11 h
        refine lv_iload_n hx hb dX5_leastAbove_56 rfl (lv_at hl 1 rfl) ?_
        refine lv_iconst (v := 1) hx hb dX5_leastAbove_57 (by decide) ?_
        refine lv_isub hx hb dX5_leastAbove_58 ?_
        obtain ⟨x4_12, ex4_12, h⟩ := lt_e h
        refine lv_topE ex4_12 ?_
        refine lv_istore (lv' := [(4, .int x4_12), (0, .int a0), (1, .int a1), (3, .int x3)]) hx hb dX5_leastAbove_59 hl (by decide) rfl (fun ls hl => ?_)
        exact n61 FU x3 x4_12 _ (lv_sub hl [1, 2, 3, 0] rfl) h
      · have h := ite_f c11 h
        refine lv_iload_n hx hb dX5_leastAbove_42 rfl (lv_at hl 2 rfl) ?_
        refine lv_iload hx hb dX5_leastAbove_43 (lv_at hl 3 rfl) ?_
        refine lv_iconst (v := 0) hx hb dX5_leastAbove_45 (by decide) ?_
        obtain ⟨r13, hr13, h⟩ := bd_e h
        refine cl_RS (rest := []) ⟨hx, hb, hml, hown, hts⟩ (mX5_setLetter l D cI cZ cB x3 x4 0 r13 hr13) (va_cwS 3 hts gX5_leastAbove_X5_setLetter rfl rfl rfl (by decide +kernel) ⟨Nat.le_of_ble_eq_true rfl, Nat.le_of_ble_eq_true rfl⟩) hK hP rfl hl.1 rfl (Nat.le_of_ble_eq_true rfl) dX5_leastAbove_46 ⟨Nat.zero_le _, Nat.zero_le _⟩ ?_
        refine W.eq (g2 := F0 m 49 ls [.int r13]) rfl ?_
        refine lv_istore_n (lv' := [(3, .int r13), (0, .int a0), (1, .int a1), (4, .int x4)]) hx hb dX5_leastAbove_49 rfl hl (by decide) rfl (fun ls hl => ?_)
        obtain ⟨x4_14, ex4_14, h⟩ := lt_e h
        refine lv_iinc (v := x4_14) (lv' := [(4, .int x4_14), (3, .int r13), (0, .int a0), (1, .int a1)]) hx hb dX5_leastAbove_50 hl (k := 3) rfl (by rw [ex4_14]; rfl) (by decide) rfl (fun ls hl => ?_)
        refine lv_goto (tgt := 36) hx hb dX5_leastAbove_53 (by decide) ?_
        exact ih36 r13 x4_14 _ (lv_sub hl [2, 3, 1, 0] rfl) h
  rw [X5_leastAbove] at h
  refine lv_iload_n hx hb dX5_leastAbove_0 rfl (lv_at hl 0 rfl) ?_
  obtain ⟨r15, hr15, h⟩ := bd_e h
  refine cl_RS (rest := []) ⟨hx, hb, hml, hown, hts⟩ (mX5_lettersIn l D cI cZ cB a0 r15 hr15) (va_cwS 1 hts gX5_leastAbove_X5_lettersIn rfl rfl rfl (by decide +kernel) ⟨Nat.le_of_ble_eq_true rfl, Nat.le_of_ble_eq_true rfl⟩) hK hP rfl hl.1 rfl (Nat.le_of_ble_eq_true rfl) dX5_leastAbove_1 ⟨Nat.zero_le _, Nat.zero_le _⟩ ?_
  refine W.eq (g2 := F0 m 4 ls [.int r15]) rfl ?_
  refine lv_istore_n (lv' := [(2, .int r15), (0, .int a0), (1, .int a1)]) hx hb dX5_leastAbove_4 rfl hl (by decide) rfl (fun ls hl => ?_)
  refine lv_iload_n hx hb dX5_leastAbove_5 rfl (lv_at hl 1 rfl) ?_
  refine lv_if_ne (tgt := 19) hx hb dX5_leastAbove_6 (by decide) (fun c16 => ?_) (fun c16 => ?_)
  · have h := ite_f c16 h
    refine lv_iload_n hx hb dX5_leastAbove_19 rfl (lv_at hl 0 rfl) ?_
    refine lv_iload_n hx hb dX5_leastAbove_20 rfl (lv_at hl 2 rfl) ?_
    refine lv_icmp_ge (tgt := 31) hx hb dX5_leastAbove_21 (by decide) (fun c17 => ?_) (fun c17 => ?_)
    · have h := ite_t c17 h
      refine lv_iload_n hx hb dX5_leastAbove_31 rfl (lv_at hl 1 rfl) ?_
      refine lv_istore_n (lv' := [(3, .int a0), (2, .int r15), (0, .int a0), (1, .int a1)]) hx hb dX5_leastAbove_32 rfl hl (by decide) rfl (fun ls hl => ?_)
      refine lv_iload_n hx hb dX5_leastAbove_33 rfl (lv_at hl 3 rfl) ?_
      refine lv_istore (lv' := [(4, .int a1), (3, .int a0), (2, .int r15), (0, .int a0), (1, .int a1)]) hx hb dX5_leastAbove_34 hl (by decide) rfl (fun ls hl => ?_)
      exact n36 FU a0 a1 _ (lv_sub hl [3, 4, 1, 0] rfl) h
    · have h := ite_f c17 h
      refine lv_iload_n hx hb dX5_leastAbove_24 rfl (lv_at hl 1 rfl) ?_
      refine lv_iload_n hx hb dX5_leastAbove_25 rfl (lv_at hl 0 rfl) ?_
      refine lv_iload_n hx hb dX5_leastAbove_26 rfl (lv_at hl 2 rfl) ?_
      obtain ⟨r18, hr18, h⟩ := bd_e h
      refine cl_RS (rest := []) ⟨hx, hb, hml, hown, hts⟩ (mX5_fillWithA l D cI cZ cB a0 r15 a1 r18 hr18) (va_cwS 3 hts gX5_leastAbove_X5_fillWithA rfl rfl rfl (by decide +kernel) ⟨Nat.le_of_ble_eq_true rfl, Nat.le_of_ble_eq_true rfl⟩) hK hP rfl hl.1 rfl (Nat.le_of_ble_eq_true rfl) dX5_leastAbove_27 ⟨Nat.zero_le _, Nat.zero_le _⟩ ?_
      refine W.eq (g2 := F0 m 30 ls [.int r18]) rfl ?_
      exact hR (some (.int r18)) _ _ (by rw [← Option.some.inj h]) rfl dX5_leastAbove_30
  · have h := ite_t c16 h
    refine lv_iconst (v := 1) hx hb dX5_leastAbove_9 (by decide) ?_
    obtain ⟨r19, hr19, h⟩ := bd_e h
    refine cl_RS (rest := []) ⟨hx, hb, hml, hown, hts⟩ (mX5_plain l D cI cZ cB 1 r19 hr19) (va_cwS 1 hts gX5_leastAbove_X5_plain rfl rfl rfl (by decide +kernel) ⟨Nat.le_of_ble_eq_true rfl, Nat.le_of_ble_eq_true rfl⟩) hK hP rfl hl.1 rfl (Nat.le_of_ble_eq_true rfl) dX5_leastAbove_10 ⟨Nat.zero_le _, Nat.zero_le _⟩ ?_
    refine W.eq (g2 := F0 m 13 ls [.int r19]) rfl ?_
    refine lv_iconst (v := 0) hx hb dX5_leastAbove_13 (by decide) ?_
    refine lv_iload_n hx hb dX5_leastAbove_14 rfl (lv_at hl 2 rfl) ?_
    obtain ⟨r20, hr20, h⟩ := bd_e h
    refine cl_RS (rest := []) ⟨hx, hb, hml, hown, hts⟩ (mX5_fillWithA l D cI cZ cB r19 0 a1 r20 hr20) (va_cwS 3 hts gX5_leastAbove_X5_fillWithA rfl rfl rfl (by decide +kernel) ⟨Nat.le_of_ble_eq_true rfl, Nat.le_of_ble_eq_true rfl⟩) hK hP rfl hl.1 rfl (Nat.le_of_ble_eq_true rfl) dX5_leastAbove_15 ⟨Nat.zero_le _, Nat.zero_le _⟩ ?_
    refine W.eq (g2 := F0 m 18 ls [.int r20]) rfl ?_
    exact hR (some (.int r20)) _ _ (by rw [← Option.some.inj h]) rfl dX5_leastAbove_18
set_option maxHeartbeats 4000000 in
set_option maxRecDepth 100000 in
theorem mX5_leastAbove (l : Launch) (D : va_G) (cI cZ cB : ClassId) (a0 : Int32) (a1 : Int32) (res : Int32) (h : X5_leastAbove a0 a1 = some res) : Met l yX5_leastAbove wsX5_leastAbove rmX5_leastAbove (pR D cI cZ cB wd0 [.int a0, .int a1]) (qR (some (.int res))) 0 0 (fun _ => False) := (bX5_leastAbove l D cI cZ cB a0 a1 res h).met (by decide +kernel) rfl (Nat.le_of_ble_eq_true rfl)
def rmX5_between : Room := { frames := 3, cells := 0, slots := 0, locals := 72 }
set_option maxHeartbeats 4000000 in
set_option maxRecDepth 100000 in
theorem bX5_between (l : Launch) (D : va_G) (cI cZ cB : ClassId) (a0 : Int32) (a1 : Int32) (res : Int32) (h : X5_between a0 a1 = some res) : BR l yX5_between wsX5_between rmX5_between cX5_between 4 (some .int) D cI cZ cB wd0 [.int a0, .int a1] (some (.int res)) := by
  intro p e s m args below meth c ls Q hx hb hml hts hown hK hP hl0 hR
  have hl : lv_has ls 4 [(0, .int a0), (1, .int a1)] := hl0
  have n16 : ∀ (n : Nat) (x2 : Int32) (ls : Array Slot), lv_has ls 4 [(0, .int a0), (1, .int a1), (2, .int x2)] → X5_between_16 a0 a1 n x2 = some res → W p l e rmX5_between s m args below meth c s.heap [] 0 0 Q (F0 m 16 ls []) := by
    intro n
    induction n with
    | zero =>
      intro x2 ls hl h
      rw [X5_between_16] at h
      cases h
    | succ n_16 ih16 =>
      intro x2 ls hl h
      rw [X5_between_16] at h
      refine lv_iload_n hx hb dX5_between_16 rfl (lv_at hl 2 rfl) ?_
      refine lv_iconst (v := 4) hx hb dX5_between_17 (by decide) ?_
      refine lv_icmp_gt (tgt := 44) hx hb dX5_between_18 (by decide) (fun c1 => ?_) (fun c1 => ?_)
      · have h := ite_t c1 h
        refine lv_iconst (v := 0) hx hb dX5_between_44 (by decide) ?_
        exact hR (some (.int 0)) _ _ (by rw [← Option.some.inj h]) rfl dX5_between_45
      · have h := ite_f c1 h
        refine lv_iload_n hx hb dX5_between_21 rfl (lv_at hl 0 rfl) ?_
        refine lv_iload_n hx hb dX5_between_22 rfl (lv_at hl 2 rfl) ?_
        obtain ⟨r2, hr2, h⟩ := bd_e h
        refine cl_RS (rest := []) ⟨hx, hb, hml, hown, hts⟩ (mX5_leastAbove l D cI cZ cB a0 x2 r2 hr2) (va_cwS 2 hts gX5_between_X5_leastAbove rfl rfl rfl (by decide +kernel) ⟨Nat.le_of_ble_eq_true rfl, Nat.le_of_ble_eq_true rfl⟩) hK hP rfl hl.1 rfl (Nat.le_of_ble_eq_true rfl) dX5_between_23 ⟨Nat.zero_le _, Nat.zero_le _⟩ ?_
        refine W.eq (g2 := F0 m 26 ls [.int r2]) rfl ?_
        refine lv_istore_n (lv' := [(3, .int r2), (0, .int a0), (1, .int a1), (2, .int x2)]) hx hb dX5_between_26 rfl hl (by decide) rfl (fun ls hl => ?_)
        refine lv_iload_n hx hb dX5_between_27 rfl (lv_at hl 0 rfl) ?_
        refine lv_if_eq (tgt := 38) hx hb dX5_between_28 (by decide) (fun c3 => ?_) (fun c3 => ?_)
        · have h := ite_t c3 h
          obtain ⟨x2_4, ex2_4, h⟩ := lt_e h
          refine lv_iinc (v := x2_4) (lv' := [(2, .int x2_4), (3, .int r2), (0, .int a0), (1, .int a1)]) hx hb dX5_between_38 hl (k := 3) rfl (by rw [ex2_4]; rfl) (by decide) rfl (fun ls hl => ?_)
          refine lv_goto (tgt := 16) hx hb dX5_between_41 (by decide) ?_
          exact ih16 x2_4 _ (lv_sub hl [2, 3, 0] rfl) h
        · have h := ite_f c3 h
          refine lv_iload_n hx hb dX5_between_31 rfl (lv_at hl 0 rfl) ?_
          refine lv_iload_n hx hb dX5_between_32 rfl (lv_at hl 2 rfl) ?_
          refine lv_icmp_ge (tgt := 38) hx hb dX5_between_33 (by decide) (fun c5 => ?_) (fun c5 => ?_)
          · have h := ite_t c5 h
            obtain ⟨x2_6, ex2_6, h⟩ := lt_e h
            refine lv_iinc (v := x2_6) (lv' := [(2, .int x2_6), (3, .int r2), (0, .int a0), (1, .int a1)]) hx hb dX5_between_38 hl (k := 3) rfl (by rw [ex2_6]; rfl) (by decide) rfl (fun ls hl => ?_)
            refine lv_goto (tgt := 16) hx hb dX5_between_41 (by decide) ?_
            exact ih16 x2_6 _ (lv_sub hl [2, 3, 0] rfl) h
          · have h := ite_f c5 h
            refine lv_iload_n hx hb dX5_between_36 rfl (lv_at hl 0 rfl) ?_
            exact hR (some (.int r2)) _ _ (by rw [← Option.some.inj h]) rfl dX5_between_37
  rw [X5_between] at h
  refine lv_iload_n hx hb dX5_between_0 rfl (lv_at hl 1 rfl) ?_
  refine lv_if_ne (tgt := 14) hx hb dX5_between_1 (by decide) (fun c7 => ?_) (fun c7 => ?_)
  · have h := ite_f c7 h
    refine lv_iconst (v := 0) hx hb dX5_between_14 (by decide) ?_
    refine lv_istore_n (lv' := [(2, .int 0), (0, .int a0), (1, .int a1)]) hx hb dX5_between_15 rfl hl (by decide) rfl (fun ls hl => ?_)
    exact n16 FU 0 _ (lv_sub hl [1, 2, 0] rfl) h
  · have h := ite_t c7 h
    refine lv_iload_n hx hb dX5_between_4 rfl (lv_at hl 0 rfl) ?_
    obtain ⟨r8, hr8, h⟩ := bd_e h
    refine cl_RS (rest := []) ⟨hx, hb, hml, hown, hts⟩ (mX5_numberOf l D cI cZ cB a0 r8 hr8) (va_cwS 1 hts gX5_between_X5_numberOf rfl rfl rfl (by decide +kernel) ⟨Nat.le_of_ble_eq_true rfl, Nat.le_of_ble_eq_true rfl⟩) hK hP rfl hl.1 rfl (Nat.le_of_ble_eq_true rfl) dX5_between_5 ⟨Nat.zero_le _, Nat.zero_le _⟩ ?_
    refine W.eq (g2 := F0 m 8 ls [.int r8]) rfl ?_
    refine lv_iconst (v := 1) hx hb dX5_between_8 (by decide) ?_
    refine lv_iadd hx hb dX5_between_9 ?_
    obtain ⟨r9, hr9, h⟩ := bd_e h
    refine cl_RS (rest := []) ⟨hx, hb, hml, hown, hts⟩ (mX5_plain l D cI cZ cB (r8 + 1) r9 hr9) (va_cwS 1 hts gX5_between_X5_plain rfl rfl rfl (by decide +kernel) ⟨Nat.le_of_ble_eq_true rfl, Nat.le_of_ble_eq_true rfl⟩) hK hP rfl hl.1 rfl (Nat.le_of_ble_eq_true rfl) dX5_between_10 ⟨Nat.zero_le _, Nat.zero_le _⟩ ?_
    refine W.eq (g2 := F0 m 13 ls [.int r9]) rfl ?_
    exact hR (some (.int r9)) _ _ (by rw [← Option.some.inj h]) rfl dX5_between_13
set_option maxHeartbeats 4000000 in
set_option maxRecDepth 100000 in
theorem mX5_between (l : Launch) (D : va_G) (cI cZ cB : ClassId) (a0 : Int32) (a1 : Int32) (res : Int32) (h : X5_between a0 a1 = some res) : Met l yX5_between wsX5_between rmX5_between (pR D cI cZ cB wd0 [.int a0, .int a1]) (qR (some (.int res))) 0 0 (fun _ => False) := (bX5_between l D cI cZ cB a0 a1 res h).met (by decide +kernel) rfl (Nat.le_of_ble_eq_true rfl)
def rmX0_open : Room := { frames := 1, cells := 0, slots := 0, locals := 22 }
set_option maxHeartbeats 4000000 in
set_option maxRecDepth 100000 in
theorem bX0_open (l : Launch) (D : va_G) (cI cZ cB : ClassId) (ad : Nat → Nat) (σ : Mem) (a1 : Int32) (a2 : Int32) (a3 : Int32) (res : Mem) (h : X0_open a1 a2 a3 σ = some res) : BW l yX0_open wsX0_open rmX0_open cX0_open 4 none D cI cZ cB (wdX0 cI cZ cB ad σ) [.ref (ad 0), .int a1, .int a2, .int a3] none (wdX0 cI cZ cB ad res) := by
  intro p e s m args below meth c ls Q A hx hb hml hts hown hK hA hP hD hS hl0 hR
  have hinX0 : ∀ w ∈ u_ws RX0 TX0 5, w ∈ wsX0_open := (fun _ h => List.mem_cons_of_mem _ (List.mem_append_right _ h))
  have fl1 := hts (.fieldLink RX0 21 "LawNumberer$Acts" "next" "I") (by decide +kernel)
  have fl2 := hts (.fieldLink RX0 25 "LawNumberer$Acts" "size" "I") (by decide +kernel)
  have fl3 := hts (.methodLink RX0 28 Lib.Math.min.name) (by decide +kernel)
  have fl4 := hts (.static Lib.Math.min.name) (by decide +kernel)
  have fl5 := hts (.initialized "java/lang/Math") (by decide +kernel)
  have fl6 := hts (.code Lib.Math.min.name Lib.Math.min.code 2 (some .int)) (by decide +kernel)
  have fl7 := hts (.fieldLink RX0 9 "LawNumberer$Acts" "kinds" "[I") (by decide +kernel)
  have fl8 := hts (.fieldLink RX0 15 "LawNumberer$Acts" "actItems" "[I") (by decide +kernel)
  have fl9 := hts (.fieldLink RX0 18 "LawNumberer$Acts" "marks" "[I") (by decide +kernel)
  have hl : lv_has ls 4 [(0, .ref (ad 0)), (1, .int a1), (2, .int a2), (3, .int a3)] := hl0
  have n52 : ∀ (y1 : Int32) (σ : Mem) (H : Heap) (locs : List Loc), va_P D vwCl (wdX0 cI cZ cB ad σ) H → va_D A (wdX0 cI cZ cB ad σ) → va_S A s.heap H locs → ∀ (ls : Array Slot), lv_has ls 4 [(0, .ref (ad 0))] → X0_open_52 a1 a2 a3 y1 σ = some res → W p l e rmX0_open s m args below meth c H locs 0 0 Q (F0 m 52 ls [.int y1, .ref (ad 0)]) := by
    intro y1 σ H locs hP hD hS ls hl h
    rw [X0_open_52] at h
    obtain ⟨σ1, eσ1, h⟩ := lt_e h
    refine va_put (ci := 0) (v := .int y1) (ty := .int) (C := RX0) (T := TX0) (N := 5) hx hb hts hinX0 tyX0 tyX0_ok nmX0 hown hK hP hD hS 0 rfl rfl 3 (by decide) fl1 (fun _ h9 => h9) rfl (by decide +kernel) rfl rfl (Nat.le_of_ble_eq_true rfl) dX0_open_52 (fun H locs hP1 hD1 hS => ?_)
    have hP : va_P D vwCl (wdX0 cI cZ cB ad σ1) H := by rw [eσ1]; exact hP1
    have hD : va_D A (wdX0 cI cZ cB ad σ1) := D_of (by rfl) hD
    refine lv_aload_n hx hb dX0_open_55 rfl (lv_at hl 0 rfl) ?_
    refine lv_aload_n hx hb dX0_open_56 rfl (lv_at hl 0 rfl) ?_
    refine va_get (ci := 0) (v := .int (σ1 0 4)) (C := RX0) (T := TX0) (N := 5) hx hb hts hinX0 hown hK hP 0 rfl rfl 4 (by decide) fl2 (fun _ h9 => h9) rfl dX0_open_57 ?_
    refine lv_iconst (v := 1) hx hb dX0_open_60 (by decide) ?_
    refine lv_iadd hx hb dX0_open_61 ?_
    refine lv_bipush (v := 100) hx hb dX0_open_62 (by decide) ?_
    refine va_mmin hx hb (hml.trans hl.1.symm) hown fl3 fl4 fl5 fl6 (Nat.le_of_ble_eq_true rfl) (Nat.le_of_ble_eq_true rfl) (Nat.zero_le _) (Nat.zero_le _) dX0_open_64 ?_
    obtain ⟨σ2, eσ2, h⟩ := lt_e h
    refine va_put (ci := 0) (v := .int (if 100 < ((σ1 0 4) + 1) then 100 else (σ1 0 4) + 1)) (ty := .int) (C := RX0) (T := TX0) (N := 5) hx hb hts hinX0 tyX0 tyX0_ok nmX0 hown hK hP hD hS 0 rfl rfl 4 (by decide) fl2 (fun _ h9 => h9) rfl (by decide +kernel) rfl rfl (Nat.le_of_ble_eq_true rfl) dX0_open_67 (fun H locs hP1 hD1 hS => ?_)
    have hP : va_P D vwCl (wdX0 cI cZ cB ad σ2) H := by rw [eσ2]; exact hP1
    have hD : va_D A (wdX0 cI cZ cB ad σ2) := D_of (by rfl) hD
    exact hR none (wdX0 cI cZ cB ad σ2) _ _ _ _ rfl (by rw [← Option.some.inj h]) trivial dX0_open_70 hP hS
  rw [X0_open] at h
  have hS := hS
  refine lv_aload_n hx hb dX0_open_0 rfl (lv_at hl 0 rfl) ?_
  refine va_get (ci := 0) (v := .ref (ad 1)) (C := RX0) (T := TX0) (N := 5) hx hb hts hinX0 hown hK hP 0 rfl rfl 0 (by decide) fl7 (fun _ h9 => h9) rfl dX0_open_1 ?_
  refine lv_aload_n hx hb dX0_open_4 rfl (lv_at hl 0 rfl) ?_
  refine va_get (ci := 0) (v := .int (σ 0 3)) (C := RX0) (T := TX0) (N := 5) hx hb hts hinX0 hown hK hP 0 rfl rfl 3 (by decide) fl1 (fun _ h9 => h9) rfl dX0_open_5 ?_
  refine lv_iload_n hx hb dX0_open_8 rfl (lv_at hl 1 rfl) ?_
  obtain ⟨hin3, h⟩ := gd_e h
  obtain ⟨σ4, eσ4, h⟩ := lt_e h
  refine va_iast hx hb hK hP hD hS 1 0 rfl rfl hin3 dX0_open_9 (fun H locs hP1 hD1 hS => ?_)
  have hP : va_P D vwCl (wdX0 cI cZ cB ad σ4) H := by rw [eσ4]; exact hP1
  have hD : va_D A (wdX0 cI cZ cB ad σ4) := D_of (by rfl) hD
  refine lv_aload_n hx hb dX0_open_10 rfl (lv_at hl 0 rfl) ?_
  refine va_get (ci := 0) (v := .ref (ad 2)) (C := RX0) (T := TX0) (N := 5) hx hb hts hinX0 hown hK hP 0 rfl rfl 1 (by decide) fl8 (fun _ h9 => h9) rfl dX0_open_11 ?_
  refine lv_aload_n hx hb dX0_open_14 rfl (lv_at hl 0 rfl) ?_
  refine va_get (ci := 0) (v := .int (σ4 0 3)) (C := RX0) (T := TX0) (N := 5) hx hb hts hinX0 hown hK hP 0 rfl rfl 3 (by decide) fl1 (fun _ h9 => h9) rfl dX0_open_15 ?_
  refine lv_iload_n hx hb dX0_open_18 rfl (lv_at hl 2 rfl) ?_
  obtain ⟨hin5, h⟩ := gd_e h
  obtain ⟨σ6, eσ6, h⟩ := lt_e h
  refine va_iast hx hb hK hP hD hS 2 0 rfl rfl hin5 dX0_open_19 (fun H locs hP1 hD1 hS => ?_)
  have hP : va_P D vwCl (wdX0 cI cZ cB ad σ6) H := by rw [eσ6]; exact hP1
  have hD : va_D A (wdX0 cI cZ cB ad σ6) := D_of (by rfl) hD
  refine lv_aload_n hx hb dX0_open_20 rfl (lv_at hl 0 rfl) ?_
  refine va_get (ci := 0) (v := .ref (ad 3)) (C := RX0) (T := TX0) (N := 5) hx hb hts hinX0 hown hK hP 0 rfl rfl 2 (by decide) fl9 (fun _ h9 => h9) rfl dX0_open_21 ?_
  refine lv_aload_n hx hb dX0_open_24 rfl (lv_at hl 0 rfl) ?_
  refine va_get (ci := 0) (v := .int (σ6 0 3)) (C := RX0) (T := TX0) (N := 5) hx hb hts hinX0 hown hK hP 0 rfl rfl 3 (by decide) fl1 (fun _ h9 => h9) rfl dX0_open_25 ?_
  refine lv_iload_n hx hb dX0_open_28 rfl (lv_at hl 3 rfl) ?_
  obtain ⟨hin7, h⟩ := gd_e h
  obtain ⟨σ8, eσ8, h⟩ := lt_e h
  refine va_iast hx hb hK hP hD hS 3 0 rfl rfl hin7 dX0_open_29 (fun H locs hP1 hD1 hS => ?_)
  have hP : va_P D vwCl (wdX0 cI cZ cB ad σ8) H := by rw [eσ8]; exact hP1
  have hD : va_D A (wdX0 cI cZ cB ad σ8) := D_of (by rfl) hD
  refine lv_aload_n hx hb dX0_open_30 rfl (lv_at hl 0 rfl) ?_
  refine lv_aload_n hx hb dX0_open_31 rfl (lv_at hl 0 rfl) ?_
  refine va_get (ci := 0) (v := .int (σ8 0 3)) (C := RX0) (T := TX0) (N := 5) hx hb hts hinX0 hown hK hP 0 rfl rfl 3 (by decide) fl1 (fun _ h9 => h9) rfl dX0_open_32 ?_
  refine lv_iconst (v := 1) hx hb dX0_open_35 (by decide) ?_
  refine lv_iadd hx hb dX0_open_36 ?_
  refine lv_bipush (v := 100) hx hb dX0_open_37 (by decide) ?_
  refine lv_icmp_ge (tgt := 51) hx hb dX0_open_39 (by decide) (fun c9 => ?_) (fun c9 => ?_)
  · have h := ite_t c9 h
    refine lv_iconst (v := 0) hx hb dX0_open_51 (by decide) ?_
    exact n52 0 σ8 _ _ hP hD hS _ (lv_sub hl [0] rfl) h
  · have h := ite_f c9 h
    refine lv_aload_n hx hb dX0_open_42 rfl (lv_at hl 0 rfl) ?_
    refine va_get (ci := 0) (v := .int (σ8 0 3)) (C := RX0) (T := TX0) (N := 5) hx hb hts hinX0 hown hK hP 0 rfl rfl 3 (by decide) fl1 (fun _ h9 => h9) rfl dX0_open_43 ?_
    refine lv_iconst (v := 1) hx hb dX0_open_46 (by decide) ?_
    refine lv_iadd hx hb dX0_open_47 ?_
    refine lv_goto (tgt := 52) hx hb dX0_open_48 (by decide) ?_
    exact n52 ((σ8 0 3) + 1) σ8 _ _ hP hD hS _ (lv_sub hl [0] rfl) h
set_option maxHeartbeats 4000000 in
set_option maxRecDepth 100000 in
theorem mX0_open (l : Launch) (D : va_G) (cI cZ cB : ClassId) (ad : Nat → Nat) (σ : Mem) (sz : Nat) (a1 : Int32) (a2 : Int32) (a3 : Int32) (res : Mem) (h : X0_open a1 a2 a3 σ = some res) : Met l yX0_open wsX0_open rmX0_open (pW D cI cZ cB (wdX0 cI cZ cB ad σ) sz [.ref (ad 0), .int a1, .int a2, .int a3]) (qW D none (wdX0 cI cZ cB ad res) (va_A (wdX0 cI cZ cB ad σ) sz)) 0 0 (va_A (wdX0 cI cZ cB ad σ) sz) := (bX0_open l D cI cZ cB ad σ a1 a2 a3 res h).metv (by decide +kernel) rfl (Nat.le_of_ble_eq_true rfl)
def rmX3_insert : Room := { frames := 1, cells := 0, slots := 0, locals := 40 }
set_option maxHeartbeats 4000000 in
set_option maxRecDepth 100000 in
theorem bX3_insert (l : Launch) (D : va_G) (cI cZ cB : ClassId) (ad : Nat → Nat) (σ : Mem) (a1 : Int32) (a2 : Int32) (a3 : Int32) (a4 : Int32) (res : Mem) (h : X3_insert a1 a2 a3 a4 σ = some res) : BW l yX3_insert wsX3_insert rmX3_insert cX3_insert 5 none D cI cZ cB (wdX3 cI cZ cB ad σ) [.ref (ad 0), .int a1, .int a2, .int a3, .int a4] none (wdX3 cI cZ cB ad res) := by
  intro p e s m args below meth c ls Q A hx hb hml hts hown hK hA hP hD hS hl0 hR
  have hinX3 : ∀ w ∈ u_ws RX3 TX3 7, w ∈ wsX3_insert := (fun _ h => List.mem_cons_of_mem _ (List.mem_append_right _ h))
  have fl1 := hts (.fieldLink RX3 28 "LawNumberer$Items" "size" "I") (by decide +kernel)
  have fl2 := hts (.fieldLink RX3 25 "LawNumberer$Items" "order" "[I") (by decide +kernel)
  have fl3 := hts (.methodLink RX3 47 arraycopyName) (by decide +kernel)
  have fl4 := hts (.native arraycopyName) (by decide +kernel)
  have fl5 := hts (.static arraycopyName) (by decide +kernel)
  have fl6 := hts (.initialized "java/lang/System") (by decide +kernel)
  have fl7 := hts (.fieldLink RX3 9 "LawNumberer$Items" "levels" "[I") (by decide +kernel)
  have fl8 := hts (.fieldLink RX3 15 "LawNumberer$Items" "under" "[I") (by decide +kernel)
  have fl9 := hts (.fieldLink RX3 18 "LawNumberer$Items" "came" "[I") (by decide +kernel)
  have fl10 := hts (.fieldLink RX3 21 "LawNumberer$Items" "struck" "[Z") (by decide +kernel)
  have hl : lv_has ls 5 [(0, .ref (ad 0)), (1, .int a1), (2, .int a2), (3, .int a3), (4, .int a4)] := hl0
  rw [X3_insert] at h
  have hS := hS
  refine lv_aload_n hx hb dX3_insert_0 rfl (lv_at hl 0 rfl) ?_
  refine va_get (ci := 2) (v := .int (σ 0 5)) (C := RX3) (T := TX3) (N := 7) hx hb hts hinX3 hown hK hP 0 rfl rfl 5 (by decide) fl1 (fun _ h9 => h9) rfl dX3_insert_1 ?_
  refine lv_bipush (v := 80) hx hb dX3_insert_4 (by decide) ?_
  refine lv_icmp_ge (tgt := 21) hx hb dX3_insert_6 (by decide) (fun c1 => ?_) (fun c1 => ?_)
  · have h := ite_t c1 h
    exact hR none (wdX3 cI cZ cB ad σ) _ _ _ _ rfl (by rw [← Option.some.inj h]) trivial dX3_insert_21 hP hS
  · have h := ite_f c1 h
    refine lv_iload_n hx hb dX3_insert_9 rfl (lv_at hl 1 rfl) ?_
    refine lv_if_lt (tgt := 21) hx hb dX3_insert_10 (by decide) (fun c2 => ?_) (fun c2 => ?_)
    · have h := ite_t c2 h
      exact hR none (wdX3 cI cZ cB ad σ) _ _ _ _ rfl (by rw [← Option.some.inj h]) trivial dX3_insert_21 hP hS
    · have h := ite_f c2 h
      refine lv_iload_n hx hb dX3_insert_13 rfl (lv_at hl 1 rfl) ?_
      refine lv_aload_n hx hb dX3_insert_14 rfl (lv_at hl 0 rfl) ?_
      refine va_get (ci := 2) (v := .int (σ 0 5)) (C := RX3) (T := TX3) (N := 7) hx hb hts hinX3 hown hK hP 0 rfl rfl 5 (by decide) fl1 (fun _ h9 => h9) rfl dX3_insert_15 ?_
      refine lv_icmp_le (tgt := 22) hx hb dX3_insert_18 (by decide) (fun c3 => ?_) (fun c3 => ?_)
      · have h := ite_t c3 h
        refine lv_aload_n hx hb dX3_insert_22 rfl (lv_at hl 0 rfl) ?_
        refine va_get (ci := 2) (v := .ref (ad 5)) (C := RX3) (T := TX3) (N := 7) hx hb hts hinX3 hown hK hP 0 rfl rfl 4 (by decide) fl2 (fun _ h9 => h9) rfl dX3_insert_23 ?_
        refine lv_iload_n hx hb dX3_insert_26 rfl (lv_at hl 1 rfl) ?_
        refine lv_aload_n hx hb dX3_insert_27 rfl (lv_at hl 0 rfl) ?_
        refine va_get (ci := 2) (v := .ref (ad 5)) (C := RX3) (T := TX3) (N := 7) hx hb hts hinX3 hown hK hP 0 rfl rfl 4 (by decide) fl2 (fun _ h9 => h9) rfl dX3_insert_28 ?_
        refine lv_iload_n hx hb dX3_insert_31 rfl (lv_at hl 1 rfl) ?_
        refine lv_iconst (v := 1) hx hb dX3_insert_32 (by decide) ?_
        refine lv_iadd hx hb dX3_insert_33 ?_
        refine lv_aload_n hx hb dX3_insert_34 rfl (lv_at hl 0 rfl) ?_
        refine va_get (ci := 2) (v := .int (σ 0 5)) (C := RX3) (T := TX3) (N := 7) hx hb hts hinX3 hown hK hP 0 rfl rfl 5 (by decide) fl1 (fun _ h9 => h9) rfl dX3_insert_35 ?_
        refine lv_iload_n hx hb dX3_insert_38 rfl (lv_at hl 1 rfl) ?_
        refine lv_isub hx hb dX3_insert_39 ?_
        obtain ⟨⟨⟨hc41, hc42, hc43⟩, hc44, hc45⟩, h⟩ := gp_e h
        obtain ⟨σ5, eσ5, h⟩ := lt_e h
        refine va_copyi hx hb (hml.trans hl.1.symm) hown fl3 fl4 fl5 fl6 hK hP hD hS 5 5 0 0 rfl rfl rfl rfl rfl hc41 hc42 hc43 hc44 hc45 (fun _ _ => rfl) (Nat.le_of_ble_eq_true rfl) (by decide +kernel) dX3_insert_40 (fun H locs hP1 hD1 hS => ?_)
        have hP : va_P D vwCl (wdX3 cI cZ cB ad σ5) H := by rw [eσ5]; exact hP1
        have hD : va_D A (wdX3 cI cZ cB ad σ5) := D_of (by rfl) hD
        refine lv_aload_n hx hb dX3_insert_43 rfl (lv_at hl 0 rfl) ?_
        refine va_get (ci := 2) (v := .ref (ad 5)) (C := RX3) (T := TX3) (N := 7) hx hb hts hinX3 hown hK hP 0 rfl rfl 4 (by decide) fl2 (fun _ h9 => h9) rfl dX3_insert_44 ?_
        refine lv_iload_n hx hb dX3_insert_47 rfl (lv_at hl 1 rfl) ?_
        refine lv_aload_n hx hb dX3_insert_48 rfl (lv_at hl 0 rfl) ?_
        refine va_get (ci := 2) (v := .int (σ5 0 5)) (C := RX3) (T := TX3) (N := 7) hx hb hts hinX3 hown hK hP 0 rfl rfl 5 (by decide) fl1 (fun _ h9 => h9) rfl dX3_insert_49 ?_
        obtain ⟨hin6, h⟩ := gd_e h
        obtain ⟨σ7, eσ7, h⟩ := lt_e h
        refine va_iast hx hb hK hP hD hS 5 0 rfl rfl hin6 dX3_insert_52 (fun H locs hP1 hD1 hS => ?_)
        have hP : va_P D vwCl (wdX3 cI cZ cB ad σ7) H := by rw [eσ7]; exact hP1
        have hD : va_D A (wdX3 cI cZ cB ad σ7) := D_of (by rfl) hD
        refine lv_aload_n hx hb dX3_insert_53 rfl (lv_at hl 0 rfl) ?_
        refine va_get (ci := 2) (v := .ref (ad 1)) (C := RX3) (T := TX3) (N := 7) hx hb hts hinX3 hown hK hP 0 rfl rfl 0 (by decide) fl7 (fun _ h9 => h9) rfl dX3_insert_54 ?_
        refine lv_aload_n hx hb dX3_insert_57 rfl (lv_at hl 0 rfl) ?_
        refine va_get (ci := 2) (v := .int (σ7 0 5)) (C := RX3) (T := TX3) (N := 7) hx hb hts hinX3 hown hK hP 0 rfl rfl 5 (by decide) fl1 (fun _ h9 => h9) rfl dX3_insert_58 ?_
        refine lv_iload_n hx hb dX3_insert_61 rfl (lv_at hl 2 rfl) ?_
        obtain ⟨hin8, h⟩ := gd_e h
        obtain ⟨σ9, eσ9, h⟩ := lt_e h
        refine va_iast hx hb hK hP hD hS 1 0 rfl rfl hin8 dX3_insert_62 (fun H locs hP1 hD1 hS => ?_)
        have hP : va_P D vwCl (wdX3 cI cZ cB ad σ9) H := by rw [eσ9]; exact hP1
        have hD : va_D A (wdX3 cI cZ cB ad σ9) := D_of (by rfl) hD
        refine lv_aload_n hx hb dX3_insert_63 rfl (lv_at hl 0 rfl) ?_
        refine va_get (ci := 2) (v := .ref (ad 2)) (C := RX3) (T := TX3) (N := 7) hx hb hts hinX3 hown hK hP 0 rfl rfl 1 (by decide) fl8 (fun _ h9 => h9) rfl dX3_insert_64 ?_
        refine lv_aload_n hx hb dX3_insert_67 rfl (lv_at hl 0 rfl) ?_
        refine va_get (ci := 2) (v := .int (σ9 0 5)) (C := RX3) (T := TX3) (N := 7) hx hb hts hinX3 hown hK hP 0 rfl rfl 5 (by decide) fl1 (fun _ h9 => h9) rfl dX3_insert_68 ?_
        refine lv_iload_n hx hb dX3_insert_71 rfl (lv_at hl 3 rfl) ?_
        obtain ⟨hin10, h⟩ := gd_e h
        obtain ⟨σ11, eσ11, h⟩ := lt_e h
        refine va_iast hx hb hK hP hD hS 2 0 rfl rfl hin10 dX3_insert_72 (fun H locs hP1 hD1 hS => ?_)
        have hP : va_P D vwCl (wdX3 cI cZ cB ad σ11) H := by rw [eσ11]; exact hP1
        have hD : va_D A (wdX3 cI cZ cB ad σ11) := D_of (by rfl) hD
        refine lv_aload_n hx hb dX3_insert_73 rfl (lv_at hl 0 rfl) ?_
        refine va_get (ci := 2) (v := .ref (ad 3)) (C := RX3) (T := TX3) (N := 7) hx hb hts hinX3 hown hK hP 0 rfl rfl 2 (by decide) fl9 (fun _ h9 => h9) rfl dX3_insert_74 ?_
        refine lv_aload_n hx hb dX3_insert_77 rfl (lv_at hl 0 rfl) ?_
        refine va_get (ci := 2) (v := .int (σ11 0 5)) (C := RX3) (T := TX3) (N := 7) hx hb hts hinX3 hown hK hP 0 rfl rfl 5 (by decide) fl1 (fun _ h9 => h9) rfl dX3_insert_78 ?_
        refine lv_iload hx hb dX3_insert_81 (lv_at hl 4 rfl) ?_
        obtain ⟨hin12, h⟩ := gd_e h
        obtain ⟨σ13, eσ13, h⟩ := lt_e h
        refine va_iast hx hb hK hP hD hS 3 0 rfl rfl hin12 dX3_insert_83 (fun H locs hP1 hD1 hS => ?_)
        have hP : va_P D vwCl (wdX3 cI cZ cB ad σ13) H := by rw [eσ13]; exact hP1
        have hD : va_D A (wdX3 cI cZ cB ad σ13) := D_of (by rfl) hD
        refine lv_aload_n hx hb dX3_insert_84 rfl (lv_at hl 0 rfl) ?_
        refine va_get (ci := 2) (v := .ref (ad 4)) (C := RX3) (T := TX3) (N := 7) hx hb hts hinX3 hown hK hP 0 rfl rfl 3 (by decide) fl10 (fun _ h9 => h9) rfl dX3_insert_85 ?_
        refine lv_aload_n hx hb dX3_insert_88 rfl (lv_at hl 0 rfl) ?_
        refine va_get (ci := 2) (v := .int (σ13 0 5)) (C := RX3) (T := TX3) (N := 7) hx hb hts hinX3 hown hK hP 0 rfl rfl 5 (by decide) fl1 (fun _ h9 => h9) rfl dX3_insert_89 ?_
        refine lv_iconst (v := 0) hx hb dX3_insert_92 (by decide) ?_
        obtain ⟨hin14, h⟩ := gd_e h
        obtain ⟨σ15, eσ15, h⟩ := lt_e h
        refine va_zast hx hb hK hP hD hS 4 1 rfl rfl hin14 dX3_insert_93 (fun H locs hP1 hD1 hS => ?_)
        have hP : va_P D vwCl (wdX3 cI cZ cB ad σ15) H := by rw [eσ15]; exact hP1
        have hD : va_D A (wdX3 cI cZ cB ad σ15) := D_of (by rfl) hD
        refine lv_aload_n hx hb dX3_insert_94 rfl (lv_at hl 0 rfl) ?_
        refine lv_dup hx hb dX3_insert_95 rfl ?_
        refine va_get (ci := 2) (v := .int (σ15 0 5)) (C := RX3) (T := TX3) (N := 7) hx hb hts hinX3 hown hK hP 0 rfl rfl 5 (by decide) fl1 (fun _ h9 => h9) rfl dX3_insert_96 ?_
        refine lv_iconst (v := 1) hx hb dX3_insert_99 (by decide) ?_
        refine lv_iadd hx hb dX3_insert_100 ?_
        obtain ⟨σ16, eσ16, h⟩ := lt_e h
        refine va_put (ci := 2) (v := .int ((σ15 0 5) + 1)) (ty := .int) (C := RX3) (T := TX3) (N := 7) hx hb hts hinX3 tyX3 tyX3_ok nmX3 hown hK hP hD hS 0 rfl rfl 5 (by decide) fl1 (fun _ h9 => h9) rfl (by decide +kernel) rfl rfl (Nat.le_of_ble_eq_true rfl) dX3_insert_101 (fun H locs hP1 hD1 hS => ?_)
        have hP : va_P D vwCl (wdX3 cI cZ cB ad σ16) H := by rw [eσ16]; exact hP1
        have hD : va_D A (wdX3 cI cZ cB ad σ16) := D_of (by rfl) hD
        exact hR none (wdX3 cI cZ cB ad σ16) _ _ _ _ rfl (by rw [← Option.some.inj h]) trivial dX3_insert_104 hP hS
      · have h := ite_f c3 h
        exact hR none (wdX3 cI cZ cB ad σ) _ _ _ _ rfl (by rw [← Option.some.inj h]) trivial dX3_insert_21 hP hS
set_option maxHeartbeats 4000000 in
set_option maxRecDepth 100000 in
theorem mX3_insert (l : Launch) (D : va_G) (cI cZ cB : ClassId) (ad : Nat → Nat) (σ : Mem) (sz : Nat) (a1 : Int32) (a2 : Int32) (a3 : Int32) (a4 : Int32) (res : Mem) (h : X3_insert a1 a2 a3 a4 σ = some res) : Met l yX3_insert wsX3_insert rmX3_insert (pW D cI cZ cB (wdX3 cI cZ cB ad σ) sz [.ref (ad 0), .int a1, .int a2, .int a3, .int a4]) (qW D none (wdX3 cI cZ cB ad res) (va_A (wdX3 cI cZ cB ad σ) sz)) 0 0 (va_A (wdX3 cI cZ cB ad σ) sz) := (bX3_insert l D cI cZ cB ad σ a1 a2 a3 a4 res h).metv (by decide +kernel) rfl (Nat.le_of_ble_eq_true rfl)

def rmX2_give (κ : Nat) : Room := { frames := 3, cells := κ, slots := κ, locals := 111 }
set_option maxHeartbeats 4000000 in
set_option maxRecDepth 100000 in
theorem bX2_give (l : Launch) (D : va_G) (cI cZ cB : ClassId) (ad : Nat → Nat) (σ : Mem) (a1 : Int32) (a2 : Int32) (a3 : Int32) (res : (Mem) × Nat) (h : X2_give a1 a2 a3 σ = some res) : BG l yX2_give wsX2_give rmX2_give cX2_give 4 none D cI cZ cB (wdX2 cI cZ cB ad σ) [.ref (ad 0), .int a1, .int a2, .int a3] none (fun adv => (wdX2 cI cZ cB (mg ad LH adv) res.1)) res.2 := by
  intro p e s m args below meth c ls Q A hx hb hml hts hown hK hA hP hD hS hl0 hR
  have hP : va_P D vwCl (wdX2 cI cZ cB (mg ad LH (mp ad LH)) σ) s.heap := hP
  have hD : va_D A (wdX2 cI cZ cB (mg ad LH (mp ad LH)) σ) := hD
  have hrf : res.1 = res.1 := rfl
  have hc : 0 + res.2 ≤ res.2 := by omega
  have hinX2 : ∀ w ∈ u_ws RX2 TX2 6, w ∈ wsX2_give := (fun _ h => List.mem_cons_of_mem _ (List.mem_append_right _ h))
  have fl1 := hts (.fieldLink RX2 11 "LawNumberer$History" "givenTo" "[I") (by decide +kernel)
  have fl2 := hts (.fieldLink RX2 33 "LawNumberer$History" "size" "I") (by decide +kernel)
  have fl3 := hts (.fieldLink RX2 15 "LawNumberer$History" "days" "[I") (by decide +kernel)
  have fl4 := hts (.fieldLink RX2 18 "LawNumberer$History" "labels" "[I") (by decide +kernel)
  have fl5 := hts (.fieldLink RX2 21 "LawNumberer$History" "earlier" "[I") (by decide +kernel)
  have fl6 := hts (.fieldLink RX2 24 "LawNumberer$History" "last" "[I") (by decide +kernel)
  have hl : lv_has ls 4 [(0, .ref (ad 0)), (1, .int a1), (2, .int a2), (3, .int a3)] := hl0
  rw [X2_give] at h
  have hS := hS
  refine lv_iload_n hx hb dX2_give_0 rfl (lv_at hl 1 rfl) ?_
  refine lv_if_lt (tgt := 26) hx hb dX2_give_1 (by decide) (fun c1 => ?_) (fun c1 => ?_)
  · have h := ite_t c1 h
    have hfin : σ = res.1 := (congrArg Prod.fst (Option.some.inj h)).trans hrf
    exact hR none (mp ad LH) _ _ _ _ _ _ rfl (by first | (rw [← hfin]; done) | (rw [← hfin]; rfl)) trivial dX2_give_26 hP hD hS (by omega)
  · have h := ite_f c1 h
    refine lv_iload_n hx hb dX2_give_4 rfl (lv_at hl 1 rfl) ?_
    refine lv_bipush (v := 80) hx hb dX2_give_5 (by decide) ?_
    refine lv_icmp_ge (tgt := 26) hx hb dX2_give_7 (by decide) (fun c2 => ?_) (fun c2 => ?_)
    · have h := ite_t c2 h
      have hfin : σ = res.1 := (congrArg Prod.fst (Option.some.inj h)).trans hrf
      exact hR none (mp ad LH) _ _ _ _ _ _ rfl (by first | (rw [← hfin]; done) | (rw [← hfin]; rfl)) trivial dX2_give_26 hP hD hS (by omega)
    · have h := ite_f c2 h
      refine lv_aload_n hx hb dX2_give_10 rfl (lv_at hl 0 rfl) ?_
      refine lv_iload_n hx hb dX2_give_11 rfl (lv_at hl 1 rfl) ?_
      obtain ⟨r3, hr3, h⟩ := bd_e h
      refine cl_RV (rest := []) (ci := 1) (q0 := 0) ⟨hx, hb, hml, hown, hts⟩ (mX2_latest l D cI cZ cB (mg ad LH (mp ad LH)) σ a1 r3 hr3) (cwV 1 hts gX2_give_X2_latest rfl rfl rfl (by decide +kernel) ⟨Nat.le_of_ble_eq_true rfl, Nat.le_of_ble_eq_true rfl⟩) hK hP rfl rfl rfl rfl hl.1 rfl (Nat.le_of_ble_eq_true rfl) dX2_give_12 ⟨by show _ ≤ res.2; omega, by show _ ≤ res.2; omega⟩ ?_
      refine W.eq (g2 := F0 m 15 ls [.int r3]) rfl ?_
      refine lv_iload_n hx hb dX2_give_15 rfl (lv_at hl 3 rfl) ?_
      refine lv_icmp_eq (tgt := 26) hx hb dX2_give_16 (by decide) (fun c4 => ?_) (fun c4 => ?_)
      · have h := ite_t c4 h
        have hfin : σ = res.1 := (congrArg Prod.fst (Option.some.inj h)).trans hrf
        exact hR none (mp ad LH) _ _ _ _ _ _ rfl (by first | (rw [← hfin]; done) | (rw [← hfin]; rfl)) trivial dX2_give_26 hP hD hS (by omega)
      · have h := ite_f c4 h
        refine lv_aload_n hx hb dX2_give_19 rfl (lv_at hl 0 rfl) ?_
        obtain ⟨r5, hr5, h⟩ := bd_e h
        obtain ⟨rr7, h, hfrr7, hkrr7⟩ := kad_e h
        have hrf := hfrr7.symm.trans hrf
        have hc : 0 + r5.2 + rr7.2 ≤ res.2 := by omega
        obtain ⟨σ6, eσ6, h⟩ := lt_e h
        refine cl_GVs (rest := []) (ci := 1) (q0 := 0) ⟨hx, hb, hml, hown, hts⟩ (mX2_hasRoom l D cI cZ cB (mg ad LH (mp ad LH)) σ s.heap.size r5 hr5) (cwV 0 hts gX2_give_X2_hasRoom rfl rfl rfl (by decide +kernel) ⟨Nat.le_of_ble_eq_true rfl, Nat.le_of_ble_eq_true rfl⟩) hK hP hD hS hA rfl rfl rfl rfl hl.1 rfl (Nat.le_of_ble_eq_true rfl) dX2_give_20 ⟨by show _ ≤ res.2; omega, by show _ ≤ res.2; omega⟩ (fun adv8 H locs hP hD hS => ?_)
        have hP : va_P D vwCl (wdX2 cI cZ cB (mg ad LH adv8) σ6) H := by rw [eσ6]; exact hP
        have hD : va_D A (wdX2 cI cZ cB (mg ad LH adv8) σ6) := by rw [eσ6]; exact hD
        refine W.eq (g2 := F0 m 23 ls [.int r5.1.1]) rfl ?_
        refine lv_if_ne (tgt := 27) hx hb dX2_give_23 (by decide) (fun c9 => ?_) (fun c9 => ?_)
        · have h := ite_f c9 h
          refine lv_aload_n hx hb dX2_give_27 rfl (lv_at hl 0 rfl) ?_
          refine va_get (ci := 1) (v := .ref (adv8 0)) (C := RX2) (T := TX2) (N := 6) hx hb hts hinX2 hown hK hP 0 rfl rfl 0 (by decide) fl1 (fun _ h9 => h9) rfl dX2_give_28 ?_
          refine lv_aload_n hx hb dX2_give_31 rfl (lv_at hl 0 rfl) ?_
          refine va_get (ci := 1) (v := .int (σ6 0 5)) (C := RX2) (T := TX2) (N := 6) hx hb hts hinX2 hown hK hP 0 rfl rfl 5 (by decide) fl2 (fun _ h9 => h9) rfl dX2_give_32 ?_
          refine lv_iload_n hx hb dX2_give_35 rfl (lv_at hl 1 rfl) ?_
          obtain ⟨hin10, h⟩ := gd_e h
          obtain ⟨σ11, eσ11, h⟩ := lt_e h
          refine va_iast hx hb hK hP hD hS 1 0 rfl rfl hin10 dX2_give_36 (fun H locs hP1 hD1 hS => ?_)
          have hP : va_P D vwCl (wdX2 cI cZ cB (mg ad LH adv8) σ11) H := by rw [eσ11]; exact hP1
          have hD : va_D A (wdX2 cI cZ cB (mg ad LH adv8) σ11) := D_of (by rfl) hD
          refine lv_aload_n hx hb dX2_give_37 rfl (lv_at hl 0 rfl) ?_
          refine va_get (ci := 1) (v := .ref (adv8 1)) (C := RX2) (T := TX2) (N := 6) hx hb hts hinX2 hown hK hP 0 rfl rfl 1 (by decide) fl3 (fun _ h9 => h9) rfl dX2_give_38 ?_
          refine lv_aload_n hx hb dX2_give_41 rfl (lv_at hl 0 rfl) ?_
          refine va_get (ci := 1) (v := .int (σ11 0 5)) (C := RX2) (T := TX2) (N := 6) hx hb hts hinX2 hown hK hP 0 rfl rfl 5 (by decide) fl2 (fun _ h9 => h9) rfl dX2_give_42 ?_
          refine lv_iload_n hx hb dX2_give_45 rfl (lv_at hl 2 rfl) ?_
          obtain ⟨hin12, h⟩ := gd_e h
          obtain ⟨σ13, eσ13, h⟩ := lt_e h
          refine va_iast hx hb hK hP hD hS 2 0 rfl rfl hin12 dX2_give_46 (fun H locs hP1 hD1 hS => ?_)
          have hP : va_P D vwCl (wdX2 cI cZ cB (mg ad LH adv8) σ13) H := by rw [eσ13]; exact hP1
          have hD : va_D A (wdX2 cI cZ cB (mg ad LH adv8) σ13) := D_of (by rfl) hD
          refine lv_aload_n hx hb dX2_give_47 rfl (lv_at hl 0 rfl) ?_
          refine va_get (ci := 1) (v := .ref (adv8 2)) (C := RX2) (T := TX2) (N := 6) hx hb hts hinX2 hown hK hP 0 rfl rfl 2 (by decide) fl4 (fun _ h9 => h9) rfl dX2_give_48 ?_
          refine lv_aload_n hx hb dX2_give_51 rfl (lv_at hl 0 rfl) ?_
          refine va_get (ci := 1) (v := .int (σ13 0 5)) (C := RX2) (T := TX2) (N := 6) hx hb hts hinX2 hown hK hP 0 rfl rfl 5 (by decide) fl2 (fun _ h9 => h9) rfl dX2_give_52 ?_
          refine lv_iload_n hx hb dX2_give_55 rfl (lv_at hl 3 rfl) ?_
          obtain ⟨hin14, h⟩ := gd_e h
          obtain ⟨σ15, eσ15, h⟩ := lt_e h
          refine va_iast hx hb hK hP hD hS 3 0 rfl rfl hin14 dX2_give_56 (fun H locs hP1 hD1 hS => ?_)
          have hP : va_P D vwCl (wdX2 cI cZ cB (mg ad LH adv8) σ15) H := by rw [eσ15]; exact hP1
          have hD : va_D A (wdX2 cI cZ cB (mg ad LH adv8) σ15) := D_of (by rfl) hD
          refine lv_aload_n hx hb dX2_give_57 rfl (lv_at hl 0 rfl) ?_
          refine va_get (ci := 1) (v := .ref (adv8 3)) (C := RX2) (T := TX2) (N := 6) hx hb hts hinX2 hown hK hP 0 rfl rfl 3 (by decide) fl5 (fun _ h9 => h9) rfl dX2_give_58 ?_
          refine lv_aload_n hx hb dX2_give_61 rfl (lv_at hl 0 rfl) ?_
          refine va_get (ci := 1) (v := .int (σ15 0 5)) (C := RX2) (T := TX2) (N := 6) hx hb hts hinX2 hown hK hP 0 rfl rfl 5 (by decide) fl2 (fun _ h9 => h9) rfl dX2_give_62 ?_
          refine lv_aload_n hx hb dX2_give_65 rfl (lv_at hl 0 rfl) ?_
          refine va_get (ci := 1) (v := .ref (ad 5)) (C := RX2) (T := TX2) (N := 6) hx hb hts hinX2 hown hK hP 0 rfl rfl 4 (by decide) fl6 (fun _ h9 => h9) rfl dX2_give_66 ?_
          refine lv_iload_n hx hb dX2_give_69 rfl (lv_at hl 1 rfl) ?_
          obtain ⟨hin16, h⟩ := gd_e h
          refine va_iald hx hb hK hP 5 0 rfl rfl hin16 dX2_give_70 ?_
          obtain ⟨hin17, h⟩ := gd_e h
          obtain ⟨σ18, eσ18, h⟩ := lt_e h
          refine va_iast hx hb hK hP hD hS 4 0 rfl rfl hin17 dX2_give_71 (fun H locs hP1 hD1 hS => ?_)
          have hP : va_P D vwCl (wdX2 cI cZ cB (mg ad LH adv8) σ18) H := by rw [eσ18]; exact hP1
          have hD : va_D A (wdX2 cI cZ cB (mg ad LH adv8) σ18) := D_of (by rfl) hD
          refine lv_aload_n hx hb dX2_give_72 rfl (lv_at hl 0 rfl) ?_
          refine va_get (ci := 1) (v := .ref (ad 5)) (C := RX2) (T := TX2) (N := 6) hx hb hts hinX2 hown hK hP 0 rfl rfl 4 (by decide) fl6 (fun _ h9 => h9) rfl dX2_give_73 ?_
          refine lv_iload_n hx hb dX2_give_76 rfl (lv_at hl 1 rfl) ?_
          refine lv_aload_n hx hb dX2_give_77 rfl (lv_at hl 0 rfl) ?_
          refine va_get (ci := 1) (v := .int (σ18 0 5)) (C := RX2) (T := TX2) (N := 6) hx hb hts hinX2 hown hK hP 0 rfl rfl 5 (by decide) fl2 (fun _ h9 => h9) rfl dX2_give_78 ?_
          obtain ⟨hin19, h⟩ := gd_e h
          obtain ⟨σ20, eσ20, h⟩ := lt_e h
          refine va_iast hx hb hK hP hD hS 5 0 rfl rfl hin19 dX2_give_81 (fun H locs hP1 hD1 hS => ?_)
          have hP : va_P D vwCl (wdX2 cI cZ cB (mg ad LH adv8) σ20) H := by rw [eσ20]; exact hP1
          have hD : va_D A (wdX2 cI cZ cB (mg ad LH adv8) σ20) := D_of (by rfl) hD
          refine lv_aload_n hx hb dX2_give_82 rfl (lv_at hl 0 rfl) ?_
          refine lv_dup hx hb dX2_give_83 rfl ?_
          refine va_get (ci := 1) (v := .int (σ20 0 5)) (C := RX2) (T := TX2) (N := 6) hx hb hts hinX2 hown hK hP 0 rfl rfl 5 (by decide) fl2 (fun _ h9 => h9) rfl dX2_give_84 ?_
          refine lv_iconst (v := 1) hx hb dX2_give_87 (by decide) ?_
          refine lv_iadd hx hb dX2_give_88 ?_
          obtain ⟨σ21, eσ21, h⟩ := lt_e h
          refine va_put (ci := 1) (v := .int ((σ20 0 5) + 1)) (ty := .int) (C := RX2) (T := TX2) (N := 6) hx hb hts hinX2 tyX2 tyX2_ok nmX2 hown hK hP hD hS 0 rfl rfl 5 (by decide) fl2 (fun _ h9 => h9) rfl (by decide +kernel) rfl rfl (Nat.le_of_ble_eq_true rfl) dX2_give_89 (fun H locs hP1 hD1 hS => ?_)
          have hP : va_P D vwCl (wdX2 cI cZ cB (mg ad LH adv8) σ21) H := by rw [eσ21]; exact hP1
          have hD : va_D A (wdX2 cI cZ cB (mg ad LH adv8) σ21) := D_of (by rfl) hD
          have hfin : σ21 = res.1 := (congrArg Prod.fst (Option.some.inj h)).trans hrf
          exact hR none adv8 _ _ _ _ _ _ rfl (by first | (rw [← hfin]; done) | (rw [← hfin]; rfl)) trivial dX2_give_92 hP hD hS (by omega)
        · have h := ite_t c9 h
          have hfin : σ6 = res.1 := (congrArg Prod.fst (Option.some.inj h)).trans hrf
          exact hR none adv8 _ _ _ _ _ _ rfl (by first | (rw [← hfin]; done) | (rw [← hfin]; rfl)) trivial dX2_give_26 hP hD hS (by omega)
set_option maxHeartbeats 4000000 in
set_option maxRecDepth 100000 in
theorem mX2_give (l : Launch) (D : va_G) (cI cZ cB : ClassId) (ad : Nat → Nat) (σ : Mem) (sz : Nat) (a1 : Int32) (a2 : Int32) (a3 : Int32) (res : (Mem) × Nat) (h : X2_give a1 a2 a3 σ = some res) : Met l yX2_give wsX2_give (rmX2_give res.2) (pW D cI cZ cB (wdX2 cI cZ cB ad σ) sz [.ref (ad 0), .int a1, .int a2, .int a3]) (qG D none (fun adv => (wdX2 cI cZ cB (mg ad LH adv) res.1)) (va_A (wdX2 cI cZ cB ad σ) sz)) res.2 res.2 (va_A (wdX2 cI cZ cB ad σ) sz) := (bX2_give l D cI cZ cB ad σ a1 a2 a3 res h).metv (by decide +kernel) rfl (Nat.le_of_ble_eq_true rfl)
def rmX3_setStruck : Room := { frames := 1, cells := 0, slots := 0, locals := 21 }
set_option maxHeartbeats 4000000 in
set_option maxRecDepth 100000 in
theorem bX3_setStruck (l : Launch) (D : va_G) (cI cZ cB : ClassId) (ad : Nat → Nat) (σ : Mem) (a1 : Int32) (a2 : Int32) (res : Mem) (h : X3_setStruck a1 a2 σ = some res) : BW l yX3_setStruck wsX3_setStruck rmX3_setStruck cX3_setStruck 3 none D cI cZ cB (wdX3 cI cZ cB ad σ) [.ref (ad 0), .int a1, .int a2] none (wdX3 cI cZ cB ad res) := by
  intro p e s m args below meth c ls Q A hx hb hml hts hown hK hA hP hD hS hl0 hR
  have hinX3 : ∀ w ∈ u_ws RX3 TX3 7, w ∈ wsX3_setStruck := (fun _ h => List.mem_cons_of_mem _ (List.mem_append_right _ h))
  have fl1 := hts (.fieldLink RX3 32 "LawNumberer$Items" "struckSize" "I") (by decide +kernel)
  have fl2 := hts (.fieldLink RX3 21 "LawNumberer$Items" "struck" "[Z") (by decide +kernel)
  have hl : lv_has ls 3 [(0, .ref (ad 0)), (1, .int a1), (2, .int a2)] := hl0
  have n39 : ∀ (y1 : Int32) (y2 : Int32) (σ : Mem) (H : Heap) (locs : List Loc), va_P D vwCl (wdX3 cI cZ cB ad σ) H → va_D A (wdX3 cI cZ cB ad σ) → va_S A s.heap H locs → ∀ (ls : Array Slot), lv_has ls 3 [] → X3_setStruck_39 a1 a2 y1 y2 σ = some res → W p l e rmX3_setStruck s m args below meth c H locs 0 0 Q (F0 m 39 ls [.int y2, .int y1, .ref (ad 0)]) := by
    intro y1 y2 σ H locs hP hD hS ls hl h
    rw [X3_setStruck_39] at h
    refine lv_iadd hx hb dX3_setStruck_39 ?_
    obtain ⟨σ1, eσ1, h⟩ := lt_e h
    refine va_put (ci := 2) (v := .int (y1 + y2)) (ty := .int) (C := RX3) (T := TX3) (N := 7) hx hb hts hinX3 tyX3 tyX3_ok nmX3 hown hK hP hD hS 0 rfl rfl 6 (by decide) fl1 (fun _ h9 => h9) rfl (by decide +kernel) rfl rfl (Nat.le_of_ble_eq_true rfl) dX3_setStruck_40 (fun H locs hP1 hD1 hS => ?_)
    have hP : va_P D vwCl (wdX3 cI cZ cB ad σ1) H := by rw [eσ1]; exact hP1
    have hD : va_D A (wdX3 cI cZ cB ad σ1) := D_of (by rfl) hD
    exact hR none (wdX3 cI cZ cB ad σ1) _ _ _ _ rfl (by rw [← Option.some.inj h]) trivial dX3_setStruck_43 hP hS
  rw [X3_setStruck] at h
  have hS := hS
  refine lv_aload_n hx hb dX3_setStruck_0 rfl (lv_at hl 0 rfl) ?_
  refine lv_iload_n hx hb dX3_setStruck_1 rfl (lv_at hl 1 rfl) ?_
  obtain ⟨r2, hr2, h⟩ := bd_e h
  refine cl_RV (rest := []) (ci := 2) (q0 := 0) ⟨hx, hb, hml, hown, hts⟩ (mX3_has l D cI cZ cB ad σ a1 r2 hr2) (cwV 1 hts gX3_setStruck_X3_has rfl rfl rfl (by decide +kernel) ⟨Nat.le_of_ble_eq_true rfl, Nat.le_of_ble_eq_true rfl⟩) hK hP rfl rfl rfl rfl hl.1 rfl (Nat.le_of_ble_eq_true rfl) dX3_setStruck_2 ⟨Nat.zero_le _, Nat.zero_le _⟩ ?_
  refine W.eq (g2 := F0 m 5 ls [.int r2]) rfl ?_
  refine lv_if_eq (tgt := 43) hx hb dX3_setStruck_5 (by decide) (fun c3 => ?_) (fun c3 => ?_)
  · have h := ite_t c3 h
    exact hR none (wdX3 cI cZ cB ad σ) _ _ _ _ rfl (by rw [← Option.some.inj h]) trivial dX3_setStruck_43 hP hS
  · have h := ite_f c3 h
    refine lv_aload_n hx hb dX3_setStruck_8 rfl (lv_at hl 0 rfl) ?_
    refine va_get (ci := 2) (v := .ref (ad 4)) (C := RX3) (T := TX3) (N := 7) hx hb hts hinX3 hown hK hP 0 rfl rfl 3 (by decide) fl2 (fun _ h9 => h9) rfl dX3_setStruck_9 ?_
    refine lv_iload_n hx hb dX3_setStruck_12 rfl (lv_at hl 1 rfl) ?_
    obtain ⟨hin4, h⟩ := gd_e h
    refine va_zald hx hb hK hP 4 1 rfl rfl hin4 dX3_setStruck_13 ?_
    refine lv_iload_n hx hb dX3_setStruck_14 rfl (lv_at hl 2 rfl) ?_
    refine lv_icmp_eq (tgt := 43) hx hb dX3_setStruck_15 (by decide) (fun c5 => ?_) (fun c5 => ?_)
    · have h := ite_t c5 h
      exact hR none (wdX3 cI cZ cB ad σ) _ _ _ _ rfl (by rw [← Option.some.inj h]) trivial dX3_setStruck_43 hP hS
    · have h := ite_f c5 h
      refine lv_aload_n hx hb dX3_setStruck_18 rfl (lv_at hl 0 rfl) ?_
      refine va_get (ci := 2) (v := .ref (ad 4)) (C := RX3) (T := TX3) (N := 7) hx hb hts hinX3 hown hK hP 0 rfl rfl 3 (by decide) fl2 (fun _ h9 => h9) rfl dX3_setStruck_19 ?_
      refine lv_iload_n hx hb dX3_setStruck_22 rfl (lv_at hl 1 rfl) ?_
      refine lv_iload_n hx hb dX3_setStruck_23 rfl (lv_at hl 2 rfl) ?_
      obtain ⟨hin6, h⟩ := gd_e h
      obtain ⟨σ7, eσ7, h⟩ := lt_e h
      refine va_zast hx hb hK hP hD hS 4 1 rfl rfl hin6 dX3_setStruck_24 (fun H locs hP1 hD1 hS => ?_)
      have hP : va_P D vwCl (wdX3 cI cZ cB ad σ7) H := by rw [eσ7]; exact hP1
      have hD : va_D A (wdX3 cI cZ cB ad σ7) := D_of (by rfl) hD
      refine lv_aload_n hx hb dX3_setStruck_25 rfl (lv_at hl 0 rfl) ?_
      refine lv_dup hx hb dX3_setStruck_26 rfl ?_
      refine va_get (ci := 2) (v := .int (σ7 0 6)) (C := RX3) (T := TX3) (N := 7) hx hb hts hinX3 hown hK hP 0 rfl rfl 6 (by decide) fl1 (fun _ h9 => h9) rfl dX3_setStruck_27 ?_
      refine lv_iload_n hx hb dX3_setStruck_30 rfl (lv_at hl 2 rfl) ?_
      refine lv_if_eq (tgt := 38) hx hb dX3_setStruck_31 (by decide) (fun c8 => ?_) (fun c8 => ?_)
      · have h := ite_t c8 h
        refine lv_iconst (v := (-1)) hx hb dX3_setStruck_38 (by decide) ?_
        exact n39 (σ7 0 6) (-1) σ7 _ _ hP hD hS _ (lv_sub hl [] rfl) h
      · have h := ite_f c8 h
        refine lv_iconst (v := 1) hx hb dX3_setStruck_34 (by decide) ?_
        refine lv_goto (tgt := 39) hx hb dX3_setStruck_35 (by decide) ?_
        exact n39 (σ7 0 6) 1 σ7 _ _ hP hD hS _ (lv_sub hl [] rfl) h
set_option maxHeartbeats 4000000 in
set_option maxRecDepth 100000 in
theorem mX3_setStruck (l : Launch) (D : va_G) (cI cZ cB : ClassId) (ad : Nat → Nat) (σ : Mem) (sz : Nat) (a1 : Int32) (a2 : Int32) (res : Mem) (h : X3_setStruck a1 a2 σ = some res) : Met l yX3_setStruck wsX3_setStruck rmX3_setStruck (pW D cI cZ cB (wdX3 cI cZ cB ad σ) sz [.ref (ad 0), .int a1, .int a2]) (qW D none (wdX3 cI cZ cB ad res) (va_A (wdX3 cI cZ cB ad σ) sz)) 0 0 (va_A (wdX3 cI cZ cB ad σ) sz) := (bX3_setStruck l D cI cZ cB ad σ a1 a2 res h).metv (by decide +kernel) rfl (Nat.le_of_ble_eq_true rfl)
def rmX5_withSuffix : Room := { frames := 1, cells := 0, slots := 0, locals := 23 }
set_option maxHeartbeats 4000000 in
set_option maxRecDepth 100000 in
theorem bX5_withSuffix (l : Launch) (D : va_G) (cI cZ cB : ClassId) (a0 : Int32) (a1 : Int32) (res : Int32) (h : X5_withSuffix a0 a1 = some res) : BR l yX5_withSuffix wsX5_withSuffix rmX5_withSuffix cX5_withSuffix 6 (some .int) D cI cZ cB wd0 [.int a0, .int a1] (some (.int res)) := by
  intro p e s m args below meth c ls Q hx hb hml hts hown hK hP hl0 hR
  have hl : lv_has ls 6 [(0, .int a0), (1, .int a1)] := hl0
  have n14 : ∀ (n : Nat) (x2 : Int32) (x3 : Int32) (x4 : Int32) (ls : Array Slot), lv_has ls 6 [(1, .int a1), (2, .int x2), (3, .int x3), (4, .int x4)] → X5_withSuffix_14 a0 a1 n x2 x3 x4 = some res → W p l e rmX5_withSuffix s m args below meth c s.heap [] 0 0 Q (F0 m 14 ls []) := by
    intro n
    induction n with
    | zero =>
      intro x2 x3 x4 ls hl h
      rw [X5_withSuffix_14] at h
      cases h
    | succ n_14 ih14 =>
      have n41 : ∀ (x2 : Int32) (x3 : Int32) (x4 : Int32) (x5 : Int32) (ls : Array Slot), lv_has ls 6 [(1, .int a1), (2, .int x2), (3, .int x3), (4, .int x4), (5, .int x5)] → X5_withSuffix_41 a0 a1 (X5_withSuffix_14 a0 a1 n_14) x2 x3 x4 x5 = some res → W p l e rmX5_withSuffix s m args below meth c s.heap [] 0 0 Q (F0 m 41 ls []) := by
        intro x2 x3 x4 x5 ls hl h
        rw [X5_withSuffix_41] at h
        refine lv_iload hx hb dX5_withSuffix_41 (lv_at hl 4 rfl) ?_
        refine lv_bipush (v := 65) hx hb dX5_withSuffix_43 (by decide) ?_
        refine lv_icmp_lt (tgt := 55) hx hb dX5_withSuffix_45 (by decide) (fun c1 => ?_) (fun c1 => ?_)
        · have h := ite_t c1 h
          refine lv_iconst (v := 0) hx hb dX5_withSuffix_55 (by decide) ?_
          exact hR (some (.int 0)) _ _ (by rw [← Option.some.inj h]) rfl dX5_withSuffix_56
        · have h := ite_f c1 h
          refine lv_iload hx hb dX5_withSuffix_48 (lv_at hl 4 rfl) ?_
          refine lv_bipush (v := 90) hx hb dX5_withSuffix_50 (by decide) ?_
          refine lv_icmp_le (tgt := 57) hx hb dX5_withSuffix_52 (by decide) (fun c2 => ?_) (fun c2 => ?_)
          · have h := ite_t c2 h
            refine lv_iload_n hx hb dX5_withSuffix_57 rfl (lv_at hl 1 rfl) ?_
            refine lv_iload_n hx hb dX5_withSuffix_58 rfl (lv_at hl 2 rfl) ?_
            refine lv_iload hx hb dX5_withSuffix_59 (lv_at hl 4 rfl) ?_
            refine lv_bipush (v := 64) hx hb dX5_withSuffix_61 (by decide) ?_
            refine lv_isub hx hb dX5_withSuffix_63 ?_
            obtain ⟨r3, hr3, h⟩ := bd_e h
            refine cl_RS (rest := []) ⟨hx, hb, hml, hown, hts⟩ (mX5_setLetter l D cI cZ cB x2 x3 (x5 - 64) r3 hr3) (va_cwS 3 hts gX5_withSuffix_X5_setLetter rfl rfl rfl (by decide +kernel) ⟨Nat.le_of_ble_eq_true rfl, Nat.le_of_ble_eq_true rfl⟩) hK hP rfl hl.1 rfl (Nat.le_of_ble_eq_true rfl) dX5_withSuffix_64 ⟨Nat.zero_le _, Nat.zero_le _⟩ ?_
            refine W.eq (g2 := F0 m 67 ls [.int r3]) rfl ?_
            refine lv_istore_n (lv' := [(2, .int r3), (1, .int a1), (3, .int x3), (4, .int x4), (5, .int x5)]) hx hb dX5_withSuffix_67 rfl hl (by decide) rfl (fun ls hl => ?_)
            obtain ⟨x3_4, ex3_4, h⟩ := lt_e h
            refine lv_iinc (v := x3_4) (lv' := [(3, .int x3_4), (2, .int r3), (1, .int a1), (4, .int x4), (5, .int x5)]) hx hb dX5_withSuffix_68 hl (k := 2) rfl (by rw [ex3_4]; rfl) (by decide) rfl (fun ls hl => ?_)
            obtain ⟨x4_5, ex4_5, h⟩ := lt_e h
            refine lv_iinc (v := x4_5) (lv' := [(4, .int x4_5), (3, .int x3_4), (2, .int r3), (1, .int a1), (5, .int x5)]) hx hb dX5_withSuffix_71 hl (k := 3) rfl (by rw [ex4_5]; rfl) (by decide) rfl (fun ls hl => ?_)
            refine lv_goto (tgt := 14) hx hb dX5_withSuffix_74 (by decide) ?_
            exact ih14 r3 x3_4 x4_5 _ (lv_sub hl [3, 2, 1, 0] rfl) h
          · have h := ite_f c2 h
            refine lv_iconst (v := 0) hx hb dX5_withSuffix_55 (by decide) ?_
            exact hR (some (.int 0)) _ _ (by rw [← Option.some.inj h]) rfl dX5_withSuffix_56
      intro x2 x3 x4 ls hl h
      rw [X5_withSuffix_14] at h
      refine lv_iload hx hb dX5_withSuffix_14 (lv_at hl 3 rfl) ?_
      refine lv_if_lt (tgt := 77) hx hb dX5_withSuffix_16 (by decide) (fun c6 => ?_) (fun c6 => ?_)
      · have h := ite_t c6 h
        refine lv_iload_n hx hb dX5_withSuffix_77 rfl (lv_at hl 1 rfl) ?_
        exact hR (some (.int x2)) _ _ (by rw [← Option.some.inj h]) rfl dX5_withSuffix_78
      · have h := ite_f c6 h
        refine lv_iload_n hx hb dX5_withSuffix_19 rfl (lv_at hl 0 rfl) ?_
        refine lv_iload hx hb dX5_withSuffix_20 (lv_at hl 3 rfl) ?_
        refine lv_iushr (v := UInt32.toInt32 (Int32.toUInt32 a1 >>> (Int32.toUInt32 x4 &&& Int32.toUInt32 31))) hx hb dX5_withSuffix_22 rfl ?_
        refine lv_sipush (v := 255) hx hb dX5_withSuffix_23 (by decide) ?_
        refine lv_iand hx hb dX5_withSuffix_26 ?_
        obtain ⟨x5_7, ex5_7, h⟩ := lt_e h
        refine lv_topE ex5_7 ?_
        refine lv_istore (lv' := [(5, .int x5_7), (1, .int a1), (2, .int x2), (3, .int x3), (4, .int x4)]) hx hb dX5_withSuffix_27 hl (by decide) rfl (fun ls hl => ?_)
        refine lv_iload hx hb dX5_withSuffix_29 (lv_at hl 0 rfl) ?_
        refine lv_if_ne (tgt := 41) hx hb dX5_withSuffix_31 (by decide) (fun c8 => ?_) (fun c8 => ?_)
        · have h := ite_f c8 h
          exact n41 x2 x3 x4 x5_7 _ (lv_sub hl [1, 2, 3, 4, 0] rfl) h
        · have h := ite_t c8 h
          refine lv_iload_n hx hb dX5_withSuffix_34 rfl (lv_at hl 3 rfl) ?_
          refine lv_if_ne (tgt := 41) hx hb dX5_withSuffix_35 (by decide) (fun c9 => ?_) (fun c9 => ?_)
          · have h := ite_f c9 h
            exact n41 x2 x3 x4 x5_7 _ (lv_sub hl [1, 2, 3, 4, 0] rfl) h
          · have h := ite_t c9 h
            refine lv_goto (tgt := 71) hx hb dX5_withSuffix_38 (by decide) ?_
            obtain ⟨x4_10, ex4_10, h⟩ := lt_e h
            refine lv_iinc (v := x4_10) (lv' := [(4, .int x4_10), (5, .int x5_7), (1, .int a1), (2, .int x2), (3, .int x3)]) hx hb dX5_withSuffix_71 hl (k := 4) rfl (by rw [ex4_10]; rfl) (by decide) rfl (fun ls hl => ?_)
            refine lv_goto (tgt := 14) hx hb dX5_withSuffix_74 (by decide) ?_
            exact ih14 x2 x3 x4_10 _ (lv_sub hl [2, 3, 4, 0] rfl) h
  rw [X5_withSuffix] at h
  refine lv_iload_n hx hb dX5_withSuffix_0 rfl (lv_at hl 0 rfl) ?_
  refine lv_if_ne (tgt := 6) hx hb dX5_withSuffix_1 (by decide) (fun c11 => ?_) (fun c11 => ?_)
  · have h := ite_f c11 h
    refine lv_iload_n hx hb dX5_withSuffix_6 rfl (lv_at hl 0 rfl) ?_
    refine lv_istore_n (lv' := [(2, .int a0), (0, .int a0), (1, .int a1)]) hx hb dX5_withSuffix_7 rfl hl (by decide) rfl (fun ls hl => ?_)
    refine lv_iconst (v := 0) hx hb dX5_withSuffix_8 (by decide) ?_
    refine lv_istore_n (lv' := [(3, .int 0), (2, .int a0), (0, .int a0), (1, .int a1)]) hx hb dX5_withSuffix_9 rfl hl (by decide) rfl (fun ls hl => ?_)
    refine lv_bipush (v := 24) hx hb dX5_withSuffix_10 (by decide) ?_
    refine lv_istore (lv' := [(4, .int 24), (3, .int 0), (2, .int a0), (0, .int a0), (1, .int a1)]) hx hb dX5_withSuffix_12 hl (by decide) rfl (fun ls hl => ?_)
    exact n14 FU a0 0 24 _ (lv_sub hl [4, 2, 1, 0] rfl) h
  · have h := ite_t c11 h
    refine lv_iconst (v := 0) hx hb dX5_withSuffix_4 (by decide) ?_
    exact hR (some (.int 0)) _ _ (by rw [← Option.some.inj h]) rfl dX5_withSuffix_5
set_option maxHeartbeats 4000000 in
set_option maxRecDepth 100000 in
theorem mX5_withSuffix (l : Launch) (D : va_G) (cI cZ cB : ClassId) (a0 : Int32) (a1 : Int32) (res : Int32) (h : X5_withSuffix a0 a1 = some res) : Met l yX5_withSuffix wsX5_withSuffix rmX5_withSuffix (pR D cI cZ cB wd0 [.int a0, .int a1]) (qR (some (.int res))) 0 0 (fun _ => False) := (bX5_withSuffix l D cI cZ cB a0 a1 res h).met (by decide +kernel) rfl (Nat.le_of_ble_eq_true rfl)
def rmX0_latestSlot : Room := { frames := 0, cells := 0, slots := 0, locals := 0 }
set_option maxHeartbeats 4000000 in
set_option maxRecDepth 100000 in
theorem bX0_latestSlot (l : Launch) (D : va_G) (cI cZ cB : ClassId) (ad : Nat → Nat) (σ : Mem) (res : Int32) (h : X0_latestSlot σ = some res) : BR l yX0_latestSlot wsX0_latestSlot rmX0_latestSlot cX0_latestSlot 1 (some .int) D cI cZ cB (wdX0 cI cZ cB ad σ) [.ref (ad 0)] (some (.int res)) := by
  intro p e s m args below meth c ls Q hx hb hml hts hown hK hP hl0 hR
  have hinX0 : ∀ w ∈ u_ws RX0 TX0 5, w ∈ wsX0_latestSlot := (fun _ h => List.mem_cons_of_mem _ (List.mem_append_right _ h))
  have fl1 := hts (.fieldLink RX0 21 "LawNumberer$Acts" "next" "I") (by decide +kernel)
  have hl : lv_has ls 1 [(0, .ref (ad 0))] := hl0
  rw [X0_latestSlot] at h
  refine lv_aload_n hx hb dX0_latestSlot_0 rfl (lv_at hl 0 rfl) ?_
  refine va_get (ci := 0) (v := .int (σ 0 3)) (C := RX0) (T := TX0) (N := 5) hx hb hts hinX0 hown hK hP 0 rfl rfl 3 (by decide) fl1 (fun _ h9 => h9) rfl dX0_latestSlot_1 ?_
  refine lv_if_le (tgt := 16) hx hb dX0_latestSlot_4 (by decide) (fun c1 => ?_) (fun c1 => ?_)
  · have h := ite_t c1 h
    refine lv_bipush (v := 99) hx hb dX0_latestSlot_16 (by decide) ?_
    exact hR (some (.int 99)) _ _ (by rw [← Option.some.inj h]) rfl dX0_latestSlot_18
  · have h := ite_f c1 h
    refine lv_aload_n hx hb dX0_latestSlot_7 rfl (lv_at hl 0 rfl) ?_
    refine va_get (ci := 0) (v := .int (σ 0 3)) (C := RX0) (T := TX0) (N := 5) hx hb hts hinX0 hown hK hP 0 rfl rfl 3 (by decide) fl1 (fun _ h9 => h9) rfl dX0_latestSlot_8 ?_
    refine lv_iconst (v := 1) hx hb dX0_latestSlot_11 (by decide) ?_
    refine lv_isub hx hb dX0_latestSlot_12 ?_
    refine lv_goto (tgt := 18) hx hb dX0_latestSlot_13 (by decide) ?_
    exact hR (some (.int ((σ 0 3) - 1))) _ _ (by rw [← Option.some.inj h]) rfl dX0_latestSlot_18
set_option maxHeartbeats 4000000 in
set_option maxRecDepth 100000 in
theorem mX0_latestSlot (l : Launch) (D : va_G) (cI cZ cB : ClassId) (ad : Nat → Nat) (σ : Mem) (res : Int32) (h : X0_latestSlot σ = some res) : Met l yX0_latestSlot wsX0_latestSlot rmX0_latestSlot (pR D cI cZ cB (wdX0 cI cZ cB ad σ) [.ref (ad 0)]) (qR (some (.int res))) 0 0 (fun _ => False) := (bX0_latestSlot l D cI cZ cB ad σ res h).met (by decide +kernel) rfl (Nat.le_of_ble_eq_true rfl)
def rmX0_latestKind : Room := { frames := 1, cells := 0, slots := 0, locals := 20 }
set_option maxHeartbeats 4000000 in
set_option maxRecDepth 100000 in
theorem bX0_latestKind (l : Launch) (D : va_G) (cI cZ cB : ClassId) (ad : Nat → Nat) (σ : Mem) (res : Int32) (h : X0_latestKind σ = some res) : BR l yX0_latestKind wsX0_latestKind rmX0_latestKind cX0_latestKind 1 (some .int) D cI cZ cB (wdX0 cI cZ cB ad σ) [.ref (ad 0)] (some (.int res)) := by
  intro p e s m args below meth c ls Q hx hb hml hts hown hK hP hl0 hR
  have hinX0 : ∀ w ∈ u_ws RX0 TX0 5, w ∈ wsX0_latestKind := (fun _ h => List.mem_cons_of_mem _ (List.mem_append_right _ h))
  have fl1 := hts (.fieldLink RX0 25 "LawNumberer$Acts" "size" "I") (by decide +kernel)
  have fl2 := hts (.fieldLink RX0 9 "LawNumberer$Acts" "kinds" "[I") (by decide +kernel)
  have hl : lv_has ls 1 [(0, .ref (ad 0))] := hl0
  rw [X0_latestKind] at h
  refine lv_aload_n hx hb dX0_latestKind_0 rfl (lv_at hl 0 rfl) ?_
  refine va_get (ci := 0) (v := .int (σ 0 4)) (C := RX0) (T := TX0) (N := 5) hx hb hts hinX0 hown hK hP 0 rfl rfl 4 (by decide) fl1 (fun _ h9 => h9) rfl dX0_latestKind_1 ?_
  refine lv_if_le (tgt := 19) hx hb dX0_latestKind_4 (by decide) (fun c1 => ?_) (fun c1 => ?_)
  · have h := ite_t c1 h
    refine lv_iconst (v := (-1)) hx hb dX0_latestKind_19 (by decide) ?_
    exact hR (some (.int (-1))) _ _ (by rw [← Option.some.inj h]) rfl dX0_latestKind_20
  · have h := ite_f c1 h
    refine lv_aload_n hx hb dX0_latestKind_7 rfl (lv_at hl 0 rfl) ?_
    refine va_get (ci := 0) (v := .ref (ad 1)) (C := RX0) (T := TX0) (N := 5) hx hb hts hinX0 hown hK hP 0 rfl rfl 0 (by decide) fl2 (fun _ h9 => h9) rfl dX0_latestKind_8 ?_
    refine lv_aload_n hx hb dX0_latestKind_11 rfl (lv_at hl 0 rfl) ?_
    obtain ⟨r2, hr2, h⟩ := bd_e h
    refine cl_RV (rest := [.ref (ad 1)]) (ci := 0) (q0 := 0) ⟨hx, hb, hml, hown, hts⟩ (mX0_latestSlot l D cI cZ cB ad σ r2 hr2) (cwV 0 hts gX0_latestKind_X0_latestSlot rfl rfl rfl (by decide +kernel) ⟨Nat.le_of_ble_eq_true rfl, Nat.le_of_ble_eq_true rfl⟩) hK hP rfl rfl rfl rfl hl.1 rfl (Nat.le_of_ble_eq_true rfl) dX0_latestKind_12 ⟨Nat.zero_le _, Nat.zero_le _⟩ ?_
    refine W.eq (g2 := F0 m 15 ls [.int r2, .ref (ad 1)]) rfl ?_
    obtain ⟨hin3, h⟩ := gd_e h
    refine va_iald hx hb hK hP 1 0 rfl rfl hin3 dX0_latestKind_15 ?_
    refine lv_goto (tgt := 20) hx hb dX0_latestKind_16 (by decide) ?_
    exact hR (some (.int (σ 1 (Int32.toNatClampNeg r2)))) _ _ (by rw [← Option.some.inj h]) rfl dX0_latestKind_20
set_option maxHeartbeats 4000000 in
set_option maxRecDepth 100000 in
theorem mX0_latestKind (l : Launch) (D : va_G) (cI cZ cB : ClassId) (ad : Nat → Nat) (σ : Mem) (res : Int32) (h : X0_latestKind σ = some res) : Met l yX0_latestKind wsX0_latestKind rmX0_latestKind (pR D cI cZ cB (wdX0 cI cZ cB ad σ) [.ref (ad 0)]) (qR (some (.int res))) 0 0 (fun _ => False) := (bX0_latestKind l D cI cZ cB ad σ res h).met (by decide +kernel) rfl (Nat.le_of_ble_eq_true rfl)
def rmX0_latestMark : Room := { frames := 1, cells := 0, slots := 0, locals := 20 }
set_option maxHeartbeats 4000000 in
set_option maxRecDepth 100000 in
theorem bX0_latestMark (l : Launch) (D : va_G) (cI cZ cB : ClassId) (ad : Nat → Nat) (σ : Mem) (res : Int32) (h : X0_latestMark σ = some res) : BR l yX0_latestMark wsX0_latestMark rmX0_latestMark cX0_latestMark 1 (some .int) D cI cZ cB (wdX0 cI cZ cB ad σ) [.ref (ad 0)] (some (.int res)) := by
  intro p e s m args below meth c ls Q hx hb hml hts hown hK hP hl0 hR
  have hinX0 : ∀ w ∈ u_ws RX0 TX0 5, w ∈ wsX0_latestMark := (fun _ h => List.mem_cons_of_mem _ (List.mem_append_right _ h))
  have fl1 := hts (.fieldLink RX0 18 "LawNumberer$Acts" "marks" "[I") (by decide +kernel)
  have hl : lv_has ls 1 [(0, .ref (ad 0))] := hl0
  rw [X0_latestMark] at h
  refine lv_aload_n hx hb dX0_latestMark_0 rfl (lv_at hl 0 rfl) ?_
  refine va_get (ci := 0) (v := .ref (ad 3)) (C := RX0) (T := TX0) (N := 5) hx hb hts hinX0 hown hK hP 0 rfl rfl 2 (by decide) fl1 (fun _ h9 => h9) rfl dX0_latestMark_1 ?_
  refine lv_aload_n hx hb dX0_latestMark_4 rfl (lv_at hl 0 rfl) ?_
  obtain ⟨r1, hr1, h⟩ := bd_e h
  refine cl_RV (rest := [.ref (ad 3)]) (ci := 0) (q0 := 0) ⟨hx, hb, hml, hown, hts⟩ (mX0_latestSlot l D cI cZ cB ad σ r1 hr1) (cwV 0 hts gX0_latestMark_X0_latestSlot rfl rfl rfl (by decide +kernel) ⟨Nat.le_of_ble_eq_true rfl, Nat.le_of_ble_eq_true rfl⟩) hK hP rfl rfl rfl rfl hl.1 rfl (Nat.le_of_ble_eq_true rfl) dX0_latestMark_5 ⟨Nat.zero_le _, Nat.zero_le _⟩ ?_
  refine W.eq (g2 := F0 m 8 ls [.int r1, .ref (ad 3)]) rfl ?_
  obtain ⟨hin2, h⟩ := gd_e h
  refine va_iald hx hb hK hP 3 0 rfl rfl hin2 dX0_latestMark_8 ?_
  exact hR (some (.int (σ 3 (Int32.toNatClampNeg r1)))) _ _ (by rw [← Option.some.inj h]) rfl dX0_latestMark_9
set_option maxHeartbeats 4000000 in
set_option maxRecDepth 100000 in
theorem mX0_latestMark (l : Launch) (D : va_G) (cI cZ cB : ClassId) (ad : Nat → Nat) (σ : Mem) (res : Int32) (h : X0_latestMark σ = some res) : Met l yX0_latestMark wsX0_latestMark rmX0_latestMark (pR D cI cZ cB (wdX0 cI cZ cB ad σ) [.ref (ad 0)]) (qR (some (.int res))) 0 0 (fun _ => False) := (bX0_latestMark l D cI cZ cB ad σ res h).met (by decide +kernel) rfl (Nat.le_of_ble_eq_true rfl)
def rmX2_cutTo : Room := { frames := 0, cells := 0, slots := 0, locals := 0 }
set_option maxHeartbeats 4000000 in
set_option maxRecDepth 100000 in
theorem bX2_cutTo (l : Launch) (D : va_G) (cI cZ cB : ClassId) (ad : Nat → Nat) (σ : Mem) (a1 : Int32) (res : Mem) (h : X2_cutTo a1 σ = some res) : BW l yX2_cutTo wsX2_cutTo rmX2_cutTo cX2_cutTo 2 none D cI cZ cB (wdX2 cI cZ cB ad σ) [.ref (ad 0), .int a1] none (wdX2 cI cZ cB ad res) := by
  intro p e s m args below meth c ls Q A hx hb hml hts hown hK hA hP hD hS hl0 hR
  have hinX2 : ∀ w ∈ u_ws RX2 TX2 6, w ∈ wsX2_cutTo := (fun _ h => List.mem_cons_of_mem _ (List.mem_append_right _ h))
  have fl1 := hts (.fieldLink RX2 33 "LawNumberer$History" "size" "I") (by decide +kernel)
  have fl2 := hts (.fieldLink RX2 24 "LawNumberer$History" "last" "[I") (by decide +kernel)
  have fl3 := hts (.fieldLink RX2 11 "LawNumberer$History" "givenTo" "[I") (by decide +kernel)
  have fl4 := hts (.fieldLink RX2 21 "LawNumberer$History" "earlier" "[I") (by decide +kernel)
  have hl : lv_has ls 2 [(0, .ref (ad 0)), (1, .int a1)] := hl0
  have n0 : ∀ (n : Nat) (σ : Mem) (H : Heap) (locs : List Loc), va_P D vwCl (wdX2 cI cZ cB ad σ) H → va_D A (wdX2 cI cZ cB ad σ) → va_S A s.heap H locs → ∀ (ls : Array Slot), lv_has ls 2 [(0, .ref (ad 0)), (1, .int a1)] → X2_cutTo_0 a1 n σ = some res → W p l e rmX2_cutTo s m args below meth c H locs 0 0 Q (F0 m 0 ls []) := by
    intro n
    induction n with
    | zero =>
      intro σ H locs hP hD hS ls hl h
      rw [X2_cutTo_0] at h
      cases h
    | succ n_0 ih0 =>
      intro σ H locs hP hD hS ls hl h
      rw [X2_cutTo_0] at h
      refine lv_aload_n hx hb dX2_cutTo_0 rfl (lv_at hl 0 rfl) ?_
      refine va_get (ci := 1) (v := .int (σ 0 5)) (C := RX2) (T := TX2) (N := 6) hx hb hts hinX2 hown hK hP 0 rfl rfl 5 (by decide) fl1 (fun _ h9 => h9) rfl dX2_cutTo_1 ?_
      refine lv_iload_n hx hb dX2_cutTo_4 rfl (lv_at hl 1 rfl) ?_
      refine lv_icmp_le (tgt := 51) hx hb dX2_cutTo_5 (by decide) (fun c1 => ?_) (fun c1 => ?_)
      · have h := ite_t c1 h
        exact hR none (wdX2 cI cZ cB ad σ) _ _ _ _ rfl (by rw [← Option.some.inj h]) trivial dX2_cutTo_51 hP hS
      · have h := ite_f c1 h
        refine lv_aload_n hx hb dX2_cutTo_8 rfl (lv_at hl 0 rfl) ?_
        refine va_get (ci := 1) (v := .int (σ 0 5)) (C := RX2) (T := TX2) (N := 6) hx hb hts hinX2 hown hK hP 0 rfl rfl 5 (by decide) fl1 (fun _ h9 => h9) rfl dX2_cutTo_9 ?_
        refine lv_if_le (tgt := 51) hx hb dX2_cutTo_12 (by decide) (fun c2 => ?_) (fun c2 => ?_)
        · have h := ite_t c2 h
          exact hR none (wdX2 cI cZ cB ad σ) _ _ _ _ rfl (by rw [← Option.some.inj h]) trivial dX2_cutTo_51 hP hS
        · have h := ite_f c2 h
          refine lv_aload_n hx hb dX2_cutTo_15 rfl (lv_at hl 0 rfl) ?_
          refine lv_dup hx hb dX2_cutTo_16 rfl ?_
          refine va_get (ci := 1) (v := .int (σ 0 5)) (C := RX2) (T := TX2) (N := 6) hx hb hts hinX2 hown hK hP 0 rfl rfl 5 (by decide) fl1 (fun _ h9 => h9) rfl dX2_cutTo_17 ?_
          refine lv_iconst (v := 1) hx hb dX2_cutTo_20 (by decide) ?_
          refine lv_isub hx hb dX2_cutTo_21 ?_
          obtain ⟨σ3, eσ3, h⟩ := lt_e h
          refine va_put (ci := 1) (v := .int ((σ 0 5) - 1)) (ty := .int) (C := RX2) (T := TX2) (N := 6) hx hb hts hinX2 tyX2 tyX2_ok nmX2 hown hK hP hD hS 0 rfl rfl 5 (by decide) fl1 (fun _ h9 => h9) rfl (by decide +kernel) rfl rfl (Nat.le_of_ble_eq_true rfl) dX2_cutTo_22 (fun H locs hP1 hD1 hS => ?_)
          have hP : va_P D vwCl (wdX2 cI cZ cB ad σ3) H := by rw [eσ3]; exact hP1
          have hD : va_D A (wdX2 cI cZ cB ad σ3) := D_of (by rfl) hD
          refine lv_aload_n hx hb dX2_cutTo_25 rfl (lv_at hl 0 rfl) ?_
          refine va_get (ci := 1) (v := .ref (ad 5)) (C := RX2) (T := TX2) (N := 6) hx hb hts hinX2 hown hK hP 0 rfl rfl 4 (by decide) fl2 (fun _ h9 => h9) rfl dX2_cutTo_26 ?_
          refine lv_aload_n hx hb dX2_cutTo_29 rfl (lv_at hl 0 rfl) ?_
          refine va_get (ci := 1) (v := .ref (ad 1)) (C := RX2) (T := TX2) (N := 6) hx hb hts hinX2 hown hK hP 0 rfl rfl 0 (by decide) fl3 (fun _ h9 => h9) rfl dX2_cutTo_30 ?_
          refine lv_aload_n hx hb dX2_cutTo_33 rfl (lv_at hl 0 rfl) ?_
          refine va_get (ci := 1) (v := .int (σ3 0 5)) (C := RX2) (T := TX2) (N := 6) hx hb hts hinX2 hown hK hP 0 rfl rfl 5 (by decide) fl1 (fun _ h9 => h9) rfl dX2_cutTo_34 ?_
          obtain ⟨hin4, h⟩ := gd_e h
          refine va_iald hx hb hK hP 1 0 rfl rfl hin4 dX2_cutTo_37 ?_
          refine lv_aload_n hx hb dX2_cutTo_38 rfl (lv_at hl 0 rfl) ?_
          refine va_get (ci := 1) (v := .ref (ad 4)) (C := RX2) (T := TX2) (N := 6) hx hb hts hinX2 hown hK hP 0 rfl rfl 3 (by decide) fl4 (fun _ h9 => h9) rfl dX2_cutTo_39 ?_
          refine lv_aload_n hx hb dX2_cutTo_42 rfl (lv_at hl 0 rfl) ?_
          refine va_get (ci := 1) (v := .int (σ3 0 5)) (C := RX2) (T := TX2) (N := 6) hx hb hts hinX2 hown hK hP 0 rfl rfl 5 (by decide) fl1 (fun _ h9 => h9) rfl dX2_cutTo_43 ?_
          obtain ⟨hin5, h⟩ := gd_e h
          refine va_iald hx hb hK hP 4 0 rfl rfl hin5 dX2_cutTo_46 ?_
          obtain ⟨hin6, h⟩ := gd_e h
          obtain ⟨σ7, eσ7, h⟩ := lt_e h
          refine va_iast hx hb hK hP hD hS 5 0 rfl rfl hin6 dX2_cutTo_47 (fun H locs hP1 hD1 hS => ?_)
          have hP : va_P D vwCl (wdX2 cI cZ cB ad σ7) H := by rw [eσ7]; exact hP1
          have hD : va_D A (wdX2 cI cZ cB ad σ7) := D_of (by rfl) hD
          refine lv_goto (tgt := 0) hx hb dX2_cutTo_48 (by decide) ?_
          exact ih0 σ7 _ _ hP hD hS _ (lv_sub hl [0, 1] rfl) h
  rw [X2_cutTo] at h
  have hS := hS
  exact n0 FU σ _ _ hP hD hS _ (lv_sub hl [0, 1] rfl) h
set_option maxHeartbeats 4000000 in
set_option maxRecDepth 100000 in
theorem mX2_cutTo (l : Launch) (D : va_G) (cI cZ cB : ClassId) (ad : Nat → Nat) (σ : Mem) (sz : Nat) (a1 : Int32) (res : Mem) (h : X2_cutTo a1 σ = some res) : Met l yX2_cutTo wsX2_cutTo rmX2_cutTo (pW D cI cZ cB (wdX2 cI cZ cB ad σ) sz [.ref (ad 0), .int a1]) (qW D none (wdX2 cI cZ cB ad res) (va_A (wdX2 cI cZ cB ad σ) sz)) 0 0 (va_A (wdX2 cI cZ cB ad σ) sz) := (bX2_cutTo l D cI cZ cB ad σ a1 res h).metv (by decide +kernel) rfl (Nat.le_of_ble_eq_true rfl)
def rmX3_dropLast : Room := { frames := 1, cells := 0, slots := 0, locals := 40 }
set_option maxHeartbeats 4000000 in
set_option maxRecDepth 100000 in
theorem bX3_dropLast (l : Launch) (D : va_G) (cI cZ cB : ClassId) (ad : Nat → Nat) (σ : Mem) (res : Mem) (h : X3_dropLast σ = some res) : BW l yX3_dropLast wsX3_dropLast rmX3_dropLast cX3_dropLast 2 none D cI cZ cB (wdX3 cI cZ cB ad σ) [.ref (ad 0)] none (wdX3 cI cZ cB ad res) := by
  intro p e s m args below meth c ls Q A hx hb hml hts hown hK hA hP hD hS hl0 hR
  have hinX3 : ∀ w ∈ u_ws RX3 TX3 7, w ∈ wsX3_dropLast := (fun _ h => List.mem_cons_of_mem _ (List.mem_append_right _ h))
  have fl1 := hts (.fieldLink RX3 28 "LawNumberer$Items" "size" "I") (by decide +kernel)
  have fl2 := hts (.fieldLink RX3 25 "LawNumberer$Items" "order" "[I") (by decide +kernel)
  have fl3 := hts (.methodLink RX3 47 arraycopyName) (by decide +kernel)
  have fl4 := hts (.native arraycopyName) (by decide +kernel)
  have fl5 := hts (.static arraycopyName) (by decide +kernel)
  have fl6 := hts (.initialized "java/lang/System") (by decide +kernel)
  have hl : lv_has ls 2 [(0, .ref (ad 0))] := hl0
  rw [X3_dropLast] at h
  have hS := hS
  refine lv_aload_n hx hb dX3_dropLast_0 rfl (lv_at hl 0 rfl) ?_
  refine lv_aload_n hx hb dX3_dropLast_1 rfl (lv_at hl 0 rfl) ?_
  refine va_get (ci := 2) (v := .int (σ 0 5)) (C := RX3) (T := TX3) (N := 7) hx hb hts hinX3 hown hK hP 0 rfl rfl 5 (by decide) fl1 (fun _ h9 => h9) rfl dX3_dropLast_2 ?_
  refine lv_iconst (v := 1) hx hb dX3_dropLast_5 (by decide) ?_
  refine lv_isub hx hb dX3_dropLast_6 ?_
  obtain ⟨r1, hr1, h⟩ := bd_e h
  refine cl_RV (rest := []) (ci := 2) (q0 := 0) ⟨hx, hb, hml, hown, hts⟩ (mX3_placeOf l D cI cZ cB ad σ ((σ 0 5) - 1) r1 hr1) (cwV 1 hts gX3_dropLast_X3_placeOf rfl rfl rfl (by decide +kernel) ⟨Nat.le_of_ble_eq_true rfl, Nat.le_of_ble_eq_true rfl⟩) hK hP rfl rfl rfl rfl hl.1 rfl (Nat.le_of_ble_eq_true rfl) dX3_dropLast_7 ⟨Nat.zero_le _, Nat.zero_le _⟩ ?_
  refine W.eq (g2 := F0 m 10 ls [.int r1]) rfl ?_
  refine lv_istore_n (lv' := [(1, .int r1), (0, .ref (ad 0))]) hx hb dX3_dropLast_10 rfl hl (by decide) rfl (fun ls hl => ?_)
  refine lv_iload_n hx hb dX3_dropLast_11 rfl (lv_at hl 0 rfl) ?_
  refine lv_iconst (v := (-1)) hx hb dX3_dropLast_12 (by decide) ?_
  refine lv_icmp_ne (tgt := 17) hx hb dX3_dropLast_13 (by decide) (fun c2 => ?_) (fun c2 => ?_)
  · have h := ite_f c2 h
    refine lv_aload_n hx hb dX3_dropLast_17 rfl (lv_at hl 1 rfl) ?_
    refine va_get (ci := 2) (v := .ref (ad 5)) (C := RX3) (T := TX3) (N := 7) hx hb hts hinX3 hown hK hP 0 rfl rfl 4 (by decide) fl2 (fun _ h9 => h9) rfl dX3_dropLast_18 ?_
    refine lv_iload_n hx hb dX3_dropLast_21 rfl (lv_at hl 0 rfl) ?_
    refine lv_iconst (v := 1) hx hb dX3_dropLast_22 (by decide) ?_
    refine lv_iadd hx hb dX3_dropLast_23 ?_
    refine lv_aload_n hx hb dX3_dropLast_24 rfl (lv_at hl 1 rfl) ?_
    refine va_get (ci := 2) (v := .ref (ad 5)) (C := RX3) (T := TX3) (N := 7) hx hb hts hinX3 hown hK hP 0 rfl rfl 4 (by decide) fl2 (fun _ h9 => h9) rfl dX3_dropLast_25 ?_
    refine lv_iload_n hx hb dX3_dropLast_28 rfl (lv_at hl 0 rfl) ?_
    refine lv_aload_n hx hb dX3_dropLast_29 rfl (lv_at hl 1 rfl) ?_
    refine va_get (ci := 2) (v := .int (σ 0 5)) (C := RX3) (T := TX3) (N := 7) hx hb hts hinX3 hown hK hP 0 rfl rfl 5 (by decide) fl1 (fun _ h9 => h9) rfl dX3_dropLast_30 ?_
    refine lv_iload_n hx hb dX3_dropLast_33 rfl (lv_at hl 0 rfl) ?_
    refine lv_isub hx hb dX3_dropLast_34 ?_
    refine lv_iconst (v := 1) hx hb dX3_dropLast_35 (by decide) ?_
    refine lv_isub hx hb dX3_dropLast_36 ?_
    obtain ⟨⟨⟨hc31, hc32, hc33⟩, hc34, hc35⟩, h⟩ := gp_e h
    obtain ⟨σ4, eσ4, h⟩ := lt_e h
    refine va_copyi hx hb (hml.trans hl.1.symm) hown fl3 fl4 fl5 fl6 hK hP hD hS 5 5 0 0 rfl rfl rfl rfl rfl hc31 hc32 hc33 hc34 hc35 (fun _ _ => rfl) (Nat.le_of_ble_eq_true rfl) (by decide +kernel) dX3_dropLast_37 (fun H locs hP1 hD1 hS => ?_)
    have hP : va_P D vwCl (wdX3 cI cZ cB ad σ4) H := by rw [eσ4]; exact hP1
    have hD : va_D A (wdX3 cI cZ cB ad σ4) := D_of (by rfl) hD
    refine lv_aload_n hx hb dX3_dropLast_40 rfl (lv_at hl 1 rfl) ?_
    refine lv_dup hx hb dX3_dropLast_41 rfl ?_
    refine va_get (ci := 2) (v := .int (σ4 0 5)) (C := RX3) (T := TX3) (N := 7) hx hb hts hinX3 hown hK hP 0 rfl rfl 5 (by decide) fl1 (fun _ h9 => h9) rfl dX3_dropLast_42 ?_
    refine lv_iconst (v := 1) hx hb dX3_dropLast_45 (by decide) ?_
    refine lv_isub hx hb dX3_dropLast_46 ?_
    obtain ⟨σ5, eσ5, h⟩ := lt_e h
    refine va_put (ci := 2) (v := .int ((σ4 0 5) - 1)) (ty := .int) (C := RX3) (T := TX3) (N := 7) hx hb hts hinX3 tyX3 tyX3_ok nmX3 hown hK hP hD hS 0 rfl rfl 5 (by decide) fl1 (fun _ h9 => h9) rfl (by decide +kernel) rfl rfl (Nat.le_of_ble_eq_true rfl) dX3_dropLast_47 (fun H locs hP1 hD1 hS => ?_)
    have hP : va_P D vwCl (wdX3 cI cZ cB ad σ5) H := by rw [eσ5]; exact hP1
    have hD : va_D A (wdX3 cI cZ cB ad σ5) := D_of (by rfl) hD
    exact hR none (wdX3 cI cZ cB ad σ5) _ _ _ _ rfl (by rw [← Option.some.inj h]) trivial dX3_dropLast_50 hP hS
  · have h := ite_t c2 h
    exact hR none (wdX3 cI cZ cB ad σ) _ _ _ _ rfl (by rw [← Option.some.inj h]) trivial dX3_dropLast_16 hP hS
set_option maxHeartbeats 4000000 in
set_option maxRecDepth 100000 in
theorem mX3_dropLast (l : Launch) (D : va_G) (cI cZ cB : ClassId) (ad : Nat → Nat) (σ : Mem) (sz : Nat) (res : Mem) (h : X3_dropLast σ = some res) : Met l yX3_dropLast wsX3_dropLast rmX3_dropLast (pW D cI cZ cB (wdX3 cI cZ cB ad σ) sz [.ref (ad 0)]) (qW D none (wdX3 cI cZ cB ad res) (va_A (wdX3 cI cZ cB ad σ) sz)) 0 0 (va_A (wdX3 cI cZ cB ad σ) sz) := (bX3_dropLast l D cI cZ cB ad σ res h).metv (by decide +kernel) rfl (Nat.le_of_ble_eq_true rfl)
def rmX0_latestItem : Room := { frames := 1, cells := 0, slots := 0, locals := 20 }
set_option maxHeartbeats 4000000 in
set_option maxRecDepth 100000 in
theorem bX0_latestItem (l : Launch) (D : va_G) (cI cZ cB : ClassId) (ad : Nat → Nat) (σ : Mem) (res : Int32) (h : X0_latestItem σ = some res) : BR l yX0_latestItem wsX0_latestItem rmX0_latestItem cX0_latestItem 1 (some .int) D cI cZ cB (wdX0 cI cZ cB ad σ) [.ref (ad 0)] (some (.int res)) := by
  intro p e s m args below meth c ls Q hx hb hml hts hown hK hP hl0 hR
  have hinX0 : ∀ w ∈ u_ws RX0 TX0 5, w ∈ wsX0_latestItem := (fun _ h => List.mem_cons_of_mem _ (List.mem_append_right _ h))
  have fl1 := hts (.fieldLink RX0 15 "LawNumberer$Acts" "actItems" "[I") (by decide +kernel)
  have hl : lv_has ls 1 [(0, .ref (ad 0))] := hl0
  rw [X0_latestItem] at h
  refine lv_aload_n hx hb dX0_latestItem_0 rfl (lv_at hl 0 rfl) ?_
  refine va_get (ci := 0) (v := .ref (ad 2)) (C := RX0) (T := TX0) (N := 5) hx hb hts hinX0 hown hK hP 0 rfl rfl 1 (by decide) fl1 (fun _ h9 => h9) rfl dX0_latestItem_1 ?_
  refine lv_aload_n hx hb dX0_latestItem_4 rfl (lv_at hl 0 rfl) ?_
  obtain ⟨r1, hr1, h⟩ := bd_e h
  refine cl_RV (rest := [.ref (ad 2)]) (ci := 0) (q0 := 0) ⟨hx, hb, hml, hown, hts⟩ (mX0_latestSlot l D cI cZ cB ad σ r1 hr1) (cwV 0 hts gX0_latestItem_X0_latestSlot rfl rfl rfl (by decide +kernel) ⟨Nat.le_of_ble_eq_true rfl, Nat.le_of_ble_eq_true rfl⟩) hK hP rfl rfl rfl rfl hl.1 rfl (Nat.le_of_ble_eq_true rfl) dX0_latestItem_5 ⟨Nat.zero_le _, Nat.zero_le _⟩ ?_
  refine W.eq (g2 := F0 m 8 ls [.int r1, .ref (ad 2)]) rfl ?_
  obtain ⟨hin2, h⟩ := gd_e h
  refine va_iald hx hb hK hP 2 0 rfl rfl hin2 dX0_latestItem_8 ?_
  exact hR (some (.int (σ 2 (Int32.toNatClampNeg r1)))) _ _ (by rw [← Option.some.inj h]) rfl dX0_latestItem_9
set_option maxHeartbeats 4000000 in
set_option maxRecDepth 100000 in
theorem mX0_latestItem (l : Launch) (D : va_G) (cI cZ cB : ClassId) (ad : Nat → Nat) (σ : Mem) (res : Int32) (h : X0_latestItem σ = some res) : Met l yX0_latestItem wsX0_latestItem rmX0_latestItem (pR D cI cZ cB (wdX0 cI cZ cB ad σ) [.ref (ad 0)]) (qR (some (.int res))) 0 0 (fun _ => False) := (bX0_latestItem l D cI cZ cB ad σ res h).met (by decide +kernel) rfl (Nat.le_of_ble_eq_true rfl)
def rmX0_close : Room := { frames := 1, cells := 0, slots := 0, locals := 20 }
set_option maxHeartbeats 4000000 in
set_option maxRecDepth 100000 in
theorem bX0_close (l : Launch) (D : va_G) (cI cZ cB : ClassId) (ad : Nat → Nat) (σ : Mem) (res : Mem) (h : X0_close σ = some res) : BW l yX0_close wsX0_close rmX0_close cX0_close 1 none D cI cZ cB (wdX0 cI cZ cB ad σ) [.ref (ad 0)] none (wdX0 cI cZ cB ad res) := by
  intro p e s m args below meth c ls Q A hx hb hml hts hown hK hA hP hD hS hl0 hR
  have hinX0 : ∀ w ∈ u_ws RX0 TX0 5, w ∈ wsX0_close := (fun _ h => List.mem_cons_of_mem _ (List.mem_append_right _ h))
  have fl1 := hts (.fieldLink RX0 25 "LawNumberer$Acts" "size" "I") (by decide +kernel)
  have fl2 := hts (.fieldLink RX0 21 "LawNumberer$Acts" "next" "I") (by decide +kernel)
  have hl : lv_has ls 1 [(0, .ref (ad 0))] := hl0
  rw [X0_close] at h
  have hS := hS
  refine lv_aload_n hx hb dX0_close_0 rfl (lv_at hl 0 rfl) ?_
  refine va_get (ci := 0) (v := .int (σ 0 4)) (C := RX0) (T := TX0) (N := 5) hx hb hts hinX0 hown hK hP 0 rfl rfl 4 (by decide) fl1 (fun _ h9 => h9) rfl dX0_close_1 ?_
  refine lv_if_le (tgt := 25) hx hb dX0_close_4 (by decide) (fun c1 => ?_) (fun c1 => ?_)
  · have h := ite_t c1 h
    exact hR none (wdX0 cI cZ cB ad σ) _ _ _ _ rfl (by rw [← Option.some.inj h]) trivial dX0_close_25 hP hS
  · have h := ite_f c1 h
    refine lv_aload_n hx hb dX0_close_7 rfl (lv_at hl 0 rfl) ?_
    refine lv_aload_n hx hb dX0_close_8 rfl (lv_at hl 0 rfl) ?_
    obtain ⟨r2, hr2, h⟩ := bd_e h
    refine cl_RV (rest := [.ref (ad 0)]) (ci := 0) (q0 := 0) ⟨hx, hb, hml, hown, hts⟩ (mX0_latestSlot l D cI cZ cB ad σ r2 hr2) (cwV 0 hts gX0_close_X0_latestSlot rfl rfl rfl (by decide +kernel) ⟨Nat.le_of_ble_eq_true rfl, Nat.le_of_ble_eq_true rfl⟩) hK hP rfl rfl rfl rfl hl.1 rfl (Nat.le_of_ble_eq_true rfl) dX0_close_9 ⟨Nat.zero_le _, Nat.zero_le _⟩ ?_
    refine W.eq (g2 := F0 m 12 ls [.int r2, .ref (ad 0)]) rfl ?_
    obtain ⟨σ3, eσ3, h⟩ := lt_e h
    refine va_put (ci := 0) (v := .int r2) (ty := .int) (C := RX0) (T := TX0) (N := 5) hx hb hts hinX0 tyX0 tyX0_ok nmX0 hown hK hP hD hS 0 rfl rfl 3 (by decide) fl2 (fun _ h9 => h9) rfl (by decide +kernel) rfl rfl (Nat.le_of_ble_eq_true rfl) dX0_close_12 (fun H locs hP1 hD1 hS => ?_)
    have hP : va_P D vwCl (wdX0 cI cZ cB ad σ3) H := by rw [eσ3]; exact hP1
    have hD : va_D A (wdX0 cI cZ cB ad σ3) := D_of (by rfl) hD
    refine lv_aload_n hx hb dX0_close_15 rfl (lv_at hl 0 rfl) ?_
    refine lv_dup hx hb dX0_close_16 rfl ?_
    refine va_get (ci := 0) (v := .int (σ3 0 4)) (C := RX0) (T := TX0) (N := 5) hx hb hts hinX0 hown hK hP 0 rfl rfl 4 (by decide) fl1 (fun _ h9 => h9) rfl dX0_close_17 ?_
    refine lv_iconst (v := 1) hx hb dX0_close_20 (by decide) ?_
    refine lv_isub hx hb dX0_close_21 ?_
    obtain ⟨σ4, eσ4, h⟩ := lt_e h
    refine va_put (ci := 0) (v := .int ((σ3 0 4) - 1)) (ty := .int) (C := RX0) (T := TX0) (N := 5) hx hb hts hinX0 tyX0 tyX0_ok nmX0 hown hK hP hD hS 0 rfl rfl 4 (by decide) fl1 (fun _ h9 => h9) rfl (by decide +kernel) rfl rfl (Nat.le_of_ble_eq_true rfl) dX0_close_22 (fun H locs hP1 hD1 hS => ?_)
    have hP : va_P D vwCl (wdX0 cI cZ cB ad σ4) H := by rw [eσ4]; exact hP1
    have hD : va_D A (wdX0 cI cZ cB ad σ4) := D_of (by rfl) hD
    exact hR none (wdX0 cI cZ cB ad σ4) _ _ _ _ rfl (by rw [← Option.some.inj h]) trivial dX0_close_25 hP hS
set_option maxHeartbeats 4000000 in
set_option maxRecDepth 100000 in
theorem mX0_close (l : Launch) (D : va_G) (cI cZ cB : ClassId) (ad : Nat → Nat) (σ : Mem) (sz : Nat) (res : Mem) (h : X0_close σ = some res) : Met l yX0_close wsX0_close rmX0_close (pW D cI cZ cB (wdX0 cI cZ cB ad σ) sz [.ref (ad 0)]) (qW D none (wdX0 cI cZ cB ad res) (va_A (wdX0 cI cZ cB ad σ) sz)) 0 0 (va_A (wdX0 cI cZ cB ad σ) sz) := (bX0_close l D cI cZ cB ad σ res h).metv (by decide +kernel) rfl (Nat.le_of_ble_eq_true rfl)
def rmX3_placeInRow : Room := { frames := 2, cells := 0, slots := 0, locals := 45 }
set_option maxHeartbeats 4000000 in
set_option maxRecDepth 100000 in
theorem bX3_placeInRow (l : Launch) (D : va_G) (cI cZ cB : ClassId) (ad : Nat → Nat) (σ : Mem) (a1 : Int32) (a2 : Int32) (res : Int32) (h : X3_placeInRow a1 a2 σ = some res) : BR l yX3_placeInRow wsX3_placeInRow rmX3_placeInRow cX3_placeInRow 6 (some .int) D cI cZ cB (wdX3 cI cZ cB ad σ) [.ref (ad 0), .int a1, .int a2] (some (.int res)) := by
  intro p e s m args below meth c ls Q hx hb hml hts hown hK hP hl0 hR
  have hinX3 : ∀ w ∈ u_ws RX3 TX3 7, w ∈ wsX3_placeInRow := (fun _ h => List.mem_cons_of_mem _ (List.mem_append_right _ h))
  have fl1 := hts (.fieldLink RX3 25 "LawNumberer$Items" "order" "[I") (by decide +kernel)
  have fl2 := hts (.fieldLink RX3 9 "LawNumberer$Items" "levels" "[I") (by decide +kernel)
  have fl3 := hts (.fieldLink RX3 15 "LawNumberer$Items" "under" "[I") (by decide +kernel)
  have hl : lv_has ls 6 [(0, .ref (ad 0)), (1, .int a1), (2, .int a2)] := hl0
  have n12 : ∀ (n : Nat) (x3 : Int32) (x4 : Int32) (x5 : Int32) (ls : Array Slot), lv_has ls 6 [(0, .ref (ad 0)), (1, .int a1), (2, .int a2), (3, .int x3), (4, .int x4), (5, .int x5)] → X3_placeInRow_12 a1 a2 σ n x3 x4 x5 = some res → W p l e rmX3_placeInRow s m args below meth c s.heap [] 0 0 Q (F0 m 12 ls []) := by
    intro n
    induction n with
    | zero =>
      intro x3 x4 x5 ls hl h
      rw [X3_placeInRow_12] at h
      cases h
    | succ n_12 ih12 =>
      intro x3 x4 x5 ls hl h
      rw [X3_placeInRow_12] at h
      refine lv_iload hx hb dX3_placeInRow_12 (lv_at hl 5 rfl) ?_
      refine lv_iload hx hb dX3_placeInRow_14 (lv_at hl 4 rfl) ?_
      refine lv_icmp_ge (tgt := 55) hx hb dX3_placeInRow_16 (by decide) (fun c1 => ?_) (fun c1 => ?_)
      · have h := ite_t c1 h
        refine lv_iload_n hx hb dX3_placeInRow_55 rfl (lv_at hl 3 rfl) ?_
        exact hR (some (.int x3)) _ _ (by rw [← Option.some.inj h]) rfl dX3_placeInRow_56
      · have h := ite_f c1 h
        refine lv_aload_n hx hb dX3_placeInRow_19 rfl (lv_at hl 0 rfl) ?_
        refine lv_aload_n hx hb dX3_placeInRow_20 rfl (lv_at hl 0 rfl) ?_
        refine va_get (ci := 2) (v := .ref (ad 5)) (C := RX3) (T := TX3) (N := 7) hx hb hts hinX3 hown hK hP 0 rfl rfl 4 (by decide) fl1 (fun _ h9 => h9) rfl dX3_placeInRow_21 ?_
        refine lv_iload hx hb dX3_placeInRow_24 (lv_at hl 5 rfl) ?_
        obtain ⟨hin2, h⟩ := gd_e h
        refine va_iald hx hb hK hP 5 0 rfl rfl hin2 dX3_placeInRow_26 ?_
        refine lv_aload_n hx hb dX3_placeInRow_27 rfl (lv_at hl 0 rfl) ?_
        refine va_get (ci := 2) (v := .ref (ad 1)) (C := RX3) (T := TX3) (N := 7) hx hb hts hinX3 hown hK hP 0 rfl rfl 0 (by decide) fl2 (fun _ h9 => h9) rfl dX3_placeInRow_28 ?_
        refine lv_iload_n hx hb dX3_placeInRow_31 rfl (lv_at hl 1 rfl) ?_
        obtain ⟨hin3, h⟩ := gd_e h
        refine va_iald hx hb hK hP 1 0 rfl rfl hin3 dX3_placeInRow_32 ?_
        refine lv_aload_n hx hb dX3_placeInRow_33 rfl (lv_at hl 0 rfl) ?_
        refine va_get (ci := 2) (v := .ref (ad 2)) (C := RX3) (T := TX3) (N := 7) hx hb hts hinX3 hown hK hP 0 rfl rfl 1 (by decide) fl3 (fun _ h9 => h9) rfl dX3_placeInRow_34 ?_
        refine lv_iload_n hx hb dX3_placeInRow_37 rfl (lv_at hl 1 rfl) ?_
        obtain ⟨hin4, h⟩ := gd_e h
        refine va_iald hx hb hK hP 2 0 rfl rfl hin4 dX3_placeInRow_38 ?_
        refine lv_iload_n hx hb dX3_placeInRow_39 rfl (lv_at hl 2 rfl) ?_
        obtain ⟨r5, hr5, h⟩ := bd_e h
        refine cl_RV (rest := []) (ci := 2) (q0 := 0) ⟨hx, hb, hml, hown, hts⟩ (mX3_isInRow l D cI cZ cB ad σ (σ 5 (Int32.toNatClampNeg x5)) (σ 1 (Int32.toNatClampNeg a1)) (σ 2 (Int32.toNatClampNeg a1)) a2 r5 hr5) (cwV 4 hts gX3_placeInRow_X3_isInRow rfl rfl rfl (by decide +kernel) ⟨Nat.le_of_ble_eq_true rfl, Nat.le_of_ble_eq_true rfl⟩) hK hP rfl rfl rfl rfl hl.1 rfl (Nat.le_of_ble_eq_true rfl) dX3_placeInRow_40 ⟨Nat.zero_le _, Nat.zero_le _⟩ ?_
        refine W.eq (g2 := F0 m 43 ls [.int r5]) rfl ?_
        refine lv_if_eq (tgt := 49) hx hb dX3_placeInRow_43 (by decide) (fun c6 => ?_) (fun c6 => ?_)
        · have h := ite_t c6 h
          obtain ⟨x5_7, ex5_7, h⟩ := lt_e h
          refine lv_iinc (v := x5_7) (lv' := [(5, .int x5_7), (0, .ref (ad 0)), (1, .int a1), (2, .int a2), (3, .int x3), (4, .int x4)]) hx hb dX3_placeInRow_49 hl (k := 5) rfl (by rw [ex5_7]; rfl) (by decide) rfl (fun ls hl => ?_)
          refine lv_goto (tgt := 12) hx hb dX3_placeInRow_52 (by decide) ?_
          exact ih12 x3 x4 x5_7 _ (lv_sub hl [1, 2, 3, 4, 5, 0] rfl) h
        · have h := ite_f c6 h
          obtain ⟨x3_8, ex3_8, h⟩ := lt_e h
          refine lv_iinc (v := x3_8) (lv' := [(3, .int x3_8), (0, .ref (ad 0)), (1, .int a1), (2, .int a2), (4, .int x4), (5, .int x5)]) hx hb dX3_placeInRow_46 hl (k := 3) rfl (by rw [ex3_8]; rfl) (by decide) rfl (fun ls hl => ?_)
          obtain ⟨x5_9, ex5_9, h⟩ := lt_e h
          refine lv_iinc (v := x5_9) (lv' := [(5, .int x5_9), (3, .int x3_8), (0, .ref (ad 0)), (1, .int a1), (2, .int a2), (4, .int x4)]) hx hb dX3_placeInRow_49 hl (k := 5) rfl (by rw [ex5_9]; rfl) (by decide) rfl (fun ls hl => ?_)
          refine lv_goto (tgt := 12) hx hb dX3_placeInRow_52 (by decide) ?_
          exact ih12 x3_8 x4 x5_9 _ (lv_sub hl [2, 3, 4, 1, 5, 0] rfl) h
  rw [X3_placeInRow] at h
  refine lv_iconst (v := 0) hx hb dX3_placeInRow_0 (by decide) ?_
  refine lv_istore_n (lv' := [(3, .int 0), (0, .ref (ad 0)), (1, .int a1), (2, .int a2)]) hx hb dX3_placeInRow_1 rfl hl (by decide) rfl (fun ls hl => ?_)
  refine lv_aload_n hx hb dX3_placeInRow_2 rfl (lv_at hl 1 rfl) ?_
  refine lv_iload_n hx hb dX3_placeInRow_3 rfl (lv_at hl 2 rfl) ?_
  obtain ⟨r10, hr10, h⟩ := bd_e h
  refine cl_RV (rest := []) (ci := 2) (q0 := 0) ⟨hx, hb, hml, hown, hts⟩ (mX3_placeOf l D cI cZ cB ad σ a1 r10 hr10) (cwV 1 hts gX3_placeInRow_X3_placeOf rfl rfl rfl (by decide +kernel) ⟨Nat.le_of_ble_eq_true rfl, Nat.le_of_ble_eq_true rfl⟩) hK hP rfl rfl rfl rfl hl.1 rfl (Nat.le_of_ble_eq_true rfl) dX3_placeInRow_4 ⟨Nat.zero_le _, Nat.zero_le _⟩ ?_
  refine W.eq (g2 := F0 m 7 ls [.int r10]) rfl ?_
  refine lv_istore (lv' := [(4, .int r10), (3, .int 0), (0, .ref (ad 0)), (1, .int a1), (2, .int a2)]) hx hb dX3_placeInRow_7 hl (by decide) rfl (fun ls hl => ?_)
  refine lv_iconst (v := 0) hx hb dX3_placeInRow_9 (by decide) ?_
  refine lv_istore (lv' := [(5, .int 0), (4, .int r10), (3, .int 0), (0, .ref (ad 0)), (1, .int a1), (2, .int a2)]) hx hb dX3_placeInRow_10 hl (by decide) rfl (fun ls hl => ?_)
  exact n12 FU 0 r10 0 _ (lv_sub hl [3, 4, 5, 2, 1, 0] rfl) h
set_option maxHeartbeats 4000000 in
set_option maxRecDepth 100000 in
theorem mX3_placeInRow (l : Launch) (D : va_G) (cI cZ cB : ClassId) (ad : Nat → Nat) (σ : Mem) (a1 : Int32) (a2 : Int32) (res : Int32) (h : X3_placeInRow a1 a2 σ = some res) : Met l yX3_placeInRow wsX3_placeInRow rmX3_placeInRow (pR D cI cZ cB (wdX3 cI cZ cB ad σ) [.ref (ad 0), .int a1, .int a2]) (qR (some (.int res))) 0 0 (fun _ => False) := (bX3_placeInRow l D cI cZ cB ad σ a1 a2 res h).met (by decide +kernel) rfl (Nat.le_of_ble_eq_true rfl)
def rmX2_asOf : Room := { frames := 0, cells := 0, slots := 0, locals := 0 }
set_option maxHeartbeats 4000000 in
set_option maxRecDepth 100000 in
theorem bX2_asOf (l : Launch) (D : va_G) (cI cZ cB : ClassId) (ad : Nat → Nat) (σ : Mem) (a1 : Int32) (a2 : Int32) (res : Int32) (h : X2_asOf a1 a2 σ = some res) : BR l yX2_asOf wsX2_asOf rmX2_asOf cX2_asOf 4 (some .int) D cI cZ cB (wdX2 cI cZ cB ad σ) [.ref (ad 0), .int a1, .int a2] (some (.int res)) := by
  intro p e s m args below meth c ls Q hx hb hml hts hown hK hP hl0 hR
  have hinX2 : ∀ w ∈ u_ws RX2 TX2 6, w ∈ wsX2_asOf := (fun _ h => List.mem_cons_of_mem _ (List.mem_append_right _ h))
  have fl1 := hts (.fieldLink RX2 18 "LawNumberer$History" "labels" "[I") (by decide +kernel)
  have fl2 := hts (.fieldLink RX2 15 "LawNumberer$History" "days" "[I") (by decide +kernel)
  have fl3 := hts (.fieldLink RX2 21 "LawNumberer$History" "earlier" "[I") (by decide +kernel)
  have fl4 := hts (.fieldLink RX2 24 "LawNumberer$History" "last" "[I") (by decide +kernel)
  have hl : lv_has ls 4 [(0, .ref (ad 0)), (1, .int a1), (2, .int a2)] := hl0
  have n59 : ∀ (x3 : Int32) (ls : Array Slot), lv_has ls 4 [(0, .ref (ad 0)), (3, .int x3)] → X2_asOf_59 a1 a2 σ x3 = some res → W p l e rmX2_asOf s m args below meth c s.heap [] 0 0 Q (F0 m 59 ls []) := by
    intro x3 ls hl h
    rw [X2_asOf_59] at h
    refine lv_iload_n hx hb dX2_asOf_59 rfl (lv_at hl 1 rfl) ?_
    refine lv_if_lt (tgt := 72) hx hb dX2_asOf_60 (by decide) (fun c1 => ?_) (fun c1 => ?_)
    · have h := ite_t c1 h
      refine lv_iconst (v := 0) hx hb dX2_asOf_72 (by decide) ?_
      exact hR (some (.int 0)) _ _ (by rw [← Option.some.inj h]) rfl dX2_asOf_73
    · have h := ite_f c1 h
      refine lv_aload_n hx hb dX2_asOf_63 rfl (lv_at hl 0 rfl) ?_
      refine va_get (ci := 1) (v := .ref (ad 3)) (C := RX2) (T := TX2) (N := 6) hx hb hts hinX2 hown hK hP 0 rfl rfl 2 (by decide) fl1 (fun _ h9 => h9) rfl dX2_asOf_64 ?_
      refine lv_iload_n hx hb dX2_asOf_67 rfl (lv_at hl 1 rfl) ?_
      obtain ⟨hin2, h⟩ := gd_e h
      refine va_iald hx hb hK hP 3 0 rfl rfl hin2 dX2_asOf_68 ?_
      refine lv_goto (tgt := 73) hx hb dX2_asOf_69 (by decide) ?_
      exact hR (some (.int (σ 3 (Int32.toNatClampNeg x3)))) _ _ (by rw [← Option.some.inj h]) rfl dX2_asOf_73
  have n21 : ∀ (n : Nat) (x3 : Int32) (ls : Array Slot), lv_has ls 4 [(0, .ref (ad 0)), (2, .int a2), (3, .int x3)] → X2_asOf_21 a1 a2 σ n x3 = some res → W p l e rmX2_asOf s m args below meth c s.heap [] 0 0 Q (F0 m 21 ls []) := by
    intro n
    induction n with
    | zero =>
      intro x3 ls hl h
      rw [X2_asOf_21] at h
      cases h
    | succ n_21 ih21 =>
      intro x3 ls hl h
      rw [X2_asOf_21] at h
      refine lv_iload_n hx hb dX2_asOf_21 rfl (lv_at hl 2 rfl) ?_
      refine lv_if_lt (tgt := 59) hx hb dX2_asOf_22 (by decide) (fun c3 => ?_) (fun c3 => ?_)
      · have h := ite_t c3 h
        exact n59 x3 _ (lv_sub hl [0, 2] rfl) h
      · have h := ite_f c3 h
        refine lv_aload_n hx hb dX2_asOf_25 rfl (lv_at hl 0 rfl) ?_
        refine va_get (ci := 1) (v := .ref (ad 2)) (C := RX2) (T := TX2) (N := 6) hx hb hts hinX2 hown hK hP 0 rfl rfl 1 (by decide) fl2 (fun _ h9 => h9) rfl dX2_asOf_26 ?_
        refine lv_iload_n hx hb dX2_asOf_29 rfl (lv_at hl 2 rfl) ?_
        obtain ⟨hin4, h⟩ := gd_e h
        refine va_iald hx hb hK hP 2 0 rfl rfl hin4 dX2_asOf_30 ?_
        refine lv_iload_n hx hb dX2_asOf_31 rfl (lv_at hl 1 rfl) ?_
        refine lv_icmp_le (tgt := 59) hx hb dX2_asOf_32 (by decide) (fun c5 => ?_) (fun c5 => ?_)
        · have h := ite_t c5 h
          exact n59 x3 _ (lv_sub hl [0, 2] rfl) h
        · have h := ite_f c5 h
          refine lv_aload_n hx hb dX2_asOf_35 rfl (lv_at hl 0 rfl) ?_
          refine va_get (ci := 1) (v := .ref (ad 4)) (C := RX2) (T := TX2) (N := 6) hx hb hts hinX2 hown hK hP 0 rfl rfl 3 (by decide) fl3 (fun _ h9 => h9) rfl dX2_asOf_36 ?_
          refine lv_iload_n hx hb dX2_asOf_39 rfl (lv_at hl 2 rfl) ?_
          obtain ⟨hin6, h⟩ := gd_e h
          refine va_iald hx hb hK hP 4 0 rfl rfl hin6 dX2_asOf_40 ?_
          refine lv_iload_n hx hb dX2_asOf_41 rfl (lv_at hl 2 rfl) ?_
          refine lv_icmp_ge (tgt := 54) hx hb dX2_asOf_42 (by decide) (fun c7 => ?_) (fun c7 => ?_)
          · have h := ite_t c7 h
            refine lv_iconst (v := (-1)) hx hb dX2_asOf_54 (by decide) ?_
            refine lv_istore_n (lv' := [(3, .int (-1)), (0, .ref (ad 0)), (2, .int a2)]) hx hb dX2_asOf_55 rfl hl (by decide) rfl (fun ls hl => ?_)
            refine lv_goto (tgt := 21) hx hb dX2_asOf_56 (by decide) ?_
            exact ih21 (-1) _ (lv_sub hl [1, 2, 0] rfl) h
          · have h := ite_f c7 h
            refine lv_aload_n hx hb dX2_asOf_45 rfl (lv_at hl 0 rfl) ?_
            refine va_get (ci := 1) (v := .ref (ad 4)) (C := RX2) (T := TX2) (N := 6) hx hb hts hinX2 hown hK hP 0 rfl rfl 3 (by decide) fl3 (fun _ h9 => h9) rfl dX2_asOf_46 ?_
            refine lv_iload_n hx hb dX2_asOf_49 rfl (lv_at hl 2 rfl) ?_
            obtain ⟨hin8, h⟩ := gd_e h
            refine va_iald hx hb hK hP 4 0 rfl rfl hin8 dX2_asOf_50 ?_
            refine lv_goto (tgt := 55) hx hb dX2_asOf_51 (by decide) ?_
            obtain ⟨x3_9, ex3_9, h⟩ := lt_e h
            refine lv_topE ex3_9 ?_
            refine lv_istore_n (lv' := [(3, .int x3_9), (0, .ref (ad 0)), (2, .int a2)]) hx hb dX2_asOf_55 rfl hl (by decide) rfl (fun ls hl => ?_)
            refine lv_goto (tgt := 21) hx hb dX2_asOf_56 (by decide) ?_
            exact ih21 x3_9 _ (lv_sub hl [1, 2, 0] rfl) h
  rw [X2_asOf] at h
  refine lv_iload_n hx hb dX2_asOf_0 rfl (lv_at hl 1 rfl) ?_
  refine lv_if_lt (tgt := 19) hx hb dX2_asOf_1 (by decide) (fun c10 => ?_) (fun c10 => ?_)
  · have h := ite_t c10 h
    refine lv_iconst (v := (-1)) hx hb dX2_asOf_19 (by decide) ?_
    refine lv_istore_n (lv' := [(3, .int (-1)), (0, .ref (ad 0)), (1, .int a1), (2, .int a2)]) hx hb dX2_asOf_20 rfl hl (by decide) rfl (fun ls hl => ?_)
    exact n21 FU (-1) _ (lv_sub hl [1, 3, 0] rfl) h
  · have h := ite_f c10 h
    refine lv_iload_n hx hb dX2_asOf_4 rfl (lv_at hl 1 rfl) ?_
    refine lv_bipush (v := 80) hx hb dX2_asOf_5 (by decide) ?_
    refine lv_icmp_ge (tgt := 19) hx hb dX2_asOf_7 (by decide) (fun c11 => ?_) (fun c11 => ?_)
    · have h := ite_t c11 h
      refine lv_iconst (v := (-1)) hx hb dX2_asOf_19 (by decide) ?_
      refine lv_istore_n (lv' := [(3, .int (-1)), (0, .ref (ad 0)), (1, .int a1), (2, .int a2)]) hx hb dX2_asOf_20 rfl hl (by decide) rfl (fun ls hl => ?_)
      exact n21 FU (-1) _ (lv_sub hl [1, 3, 0] rfl) h
    · have h := ite_f c11 h
      refine lv_aload_n hx hb dX2_asOf_10 rfl (lv_at hl 0 rfl) ?_
      refine va_get (ci := 1) (v := .ref (ad 5)) (C := RX2) (T := TX2) (N := 6) hx hb hts hinX2 hown hK hP 0 rfl rfl 4 (by decide) fl4 (fun _ h9 => h9) rfl dX2_asOf_11 ?_
      refine lv_iload_n hx hb dX2_asOf_14 rfl (lv_at hl 1 rfl) ?_
      obtain ⟨hin12, h⟩ := gd_e h
      refine va_iald hx hb hK hP 5 0 rfl rfl hin12 dX2_asOf_15 ?_
      refine lv_goto (tgt := 20) hx hb dX2_asOf_16 (by decide) ?_
      obtain ⟨x3_13, ex3_13, h⟩ := lt_e h
      refine lv_topE ex3_13 ?_
      refine lv_istore_n (lv' := [(3, .int x3_13), (0, .ref (ad 0)), (1, .int a1), (2, .int a2)]) hx hb dX2_asOf_20 rfl hl (by decide) rfl (fun ls hl => ?_)
      exact n21 FU x3_13 _ (lv_sub hl [1, 3, 0] rfl) h
set_option maxHeartbeats 4000000 in
set_option maxRecDepth 100000 in
theorem mX2_asOf (l : Launch) (D : va_G) (cI cZ cB : ClassId) (ad : Nat → Nat) (σ : Mem) (a1 : Int32) (a2 : Int32) (res : Int32) (h : X2_asOf a1 a2 σ = some res) : Met l yX2_asOf wsX2_asOf rmX2_asOf (pR D cI cZ cB (wdX2 cI cZ cB ad σ) [.ref (ad 0), .int a1, .int a2]) (qR (some (.int res))) 0 0 (fun _ => False) := (bX2_asOf l D cI cZ cB ad σ a1 a2 res h).met (by decide +kernel) rfl (Nat.le_of_ble_eq_true rfl)
def rmX6_formOf : Room := { frames := 0, cells := 0, slots := 0, locals := 0 }
set_option maxHeartbeats 4000000 in
set_option maxRecDepth 100000 in
theorem bX6_formOf (l : Launch) (D : va_G) (cI cZ cB : ClassId) (ad : Nat → Nat) (σ : Mem) (a1 : Int32) (res : Int32) (h : X6_formOf a1 σ = some res) : BR l yX6_formOf wsX6_formOf rmX6_formOf cX6_formOf 2 (some .int) D cI cZ cB (wdX6 cI cZ cB ad σ) [.ref (ad 0), .int a1] (some (.int res)) := by
  intro p e s m args below meth c ls Q hx hb hml hts hown hK hP hl0 hR
  have hinX6 : ∀ w ∈ u_ws RX6 TX6 3, w ∈ wsX6_formOf := (fun _ h => List.mem_cons_of_mem _ (List.mem_append_right _ h))
  have fl1 := hts (.fieldLink RX6 19 "LawNumberer$Levels" "size" "I") (by decide +kernel)
  have fl2 := hts (.fieldLink RX6 9 "LawNumberer$Levels" "forms" "[I") (by decide +kernel)
  have hl : lv_has ls 2 [(0, .ref (ad 0)), (1, .int a1)] := hl0
  rw [X6_formOf] at h
  refine lv_iload_n hx hb dX6_formOf_0 rfl (lv_at hl 1 rfl) ?_
  refine lv_if_lt (tgt := 21) hx hb dX6_formOf_1 (by decide) (fun c1 => ?_) (fun c1 => ?_)
  · have h := ite_t c1 h
    refine lv_iconst (v := 0) hx hb dX6_formOf_21 (by decide) ?_
    exact hR (some (.int 0)) _ _ (by rw [← Option.some.inj h]) rfl dX6_formOf_22
  · have h := ite_f c1 h
    refine lv_iload_n hx hb dX6_formOf_4 rfl (lv_at hl 1 rfl) ?_
    refine lv_aload_n hx hb dX6_formOf_5 rfl (lv_at hl 0 rfl) ?_
    refine va_get (ci := 4) (v := .int (σ 0 2)) (C := RX6) (T := TX6) (N := 3) hx hb hts hinX6 hown hK hP 0 rfl rfl 2 (by decide) fl1 (fun _ h9 => h9) rfl dX6_formOf_6 ?_
    refine lv_icmp_ge (tgt := 21) hx hb dX6_formOf_9 (by decide) (fun c2 => ?_) (fun c2 => ?_)
    · have h := ite_t c2 h
      refine lv_iconst (v := 0) hx hb dX6_formOf_21 (by decide) ?_
      exact hR (some (.int 0)) _ _ (by rw [← Option.some.inj h]) rfl dX6_formOf_22
    · have h := ite_f c2 h
      refine lv_aload_n hx hb dX6_formOf_12 rfl (lv_at hl 0 rfl) ?_
      refine va_get (ci := 4) (v := .ref (ad 1)) (C := RX6) (T := TX6) (N := 3) hx hb hts hinX6 hown hK hP 0 rfl rfl 0 (by decide) fl2 (fun _ h9 => h9) rfl dX6_formOf_13 ?_
      refine lv_iload_n hx hb dX6_formOf_16 rfl (lv_at hl 1 rfl) ?_
      obtain ⟨hin3, h⟩ := gd_e h
      refine va_iald hx hb hK hP 1 0 rfl rfl hin3 dX6_formOf_17 ?_
      refine lv_goto (tgt := 22) hx hb dX6_formOf_18 (by decide) ?_
      exact hR (some (.int (σ 1 (Int32.toNatClampNeg a1)))) _ _ (by rw [← Option.some.inj h]) rfl dX6_formOf_22
set_option maxHeartbeats 4000000 in
set_option maxRecDepth 100000 in
theorem mX6_formOf (l : Launch) (D : va_G) (cI cZ cB : ClassId) (ad : Nat → Nat) (σ : Mem) (a1 : Int32) (res : Int32) (h : X6_formOf a1 σ = some res) : Met l yX6_formOf wsX6_formOf rmX6_formOf (pR D cI cZ cB (wdX6 cI cZ cB ad σ) [.ref (ad 0), .int a1]) (qR (some (.int res))) 0 0 (fun _ => False) := (bX6_formOf l D cI cZ cB ad σ a1 res h).met (by decide +kernel) rfl (Nat.le_of_ble_eq_true rfl)
def rmX1_writeRoman : Room := { frames := 1, cells := 0, slots := 0, locals := 21 }
set_option maxHeartbeats 4000000 in
set_option maxRecDepth 100000 in
theorem bX1_writeRoman (K : Nat → Nat) (l : Launch) (D : va_G) (cI cZ cB : ClassId) (ad : Nat → Nat) (σ : Mem) (a1 : Int32) (a2 : Int32) (res : Mem) (h : X1_writeRoman a1 a2 σ = some res) : BWx K l yX1_writeRoman wsX1_writeRoman rmX1_writeRoman cX1_writeRoman 5 none D cI cZ cB (wdX8 cI cZ cB ad σ) [.ref (ad 0), .int a1, .int a2] none (wdX8 cI cZ cB ad res) := by
  intro p e s m args below meth c ls Q A hx hb hml hts hown hX hK hA hP hD hS hl0 hR
  have hX0 := hX
  obtain ⟨⟨hZtS, hTtS, hZtF, hTtF, hZtG, hTtG⟩, ⟨hC1, hC2, hC3⟩, hR1, hR2, hR3, hR4, hR5⟩ := hX0
  have fl1 := hts (.fieldLink RX1 41 "LawNumberer$Forms" "STEPS" "[I") (by decide +kernel)
  have fl2 := hts (.fieldLink RX1 45 "LawNumberer$Forms" "FIRST_SIGNS" "[C") (by decide +kernel)
  have fl3 := hts (.fieldLink RX1 49 "LawNumberer$Forms" "SECOND_SIGNS" "[C") (by decide +kernel)
  have hl : lv_has ls 5 [(0, .ref (ad 0)), (1, .int a1), (2, .int a2)] := hl0
  have n5 : ∀ (n : Nat) (x3 : Int32) (x4 : Int32) (σ : Mem) (H : Heap) (locs : List Loc), va_P D vwCl (wdX8 cI cZ cB ad σ) H → va_D A (wdX8 cI cZ cB ad σ) → va_S A s.heap H locs → ∀ (ls : Array Slot), lv_has ls 5 [(0, .ref (ad 0)), (2, .int a2), (3, .int x3), (4, .int x4)] → X1_writeRoman_5 a1 a2 n x3 x4 σ = some res → W p l e rmX1_writeRoman s m args below meth c H locs 0 0 Q (F0 m 5 ls []) := by
    intro n
    induction n with
    | zero =>
      intro x3 x4 σ H locs hP hD hS ls hl h
      rw [X1_writeRoman_5] at h
      cases h
    | succ n_5 ih5 =>
      have n14 : ∀ (n : Nat) (x3 : Int32) (x4 : Int32) (σ : Mem) (H : Heap) (locs : List Loc), va_P D vwCl (wdX8 cI cZ cB ad σ) H → va_D A (wdX8 cI cZ cB ad σ) → va_S A s.heap H locs → ∀ (ls : Array Slot), lv_has ls 5 [(0, .ref (ad 0)), (2, .int a2), (3, .int x3), (4, .int x4)] → X1_writeRoman_14 a1 a2 (X1_writeRoman_5 a1 a2 n_5) n x3 x4 σ = some res → W p l e rmX1_writeRoman s m args below meth c H locs 0 0 Q (F0 m 14 ls []) := by
        intro n
        induction n with
        | zero =>
          intro x3 x4 σ H locs hP hD hS ls hl h
          rw [X1_writeRoman_14] at h
          cases h
        | succ n_14 ih14 =>
          intro x3 x4 σ H locs hP hD hS ls hl h
          rw [X1_writeRoman_14] at h
          refine lv_iload_n hx hb dX1_writeRoman_14 rfl (lv_at hl 2 rfl) ?_
          refine va_gets hx hb hZtS hS hown fl1 (fun _ h9 => h9) dX1_writeRoman_15 ?_
          refine lv_iload hx hb dX1_writeRoman_18 (lv_at hl 3 rfl) ?_
          obtain ⟨hin1, h⟩ := gd_e h
          refine va_ti (v := .int (fSTEPS (Int32.toNatClampNeg x4))) hx hb hTtS hS hin1 rfl dX1_writeRoman_20 ?_
          refine lv_icmp_lt (tgt := 69) hx hb dX1_writeRoman_21 (by decide) (fun c2 => ?_) (fun c2 => ?_)
          · have h := ite_t c2 h
            obtain ⟨x4_3, ex4_3, h⟩ := lt_e h
            refine lv_iinc (v := x4_3) (lv' := [(4, .int x4_3), (0, .ref (ad 0)), (2, .int a2), (3, .int x3)]) hx hb dX1_writeRoman_69 hl (k := 3) rfl (by rw [ex4_3]; rfl) (by decide) rfl (fun ls hl => ?_)
            refine lv_goto (tgt := 5) hx hb dX1_writeRoman_72 (by decide) ?_
            exact ih5 x3 x4_3 σ _ _ hP hD hS _ (lv_sub hl [1, 2, 3, 0] rfl) h
          · have h := ite_f c2 h
            refine lv_iload_n hx hb dX1_writeRoman_24 rfl (lv_at hl 2 rfl) ?_
            refine va_gets hx hb hZtS hS hown fl1 (fun _ h9 => h9) dX1_writeRoman_25 ?_
            refine lv_iload hx hb dX1_writeRoman_28 (lv_at hl 3 rfl) ?_
            obtain ⟨hin4, h⟩ := gd_e h
            refine va_ti (v := .int (fSTEPS (Int32.toNatClampNeg x4))) hx hb hTtS hS hin4 rfl dX1_writeRoman_30 ?_
            refine lv_isub hx hb dX1_writeRoman_31 ?_
            obtain ⟨x3_5, ex3_5, h⟩ := lt_e h
            refine lv_topE ex3_5 ?_
            refine lv_istore_n (lv' := [(3, .int x3_5), (0, .ref (ad 0)), (2, .int a2), (4, .int x4)]) hx hb dX1_writeRoman_32 rfl hl (by decide) rfl (fun ls hl => ?_)
            refine lv_aload_n hx hb dX1_writeRoman_33 rfl (lv_at hl 1 rfl) ?_
            refine va_gets hx hb hZtF hS hown fl2 (fun _ h9 => h9) dX1_writeRoman_34 ?_
            refine lv_iload hx hb dX1_writeRoman_37 (lv_at hl 3 rfl) ?_
            obtain ⟨hin6, h⟩ := gd_e h
            refine va_tc (v := .int (fFIRST (Int32.toNatClampNeg x4))) hx hb hTtF hS hin6 rfl dX1_writeRoman_39 ?_
            refine lv_iload_n hx hb dX1_writeRoman_40 rfl (lv_at hl 2 rfl) ?_
            refine lv_iadd hx hb dX1_writeRoman_41 ?_
            obtain ⟨r7, hr7, h⟩ := bd_e h
            obtain ⟨σ8, eσ8, h⟩ := lt_e h
            refine cl_WVs (rest := []) (wn := (wdX8 cI cZ cB ad σ8)) (ci := 6) (q0 := 0) ⟨hx, hb, hml, hown, hts⟩ (mX8_put l D cI cZ cB ad σ H.size ((fFIRST (Int32.toNatClampNeg x4)) + a2) r7 hr7) (cwV 1 hts gX1_writeRoman_X8_put rfl rfl rfl (by decide +kernel) ⟨Nat.le_of_ble_eq_true rfl, Nat.le_of_ble_eq_true rfl⟩) hK hP hD hS hA (by rw [eσ8]) rfl rfl rfl rfl rfl hl.1 rfl (Nat.le_of_ble_eq_true rfl) dX1_writeRoman_42 ⟨Nat.zero_le _, Nat.zero_le _⟩ (fun H locs hP hD hS => ?_)
            refine W.eq (g2 := F0 m 45 ls []) rfl ?_
            refine va_gets hx hb hZtG hS hown fl3 (fun _ h9 => h9) dX1_writeRoman_45 ?_
            refine lv_iload hx hb dX1_writeRoman_48 (lv_at hl 3 rfl) ?_
            obtain ⟨hin9, h⟩ := gd_e h
            refine va_tc (v := .int (fSECOND (Int32.toNatClampNeg x4))) hx hb hTtG hS hin9 rfl dX1_writeRoman_50 ?_
            refine lv_if_eq (tgt := 14) hx hb dX1_writeRoman_51 (by decide) (fun c10 => ?_) (fun c10 => ?_)
            · have h := ite_t c10 h
              exact ih14 x3_5 x4 σ8 _ _ hP hD hS _ (lv_sub hl [1, 2, 0, 3] rfl) h
            · have h := ite_f c10 h
              refine lv_aload_n hx hb dX1_writeRoman_54 rfl (lv_at hl 1 rfl) ?_
              refine va_gets hx hb hZtG hS hown fl3 (fun _ h9 => h9) dX1_writeRoman_55 ?_
              refine lv_iload hx hb dX1_writeRoman_58 (lv_at hl 3 rfl) ?_
              obtain ⟨hin11, h⟩ := gd_e h
              refine va_tc (v := .int (fSECOND (Int32.toNatClampNeg x4))) hx hb hTtG hS hin11 rfl dX1_writeRoman_60 ?_
              refine lv_iload_n hx hb dX1_writeRoman_61 rfl (lv_at hl 2 rfl) ?_
              refine lv_iadd hx hb dX1_writeRoman_62 ?_
              obtain ⟨r12, hr12, h⟩ := bd_e h
              obtain ⟨σ13, eσ13, h⟩ := lt_e h
              refine cl_WVs (rest := []) (wn := (wdX8 cI cZ cB ad σ13)) (ci := 6) (q0 := 0) ⟨hx, hb, hml, hown, hts⟩ (mX8_put l D cI cZ cB ad σ8 H.size ((fSECOND (Int32.toNatClampNeg x4)) + a2) r12 hr12) (cwV 1 hts gX1_writeRoman_X8_put rfl rfl rfl (by decide +kernel) ⟨Nat.le_of_ble_eq_true rfl, Nat.le_of_ble_eq_true rfl⟩) hK hP hD hS hA (by rw [eσ13]) rfl rfl rfl rfl rfl hl.1 rfl (Nat.le_of_ble_eq_true rfl) dX1_writeRoman_63 ⟨Nat.zero_le _, Nat.zero_le _⟩ (fun H locs hP hD hS => ?_)
              refine W.eq (g2 := F0 m 66 ls []) rfl ?_
              refine lv_goto (tgt := 14) hx hb dX1_writeRoman_66 (by decide) ?_
              exact ih14 x3_5 x4 σ13 _ _ hP hD hS _ (lv_sub hl [1, 2, 0, 3] rfl) h
      intro x3 x4 σ H locs hP hD hS ls hl h
      rw [X1_writeRoman_5] at h
      refine lv_iload hx hb dX1_writeRoman_5 (lv_at hl 3 rfl) ?_
      refine va_gets hx hb hZtS hS hown fl1 (fun _ h9 => h9) dX1_writeRoman_7 ?_
      refine va_tlen (v := 12) hx hb hTtS hS rfl dX1_writeRoman_10 ?_
      refine lv_icmp_ge (tgt := 75) hx hb dX1_writeRoman_11 (by decide) (fun c14 => ?_) (fun c14 => ?_)
      · have h := ite_t c14 h
        exact hR none (wdX8 cI cZ cB ad σ) _ _ _ _ rfl (by rw [← Option.some.inj h]) trivial dX1_writeRoman_75 hP hS
      · have h := ite_f c14 h
        exact n14 FU x3 x4 σ _ _ hP hD hS _ (lv_sub hl [0, 1, 2, 3] rfl) h
  rw [X1_writeRoman] at h
  have hS := hS
  refine lv_iload_n hx hb dX1_writeRoman_0 rfl (lv_at hl 1 rfl) ?_
  refine lv_istore_n (lv' := [(3, .int a1), (0, .ref (ad 0)), (1, .int a1), (2, .int a2)]) hx hb dX1_writeRoman_1 rfl hl (by decide) rfl (fun ls hl => ?_)
  refine lv_iconst (v := 0) hx hb dX1_writeRoman_2 (by decide) ?_
  refine lv_istore (lv' := [(4, .int 0), (3, .int a1), (0, .ref (ad 0)), (1, .int a1), (2, .int a2)]) hx hb dX1_writeRoman_3 hl (by decide) rfl (fun ls hl => ?_)
  exact n5 FU a1 0 σ _ _ hP hD hS _ (lv_sub hl [2, 4, 1, 0] rfl) h
set_option maxHeartbeats 4000000 in
set_option maxRecDepth 100000 in
theorem mX1_writeRoman (K : Nat → Nat) (l : Launch) (D : va_G) (cI cZ cB : ClassId) (ad : Nat → Nat) (σ : Mem) (sz : Nat) (a1 : Int32) (a2 : Int32) (res : Mem) (h : X1_writeRoman a1 a2 σ = some res) : Met l yX1_writeRoman wsX1_writeRoman rmX1_writeRoman (pWx K D cI cZ cB (wdX8 cI cZ cB ad σ) sz [.ref (ad 0), .int a1, .int a2]) (qW D none (wdX8 cI cZ cB ad res) (va_A (wdX8 cI cZ cB ad σ) sz)) 0 0 (va_A (wdX8 cI cZ cB ad σ) sz) := (bX1_writeRoman K l D cI cZ cB ad σ a1 a2 res h).metv (by decide +kernel) rfl (Nat.le_of_ble_eq_true rfl)
def rmX1_writeLetters : Room := { frames := 1, cells := 0, slots := 0, locals := 21 }
set_option maxHeartbeats 4000000 in
set_option maxRecDepth 100000 in
theorem bX1_writeLetters (l : Launch) (D : va_G) (cI cZ cB : ClassId) (ad : Nat → Nat) (σ : Mem) (a1 : Int32) (res : Mem) (h : X1_writeLetters a1 σ = some res) : BW l yX1_writeLetters wsX1_writeLetters rmX1_writeLetters cX1_writeLetters 3 none D cI cZ cB (wdX8 cI cZ cB ad σ) [.ref (ad 0), .int a1] none (wdX8 cI cZ cB ad res) := by
  intro p e s m args below meth c ls Q A hx hb hml hts hown hK hA hP hD hS hl0 hR
  have hl : lv_has ls 3 [(0, .ref (ad 0)), (1, .int a1)] := hl0
  have n43 : ∀ (σ : Mem) (H : Heap) (locs : List Loc), va_P D vwCl (wdX8 cI cZ cB ad σ) H → va_D A (wdX8 cI cZ cB ad σ) → va_S A s.heap H locs → ∀ (ls : Array Slot), lv_has ls 3 [(0, .ref (ad 0)), (1, .int a1)] → X1_writeLetters_43 a1 σ = some res → W p l e rmX1_writeLetters s m args below meth c H locs 0 0 Q (F0 m 43 ls []) := by
    intro σ H locs hP hD hS ls hl h
    rw [X1_writeLetters_43] at h
    refine lv_aload_n hx hb dX1_writeLetters_43 rfl (lv_at hl 0 rfl) ?_
    refine lv_bipush (v := 97) hx hb dX1_writeLetters_44 (by decide) ?_
    refine lv_iload_n hx hb dX1_writeLetters_46 rfl (lv_at hl 1 rfl) ?_
    refine lv_iconst (v := 1) hx hb dX1_writeLetters_47 (by decide) ?_
    refine lv_isub hx hb dX1_writeLetters_48 ?_
    refine lv_bipush (v := 26) hx hb dX1_writeLetters_49 (by decide) ?_
    refine lv_irem hx hb dX1_writeLetters_51 (by decide) ?_
    refine lv_iadd hx hb dX1_writeLetters_52 ?_
    obtain ⟨r1, hr1, h⟩ := bd_e h
    obtain ⟨σ2, eσ2, h⟩ := lt_e h
    refine cl_WVs (rest := []) (wn := (wdX8 cI cZ cB ad σ2)) (ci := 6) (q0 := 0) ⟨hx, hb, hml, hown, hts⟩ (mX8_put l D cI cZ cB ad σ H.size (97 + ((a1 - 1) - (a1 - 1) / 26 * 26)) r1 hr1) (cwV 1 hts gX1_writeLetters_X8_put rfl rfl rfl (by decide +kernel) ⟨Nat.le_of_ble_eq_true rfl, Nat.le_of_ble_eq_true rfl⟩) hK hP hD hS hA (by rw [eσ2]) rfl rfl rfl rfl rfl hl.1 rfl (Nat.le_of_ble_eq_true rfl) dX1_writeLetters_53 ⟨Nat.zero_le _, Nat.zero_le _⟩ (fun H locs hP hD hS => ?_)
    refine W.eq (g2 := F0 m 56 ls []) rfl ?_
    exact hR none (wdX8 cI cZ cB ad σ2) _ _ _ _ rfl (by rw [← Option.some.inj h]) trivial dX1_writeLetters_56 hP hS
  have n26 : ∀ (x2 : Int32) (σ : Mem) (H : Heap) (locs : List Loc), va_P D vwCl (wdX8 cI cZ cB ad σ) H → va_D A (wdX8 cI cZ cB ad σ) → va_S A s.heap H locs → ∀ (ls : Array Slot), lv_has ls 3 [(0, .ref (ad 0)), (1, .int a1), (2, .int x2)] → X1_writeLetters_26 a1 x2 σ = some res → W p l e rmX1_writeLetters s m args below meth c H locs 0 0 Q (F0 m 26 ls []) := by
    intro x2 σ H locs hP hD hS ls hl h
    rw [X1_writeLetters_26] at h
    refine lv_iload_n hx hb dX1_writeLetters_26 rfl (lv_at hl 2 rfl) ?_
    refine lv_if_le (tgt := 43) hx hb dX1_writeLetters_27 (by decide) (fun c3 => ?_) (fun c3 => ?_)
    · have h := ite_t c3 h
      exact n43 σ _ _ hP hD hS _ (lv_sub hl [0, 1] rfl) h
    · have h := ite_f c3 h
      refine lv_aload_n hx hb dX1_writeLetters_30 rfl (lv_at hl 0 rfl) ?_
      refine lv_bipush (v := 97) hx hb dX1_writeLetters_31 (by decide) ?_
      refine lv_iload_n hx hb dX1_writeLetters_33 rfl (lv_at hl 2 rfl) ?_
      refine lv_iconst (v := 1) hx hb dX1_writeLetters_34 (by decide) ?_
      refine lv_isub hx hb dX1_writeLetters_35 ?_
      refine lv_bipush (v := 26) hx hb dX1_writeLetters_36 (by decide) ?_
      refine lv_irem hx hb dX1_writeLetters_38 (by decide) ?_
      refine lv_iadd hx hb dX1_writeLetters_39 ?_
      obtain ⟨r4, hr4, h⟩ := bd_e h
      obtain ⟨σ5, eσ5, h⟩ := lt_e h
      refine cl_WVs (rest := []) (wn := (wdX8 cI cZ cB ad σ5)) (ci := 6) (q0 := 0) ⟨hx, hb, hml, hown, hts⟩ (mX8_put l D cI cZ cB ad σ H.size (97 + ((x2 - 1) - (x2 - 1) / 26 * 26)) r4 hr4) (cwV 1 hts gX1_writeLetters_X8_put rfl rfl rfl (by decide +kernel) ⟨Nat.le_of_ble_eq_true rfl, Nat.le_of_ble_eq_true rfl⟩) hK hP hD hS hA (by rw [eσ5]) rfl rfl rfl rfl rfl hl.1 rfl (Nat.le_of_ble_eq_true rfl) dX1_writeLetters_40 ⟨Nat.zero_le _, Nat.zero_le _⟩ (fun H locs hP hD hS => ?_)
      refine W.eq (g2 := F0 m 43 ls []) rfl ?_
      exact n43 σ5 _ _ hP hD hS _ (lv_sub hl [0, 1] rfl) h
  rw [X1_writeLetters] at h
  have hS := hS
  refine lv_iload_n hx hb dX1_writeLetters_0 rfl (lv_at hl 1 rfl) ?_
  refine lv_iconst (v := 1) hx hb dX1_writeLetters_1 (by decide) ?_
  refine lv_isub hx hb dX1_writeLetters_2 ?_
  refine lv_bipush (v := 26) hx hb dX1_writeLetters_3 (by decide) ?_
  refine lv_idiv hx hb dX1_writeLetters_5 (by decide) ?_
  obtain ⟨x2_6, ex2_6, h⟩ := lt_e h
  refine lv_topE ex2_6 ?_
  refine lv_istore_n (lv' := [(2, .int x2_6), (0, .ref (ad 0)), (1, .int a1)]) hx hb dX1_writeLetters_6 rfl hl (by decide) rfl (fun ls hl => ?_)
  refine lv_iload_n hx hb dX1_writeLetters_7 rfl (lv_at hl 0 rfl) ?_
  refine lv_bipush (v := 26) hx hb dX1_writeLetters_8 (by decide) ?_
  refine lv_icmp_le (tgt := 26) hx hb dX1_writeLetters_10 (by decide) (fun c7 => ?_) (fun c7 => ?_)
  · have h := ite_t c7 h
    exact n26 x2_6 σ _ _ hP hD hS _ (lv_sub hl [1, 2, 0] rfl) h
  · have h := ite_f c7 h
    refine lv_aload_n hx hb dX1_writeLetters_13 rfl (lv_at hl 1 rfl) ?_
    refine lv_bipush (v := 96) hx hb dX1_writeLetters_14 (by decide) ?_
    refine lv_iload_n hx hb dX1_writeLetters_16 rfl (lv_at hl 0 rfl) ?_
    refine lv_iconst (v := 1) hx hb dX1_writeLetters_17 (by decide) ?_
    refine lv_isub hx hb dX1_writeLetters_18 ?_
    refine lv_bipush (v := 26) hx hb dX1_writeLetters_19 (by decide) ?_
    refine lv_idiv hx hb dX1_writeLetters_21 (by decide) ?_
    refine lv_iadd hx hb dX1_writeLetters_22 ?_
    obtain ⟨r8, hr8, h⟩ := bd_e h
    obtain ⟨σ9, eσ9, h⟩ := lt_e h
    refine cl_WVs (rest := []) (wn := (wdX8 cI cZ cB ad σ9)) (ci := 6) (q0 := 0) ⟨hx, hb, hml, hown, hts⟩ (mX8_put l D cI cZ cB ad σ s.heap.size (96 + ((x2_6 - 1) / 26)) r8 hr8) (cwV 1 hts gX1_writeLetters_X8_put rfl rfl rfl (by decide +kernel) ⟨Nat.le_of_ble_eq_true rfl, Nat.le_of_ble_eq_true rfl⟩) hK hP hD hS hA (by rw [eσ9]) rfl rfl rfl rfl rfl hl.1 rfl (Nat.le_of_ble_eq_true rfl) dX1_writeLetters_23 ⟨Nat.zero_le _, Nat.zero_le _⟩ (fun H locs hP hD hS => ?_)
    refine W.eq (g2 := F0 m 26 ls []) rfl ?_
    exact n26 x2_6 σ9 _ _ hP hD hS _ (lv_sub hl [1, 2, 0] rfl) h
set_option maxHeartbeats 4000000 in
set_option maxRecDepth 100000 in
theorem mX1_writeLetters (l : Launch) (D : va_G) (cI cZ cB : ClassId) (ad : Nat → Nat) (σ : Mem) (sz : Nat) (a1 : Int32) (res : Mem) (h : X1_writeLetters a1 σ = some res) : Met l yX1_writeLetters wsX1_writeLetters rmX1_writeLetters (pW D cI cZ cB (wdX8 cI cZ cB ad σ) sz [.ref (ad 0), .int a1]) (qW D none (wdX8 cI cZ cB ad res) (va_A (wdX8 cI cZ cB ad σ) sz)) 0 0 (va_A (wdX8 cI cZ cB ad σ) sz) := (bX1_writeLetters l D cI cZ cB ad σ a1 res h).metv (by decide +kernel) rfl (Nat.le_of_ble_eq_true rfl)
def rmX1_writeDigits : Room := { frames := 1, cells := 0, slots := 0, locals := 21 }
set_option maxHeartbeats 4000000 in
set_option maxRecDepth 100000 in
theorem bX1_writeDigits (l : Launch) (D : va_G) (cI cZ cB : ClassId) (ad : Nat → Nat) (σ : Mem) (a1 : Int32) (res : Mem) (h : X1_writeDigits a1 σ = some res) : BW l yX1_writeDigits wsX1_writeDigits rmX1_writeDigits cX1_writeDigits 2 none D cI cZ cB (wdX8 cI cZ cB ad σ) [.ref (ad 0), .int a1] none (wdX8 cI cZ cB ad res) := by
  intro p e s m args below meth c ls Q A hx hb hml hts hown hK hA hP hD hS hl0 hR
  have hl : lv_has ls 2 [(0, .ref (ad 0)), (1, .int a1)] := hl0
  have n37 : ∀ (σ : Mem) (H : Heap) (locs : List Loc), va_P D vwCl (wdX8 cI cZ cB ad σ) H → va_D A (wdX8 cI cZ cB ad σ) → va_S A s.heap H locs → ∀ (ls : Array Slot), lv_has ls 2 [(0, .ref (ad 0)), (1, .int a1)] → X1_writeDigits_37 a1 σ = some res → W p l e rmX1_writeDigits s m args below meth c H locs 0 0 Q (F0 m 37 ls []) := by
    intro σ H locs hP hD hS ls hl h
    rw [X1_writeDigits_37] at h
    refine lv_aload_n hx hb dX1_writeDigits_37 rfl (lv_at hl 0 rfl) ?_
    refine lv_bipush (v := 48) hx hb dX1_writeDigits_38 (by decide) ?_
    refine lv_iload_n hx hb dX1_writeDigits_40 rfl (lv_at hl 1 rfl) ?_
    refine lv_bipush (v := 10) hx hb dX1_writeDigits_41 (by decide) ?_
    refine lv_irem hx hb dX1_writeDigits_43 (by decide) ?_
    refine lv_iadd hx hb dX1_writeDigits_44 ?_
    obtain ⟨r1, hr1, h⟩ := bd_e h
    obtain ⟨σ2, eσ2, h⟩ := lt_e h
    refine cl_WVs (rest := []) (wn := (wdX8 cI cZ cB ad σ2)) (ci := 6) (q0 := 0) ⟨hx, hb, hml, hown, hts⟩ (mX8_put l D cI cZ cB ad σ H.size (48 + (a1 - a1 / 10 * 10)) r1 hr1) (cwV 1 hts gX1_writeDigits_X8_put rfl rfl rfl (by decide +kernel) ⟨Nat.le_of_ble_eq_true rfl, Nat.le_of_ble_eq_true rfl⟩) hK hP hD hS hA (by rw [eσ2]) rfl rfl rfl rfl rfl hl.1 rfl (Nat.le_of_ble_eq_true rfl) dX1_writeDigits_45 ⟨Nat.zero_le _, Nat.zero_le _⟩ (fun H locs hP hD hS => ?_)
    refine W.eq (g2 := F0 m 48 ls []) rfl ?_
    exact hR none (wdX8 cI cZ cB ad σ2) _ _ _ _ rfl (by rw [← Option.some.inj h]) trivial dX1_writeDigits_48 hP hS
  have n17 : ∀ (σ : Mem) (H : Heap) (locs : List Loc), va_P D vwCl (wdX8 cI cZ cB ad σ) H → va_D A (wdX8 cI cZ cB ad σ) → va_S A s.heap H locs → ∀ (ls : Array Slot), lv_has ls 2 [(0, .ref (ad 0)), (1, .int a1)] → X1_writeDigits_17 a1 σ = some res → W p l e rmX1_writeDigits s m args below meth c H locs 0 0 Q (F0 m 17 ls []) := by
    intro σ H locs hP hD hS ls hl h
    rw [X1_writeDigits_17] at h
    refine lv_iload_n hx hb dX1_writeDigits_17 rfl (lv_at hl 1 rfl) ?_
    refine lv_bipush (v := 10) hx hb dX1_writeDigits_18 (by decide) ?_
    refine lv_icmp_lt (tgt := 37) hx hb dX1_writeDigits_20 (by decide) (fun c3 => ?_) (fun c3 => ?_)
    · have h := ite_t c3 h
      exact n37 σ _ _ hP hD hS _ (lv_sub hl [0, 1] rfl) h
    · have h := ite_f c3 h
      refine lv_aload_n hx hb dX1_writeDigits_23 rfl (lv_at hl 0 rfl) ?_
      refine lv_bipush (v := 48) hx hb dX1_writeDigits_24 (by decide) ?_
      refine lv_iload_n hx hb dX1_writeDigits_26 rfl (lv_at hl 1 rfl) ?_
      refine lv_bipush (v := 10) hx hb dX1_writeDigits_27 (by decide) ?_
      refine lv_idiv hx hb dX1_writeDigits_29 (by decide) ?_
      refine lv_bipush (v := 10) hx hb dX1_writeDigits_30 (by decide) ?_
      refine lv_irem hx hb dX1_writeDigits_32 (by decide) ?_
      refine lv_iadd hx hb dX1_writeDigits_33 ?_
      obtain ⟨r4, hr4, h⟩ := bd_e h
      obtain ⟨σ5, eσ5, h⟩ := lt_e h
      refine cl_WVs (rest := []) (wn := (wdX8 cI cZ cB ad σ5)) (ci := 6) (q0 := 0) ⟨hx, hb, hml, hown, hts⟩ (mX8_put l D cI cZ cB ad σ H.size (48 + ((a1 / 10) - (a1 / 10) / 10 * 10)) r4 hr4) (cwV 1 hts gX1_writeDigits_X8_put rfl rfl rfl (by decide +kernel) ⟨Nat.le_of_ble_eq_true rfl, Nat.le_of_ble_eq_true rfl⟩) hK hP hD hS hA (by rw [eσ5]) rfl rfl rfl rfl rfl hl.1 rfl (Nat.le_of_ble_eq_true rfl) dX1_writeDigits_34 ⟨Nat.zero_le _, Nat.zero_le _⟩ (fun H locs hP hD hS => ?_)
      refine W.eq (g2 := F0 m 37 ls []) rfl ?_
      exact n37 σ5 _ _ hP hD hS _ (lv_sub hl [0, 1] rfl) h
  rw [X1_writeDigits] at h
  have hS := hS
  refine lv_iload_n hx hb dX1_writeDigits_0 rfl (lv_at hl 1 rfl) ?_
  refine lv_bipush (v := 100) hx hb dX1_writeDigits_1 (by decide) ?_
  refine lv_icmp_lt (tgt := 17) hx hb dX1_writeDigits_3 (by decide) (fun c6 => ?_) (fun c6 => ?_)
  · have h := ite_t c6 h
    exact n17 σ _ _ hP hD hS _ (lv_sub hl [0, 1] rfl) h
  · have h := ite_f c6 h
    refine lv_aload_n hx hb dX1_writeDigits_6 rfl (lv_at hl 0 rfl) ?_
    refine lv_bipush (v := 48) hx hb dX1_writeDigits_7 (by decide) ?_
    refine lv_iload_n hx hb dX1_writeDigits_9 rfl (lv_at hl 1 rfl) ?_
    refine lv_bipush (v := 100) hx hb dX1_writeDigits_10 (by decide) ?_
    refine lv_idiv hx hb dX1_writeDigits_12 (by decide) ?_
    refine lv_iadd hx hb dX1_writeDigits_13 ?_
    obtain ⟨r7, hr7, h⟩ := bd_e h
    obtain ⟨σ8, eσ8, h⟩ := lt_e h
    refine cl_WVs (rest := []) (wn := (wdX8 cI cZ cB ad σ8)) (ci := 6) (q0 := 0) ⟨hx, hb, hml, hown, hts⟩ (mX8_put l D cI cZ cB ad σ s.heap.size (48 + (a1 / 100)) r7 hr7) (cwV 1 hts gX1_writeDigits_X8_put rfl rfl rfl (by decide +kernel) ⟨Nat.le_of_ble_eq_true rfl, Nat.le_of_ble_eq_true rfl⟩) hK hP hD hS hA (by rw [eσ8]) rfl rfl rfl rfl rfl hl.1 rfl (Nat.le_of_ble_eq_true rfl) dX1_writeDigits_14 ⟨Nat.zero_le _, Nat.zero_le _⟩ (fun H locs hP hD hS => ?_)
    refine W.eq (g2 := F0 m 17 ls []) rfl ?_
    exact n17 σ8 _ _ hP hD hS _ (lv_sub hl [0, 1] rfl) h
set_option maxHeartbeats 4000000 in
set_option maxRecDepth 100000 in
theorem mX1_writeDigits (l : Launch) (D : va_G) (cI cZ cB : ClassId) (ad : Nat → Nat) (σ : Mem) (sz : Nat) (a1 : Int32) (res : Mem) (h : X1_writeDigits a1 σ = some res) : Met l yX1_writeDigits wsX1_writeDigits rmX1_writeDigits (pW D cI cZ cB (wdX8 cI cZ cB ad σ) sz [.ref (ad 0), .int a1]) (qW D none (wdX8 cI cZ cB ad res) (va_A (wdX8 cI cZ cB ad σ) sz)) 0 0 (va_A (wdX8 cI cZ cB ad σ) sz) := (bX1_writeDigits l D cI cZ cB ad σ a1 res h).metv (by decide +kernel) rfl (Nat.le_of_ble_eq_true rfl)
def rmX1_writeLabel : Room := { frames := 2, cells := 0, slots := 0, locals := 45 }
set_option maxHeartbeats 4000000 in
set_option maxRecDepth 100000 in
theorem bX1_writeLabel (K : Nat → Nat) (l : Launch) (D : va_G) (cI cZ cB : ClassId) (ad : Nat → Nat) (σ : Mem) (a1 : Int32) (a2 : Int32) (res : Mem) (h : X1_writeLabel a1 a2 σ = some res) : BWx K l yX1_writeLabel wsX1_writeLabel rmX1_writeLabel cX1_writeLabel 6 none D cI cZ cB (wdX8 cI cZ cB ad σ) [.ref (ad 0), .int a1, .int a2] none (wdX8 cI cZ cB ad res) := by
  intro p e s m args below meth c ls Q A hx hb hml hts hown hX hK hA hP hD hS hl0 hR
  have hX0 := hX
  obtain ⟨⟨hZtS, hTtS, hZtF, hTtF, hZtG, hTtG⟩, ⟨hC1, hC2, hC3⟩, hR1, hR2, hR3, hR4, hR5⟩ := hX0
  have hl : lv_has ls 6 [(0, .ref (ad 0)), (1, .int a1), (2, .int a2)] := hl0
  have n88 : ∀ (n : Nat) (x4 : Int32) (x5 : Int32) (σ : Mem) (H : Heap) (locs : List Loc), va_P D vwCl (wdX8 cI cZ cB ad σ) H → va_D A (wdX8 cI cZ cB ad σ) → va_S A s.heap H locs → ∀ (ls : Array Slot), lv_has ls 6 [(0, .ref (ad 0)), (2, .int a2), (4, .int x4), (5, .int x5)] → X1_writeLabel_88 a1 a2 n x4 x5 σ = some res → W p l e rmX1_writeLabel s m args below meth c H locs 0 0 Q (F0 m 88 ls []) := by
    intro n
    induction n with
    | zero =>
      intro x4 x5 σ H locs hP hD hS ls hl h
      rw [X1_writeLabel_88] at h
      cases h
    | succ n_88 ih88 =>
      intro x4 x5 σ H locs hP hD hS ls hl h
      rw [X1_writeLabel_88] at h
      refine lv_iload hx hb dX1_writeLabel_88 (lv_at hl 3 rfl) ?_
      refine lv_iload hx hb dX1_writeLabel_90 (lv_at hl 2 rfl) ?_
      refine lv_icmp_ge (tgt := 114) hx hb dX1_writeLabel_92 (by decide) (fun c1 => ?_) (fun c1 => ?_)
      · have h := ite_t c1 h
        exact hR none (wdX8 cI cZ cB ad σ) _ _ _ _ rfl (by rw [← Option.some.inj h]) trivial dX1_writeLabel_114 hP hS
      · have h := ite_f c1 h
        refine lv_aload_n hx hb dX1_writeLabel_95 rfl (lv_at hl 0 rfl) ?_
        refine lv_bipush (v := 64) hx hb dX1_writeLabel_96 (by decide) ?_
        refine lv_iload_n hx hb dX1_writeLabel_98 rfl (lv_at hl 1 rfl) ?_
        refine lv_iload hx hb dX1_writeLabel_99 (lv_at hl 3 rfl) ?_
        obtain ⟨r2, hr2, h⟩ := bd_e h
        refine cl_RS (rest := [.int 64, .ref (ad 0)]) ⟨hx, hb, hml, hown, hts⟩ (mX5_letterOf l D cI cZ cB a2 x5 r2 hr2) (va_cwS 2 hts gX1_writeLabel_X5_letterOf rfl rfl rfl (by decide +kernel) ⟨Nat.le_of_ble_eq_true rfl, Nat.le_of_ble_eq_true rfl⟩) hK wd0_P rfl hl.1 rfl (Nat.le_of_ble_eq_true rfl) dX1_writeLabel_101 ⟨Nat.zero_le _, Nat.zero_le _⟩ ?_
        refine W.eq (g2 := F0 m 104 ls [.int r2, .int 64, .ref (ad 0)]) rfl ?_
        refine lv_iadd hx hb dX1_writeLabel_104 ?_
        obtain ⟨r3, hr3, h⟩ := bd_e h
        obtain ⟨σ4, eσ4, h⟩ := lt_e h
        refine cl_WVs (rest := []) (wn := (wdX8 cI cZ cB ad σ4)) (ci := 6) (q0 := 0) ⟨hx, hb, hml, hown, hts⟩ (mX8_put l D cI cZ cB ad σ H.size (64 + r2) r3 hr3) (cwV 1 hts gX1_writeLabel_X8_put rfl rfl rfl (by decide +kernel) ⟨Nat.le_of_ble_eq_true rfl, Nat.le_of_ble_eq_true rfl⟩) hK hP hD hS hA (by rw [eσ4]) rfl rfl rfl rfl rfl hl.1 rfl (Nat.le_of_ble_eq_true rfl) dX1_writeLabel_105 ⟨Nat.zero_le _, Nat.zero_le _⟩ (fun H locs hP hD hS => ?_)
        refine W.eq (g2 := F0 m 108 ls []) rfl ?_
        obtain ⟨x5_5, ex5_5, h⟩ := lt_e h
        refine lv_iinc (v := x5_5) (lv' := [(5, .int x5_5), (0, .ref (ad 0)), (2, .int a2), (4, .int x4)]) hx hb dX1_writeLabel_108 hl (k := 3) rfl (by rw [ex5_5]; rfl) (by decide) rfl (fun ls hl => ?_)
        refine lv_goto (tgt := 88) hx hb dX1_writeLabel_111 (by decide) ?_
        exact ih88 x4 x5_5 σ4 _ _ hP hD hS _ (lv_sub hl [1, 2, 3, 0] rfl) h
  have n64 : ∀ (σ : Mem) (H : Heap) (locs : List Loc), va_P D vwCl (wdX8 cI cZ cB ad σ) H → va_D A (wdX8 cI cZ cB ad σ) → va_S A s.heap H locs → ∀ (ls : Array Slot), lv_has ls 6 [(0, .ref (ad 0)), (1, .int a1), (2, .int a2)] → X1_writeLabel_64 a1 a2 σ = some res → W p l e rmX1_writeLabel s m args below meth c H locs 0 0 Q (F0 m 64 ls []) := by
    intro σ H locs hP hD hS ls hl h
    rw [X1_writeLabel_64] at h
    refine lv_iload_n hx hb dX1_writeLabel_64 rfl (lv_at hl 2 rfl) ?_
    obtain ⟨r6, hr6, h⟩ := bd_e h
    refine cl_RS (rest := []) ⟨hx, hb, hml, hown, hts⟩ (mX5_lettersIn l D cI cZ cB a2 r6 hr6) (va_cwS 1 hts gX1_writeLabel_X5_lettersIn rfl rfl rfl (by decide +kernel) ⟨Nat.le_of_ble_eq_true rfl, Nat.le_of_ble_eq_true rfl⟩) hK wd0_P rfl hl.1 rfl (Nat.le_of_ble_eq_true rfl) dX1_writeLabel_65 ⟨Nat.zero_le _, Nat.zero_le _⟩ ?_
    refine W.eq (g2 := F0 m 68 ls [.int r6]) rfl ?_
    refine lv_istore (lv' := [(4, .int r6), (0, .ref (ad 0)), (1, .int a1), (2, .int a2)]) hx hb dX1_writeLabel_68 hl (by decide) rfl (fun ls hl => ?_)
    refine lv_iload hx hb dX1_writeLabel_70 (lv_at hl 0 rfl) ?_
    refine lv_if_le (tgt := 85) hx hb dX1_writeLabel_72 (by decide) (fun c7 => ?_) (fun c7 => ?_)
    · have h := ite_t c7 h
      refine lv_iconst (v := 0) hx hb dX1_writeLabel_85 (by decide) ?_
      refine lv_istore (lv' := [(5, .int 0), (4, .int r6), (0, .ref (ad 0)), (1, .int a1), (2, .int a2)]) hx hb dX1_writeLabel_86 hl (by decide) rfl (fun ls hl => ?_)
      exact n88 FU r6 0 σ _ _ hP hD hS _ (lv_sub hl [2, 4, 1, 0] rfl) h
    · have h := ite_f c7 h
      refine lv_iload_n hx hb dX1_writeLabel_75 rfl (lv_at hl 2 rfl) ?_
      refine lv_if_eq (tgt := 85) hx hb dX1_writeLabel_76 (by decide) (fun c8 => ?_) (fun c8 => ?_)
      · have h := ite_t c8 h
        refine lv_iconst (v := 0) hx hb dX1_writeLabel_85 (by decide) ?_
        refine lv_istore (lv' := [(5, .int 0), (4, .int r6), (0, .ref (ad 0)), (1, .int a1), (2, .int a2)]) hx hb dX1_writeLabel_86 hl (by decide) rfl (fun ls hl => ?_)
        exact n88 FU r6 0 σ _ _ hP hD hS _ (lv_sub hl [2, 4, 1, 0] rfl) h
      · have h := ite_f c8 h
        refine lv_aload_n hx hb dX1_writeLabel_79 rfl (lv_at hl 1 rfl) ?_
        refine lv_bipush (v := 45) hx hb dX1_writeLabel_80 (by decide) ?_
        obtain ⟨r9, hr9, h⟩ := bd_e h
        obtain ⟨σ10, eσ10, h⟩ := lt_e h
        refine cl_WVs (rest := []) (wn := (wdX8 cI cZ cB ad σ10)) (ci := 6) (q0 := 0) ⟨hx, hb, hml, hown, hts⟩ (mX8_put l D cI cZ cB ad σ H.size 45 r9 hr9) (cwV 1 hts gX1_writeLabel_X8_put rfl rfl rfl (by decide +kernel) ⟨Nat.le_of_ble_eq_true rfl, Nat.le_of_ble_eq_true rfl⟩) hK hP hD hS hA (by rw [eσ10]) rfl rfl rfl rfl rfl hl.1 rfl (Nat.le_of_ble_eq_true rfl) dX1_writeLabel_82 ⟨Nat.zero_le _, Nat.zero_le _⟩ (fun H locs hP hD hS => ?_)
        refine W.eq (g2 := F0 m 85 ls []) rfl ?_
        refine lv_iconst (v := 0) hx hb dX1_writeLabel_85 (by decide) ?_
        refine lv_istore (lv' := [(5, .int 0), (4, .int r6), (0, .ref (ad 0)), (1, .int a1), (2, .int a2)]) hx hb dX1_writeLabel_86 hl (by decide) rfl (fun ls hl => ?_)
        exact n88 FU r6 0 σ10 _ _ hP hD hS _ (lv_sub hl [2, 4, 1, 0] rfl) h
  rw [X1_writeLabel] at h
  have hS := hS
  refine lv_iload_n hx hb dX1_writeLabel_0 rfl (lv_at hl 2 rfl) ?_
  obtain ⟨r11, hr11, h⟩ := bd_e h
  refine cl_RS (rest := []) ⟨hx, hb, hml, hown, hts⟩ (mX5_numberOf l D cI cZ cB a2 r11 hr11) (va_cwS 1 hts gX1_writeLabel_X5_numberOf rfl rfl rfl (by decide +kernel) ⟨Nat.le_of_ble_eq_true rfl, Nat.le_of_ble_eq_true rfl⟩) hK wd0_P rfl hl.1 rfl (Nat.le_of_ble_eq_true rfl) dX1_writeLabel_1 ⟨Nat.zero_le _, Nat.zero_le _⟩ ?_
  refine W.eq (g2 := F0 m 4 ls [.int r11]) rfl ?_
  refine lv_istore_n (lv' := [(3, .int r11), (0, .ref (ad 0)), (1, .int a1), (2, .int a2)]) hx hb dX1_writeLabel_4 rfl hl (by decide) rfl (fun ls hl => ?_)
  refine lv_iload_n hx hb dX1_writeLabel_5 rfl (lv_at hl 2 rfl) ?_
  by_cases c12 : a1 = 1
  · have h := ite_t c12 h
    refine lv_tableIn (tgt := 32) (off := 26) hx hb dX1_writeLabel_6 (by rw [c12]; decide) (by rw [c12]; decide) (by rw [c12]; rfl) (by decide) ?_
    refine lv_aload_n hx hb dX1_writeLabel_32 rfl (lv_at hl 1 rfl) ?_
    refine lv_iload_n hx hb dX1_writeLabel_33 rfl (lv_at hl 0 rfl) ?_
    refine lv_iconst (v := 0) hx hb dX1_writeLabel_34 (by decide) ?_
    obtain ⟨r13, hr13, h⟩ := bd_e h
    obtain ⟨σ14, eσ14, h⟩ := lt_e h
    refine cl_WSsx (rest := []) (wn := (wdX8 cI cZ cB ad σ14)) ⟨hx, hb, hml, hown, hts⟩ (mX1_writeRoman K l D cI cZ cB ad σ s.heap.size r11 0 r13 hr13) (va_cwS 3 hts gX1_writeLabel_X1_writeRoman rfl rfl rfl (by decide +kernel) ⟨Nat.le_of_ble_eq_true rfl, Nat.le_of_ble_eq_true rfl⟩) hX hK hP hD hS hA (by rw [eσ14]) rfl rfl hl.1 rfl (Nat.le_of_ble_eq_true rfl) dX1_writeLabel_35 ⟨Nat.zero_le _, Nat.zero_le _⟩ (fun H locs hP hD hS => ?_)
    refine W.eq (g2 := F0 m 38 ls []) rfl ?_
    refine lv_goto (tgt := 64) hx hb dX1_writeLabel_38 (by decide) ?_
    exact n64 σ14 _ _ hP hD hS _ (lv_sub hl [1, 2, 3] rfl) h
  have h := ite_f c12 h
  by_cases c15 : a1 = 2
  · have h := ite_t c15 h
    refine lv_tableIn (tgt := 41) (off := 35) hx hb dX1_writeLabel_6 (by rw [c15]; decide) (by rw [c15]; decide) (by rw [c15]; rfl) (by decide) ?_
    refine lv_aload_n hx hb dX1_writeLabel_41 rfl (lv_at hl 1 rfl) ?_
    refine lv_iload_n hx hb dX1_writeLabel_42 rfl (lv_at hl 0 rfl) ?_
    obtain ⟨r16, hr16, h⟩ := bd_e h
    obtain ⟨σ17, eσ17, h⟩ := lt_e h
    refine cl_WSs (rest := []) (wn := (wdX8 cI cZ cB ad σ17)) ⟨hx, hb, hml, hown, hts⟩ (mX1_writeLetters l D cI cZ cB ad σ s.heap.size r11 r16 hr16) (va_cwS 2 hts gX1_writeLabel_X1_writeLetters rfl rfl rfl (by decide +kernel) ⟨Nat.le_of_ble_eq_true rfl, Nat.le_of_ble_eq_true rfl⟩) hK hP hD hS hA (by rw [eσ17]) rfl rfl hl.1 rfl (Nat.le_of_ble_eq_true rfl) dX1_writeLabel_43 ⟨Nat.zero_le _, Nat.zero_le _⟩ (fun H locs hP hD hS => ?_)
    refine W.eq (g2 := F0 m 46 ls []) rfl ?_
    refine lv_goto (tgt := 64) hx hb dX1_writeLabel_46 (by decide) ?_
    exact n64 σ17 _ _ hP hD hS _ (lv_sub hl [1, 2, 3] rfl) h
  have h := ite_f c15 h
  by_cases c18 : a1 = 3
  · have h := ite_t c18 h
    refine lv_tableIn (tgt := 49) (off := 43) hx hb dX1_writeLabel_6 (by rw [c18]; decide) (by rw [c18]; decide) (by rw [c18]; rfl) (by decide) ?_
    refine lv_aload_n hx hb dX1_writeLabel_49 rfl (lv_at hl 1 rfl) ?_
    refine lv_iload_n hx hb dX1_writeLabel_50 rfl (lv_at hl 0 rfl) ?_
    refine lv_bipush (v := 32) hx hb dX1_writeLabel_51 (by decide) ?_
    obtain ⟨r19, hr19, h⟩ := bd_e h
    obtain ⟨σ20, eσ20, h⟩ := lt_e h
    refine cl_WSsx (rest := []) (wn := (wdX8 cI cZ cB ad σ20)) ⟨hx, hb, hml, hown, hts⟩ (mX1_writeRoman K l D cI cZ cB ad σ s.heap.size r11 32 r19 hr19) (va_cwS 3 hts gX1_writeLabel_X1_writeRoman rfl rfl rfl (by decide +kernel) ⟨Nat.le_of_ble_eq_true rfl, Nat.le_of_ble_eq_true rfl⟩) hX hK hP hD hS hA (by rw [eσ20]) rfl rfl hl.1 rfl (Nat.le_of_ble_eq_true rfl) dX1_writeLabel_53 ⟨Nat.zero_le _, Nat.zero_le _⟩ (fun H locs hP hD hS => ?_)
    refine W.eq (g2 := F0 m 56 ls []) rfl ?_
    refine lv_goto (tgt := 64) hx hb dX1_writeLabel_56 (by decide) ?_
    exact n64 σ20 _ _ hP hD hS _ (lv_sub hl [1, 2, 3] rfl) h
  have h := ite_f c18 h
  refine lv_tableOut (tgt := 59) hx hb dX1_writeLabel_6 (tb_out 1 3 (fun k h1 h2 => by
    rcases (show k = 1 ∨ k = 2 ∨ k = 3 by omega) with rfl | rfl | rfl
    · exact c12
    · exact c15
    · exact c18)) (by decide) ?_
  refine lv_aload_n hx hb dX1_writeLabel_59 rfl (lv_at hl 1 rfl) ?_
  refine lv_iload_n hx hb dX1_writeLabel_60 rfl (lv_at hl 0 rfl) ?_
  obtain ⟨r21, hr21, h⟩ := bd_e h
  obtain ⟨σ22, eσ22, h⟩ := lt_e h
  refine cl_WSs (rest := []) (wn := (wdX8 cI cZ cB ad σ22)) ⟨hx, hb, hml, hown, hts⟩ (mX1_writeDigits l D cI cZ cB ad σ s.heap.size r11 r21 hr21) (va_cwS 2 hts gX1_writeLabel_X1_writeDigits rfl rfl rfl (by decide +kernel) ⟨Nat.le_of_ble_eq_true rfl, Nat.le_of_ble_eq_true rfl⟩) hK hP hD hS hA (by rw [eσ22]) rfl rfl hl.1 rfl (Nat.le_of_ble_eq_true rfl) dX1_writeLabel_61 ⟨Nat.zero_le _, Nat.zero_le _⟩ (fun H locs hP hD hS => ?_)
  refine W.eq (g2 := F0 m 64 ls []) rfl ?_
  exact n64 σ22 _ _ hP hD hS _ (lv_sub hl [1, 2, 3] rfl) h
set_option maxHeartbeats 4000000 in
set_option maxRecDepth 100000 in
theorem mX1_writeLabel (K : Nat → Nat) (l : Launch) (D : va_G) (cI cZ cB : ClassId) (ad : Nat → Nat) (σ : Mem) (sz : Nat) (a1 : Int32) (a2 : Int32) (res : Mem) (h : X1_writeLabel a1 a2 σ = some res) : Met l yX1_writeLabel wsX1_writeLabel rmX1_writeLabel (pWx K D cI cZ cB (wdX8 cI cZ cB ad σ) sz [.ref (ad 0), .int a1, .int a2]) (qW D none (wdX8 cI cZ cB ad res) (va_A (wdX8 cI cZ cB ad σ) sz)) 0 0 (va_A (wdX8 cI cZ cB ad σ) sz) := (bX1_writeLabel K l D cI cZ cB ad σ a1 a2 res h).metv (by decide +kernel) rfl (Nat.le_of_ble_eq_true rfl)
def rmX1_romanWorth : Room := { frames := 0, cells := 0, slots := 0, locals := 0 }
set_option maxHeartbeats 4000000 in
set_option maxRecDepth 100000 in
theorem bX1_romanWorth (l : Launch) (D : va_G) (cI cZ cB : ClassId) (a0 : Int32) (res : Int32) (h : X1_romanWorth a0 = some res) : BR l yX1_romanWorth wsX1_romanWorth rmX1_romanWorth cX1_romanWorth 1 (some .int) D cI cZ cB wd0 [.int a0] (some (.int res)) := by
  intro p e s m args below meth c ls Q hx hb hml hts hown hK hP hl0 hR
  have hl : lv_has ls 1 [(0, .int a0)] := hl0
  rw [X1_romanWorth] at h
  refine lv_iload_n hx hb dX1_romanWorth_0 rfl (lv_at hl 0 rfl) ?_
  by_cases c1 : a0 = 67
  · have h := ite_t c1 h
    refine lv_tableIn (tgt := 114) (off := 113) hx hb dX1_romanWorth_1 (by rw [c1]; decide) (by rw [c1]; decide) (by rw [c1]; rfl) (by decide) ?_
    refine lv_bipush (v := 100) hx hb dX1_romanWorth_114 (by decide) ?_
    exact hR (some (.int 100)) _ _ (by rw [← Option.some.inj h]) rfl dX1_romanWorth_116
  have h := ite_f c1 h
  by_cases c2 : a0 = 68
  · have h := ite_t c2 h
    refine lv_tableIn (tgt := 117) (off := 116) hx hb dX1_romanWorth_1 (by rw [c2]; decide) (by rw [c2]; decide) (by rw [c2]; rfl) (by decide) ?_
    refine lv_sipush (v := 500) hx hb dX1_romanWorth_117 (by decide) ?_
    exact hR (some (.int 500)) _ _ (by rw [← Option.some.inj h]) rfl dX1_romanWorth_120
  have h := ite_f c2 h
  by_cases c3 : a0 = 73
  · have h := ite_t c3 h
    refine lv_tableIn (tgt := 104) (off := 103) hx hb dX1_romanWorth_1 (by rw [c3]; decide) (by rw [c3]; decide) (by rw [c3]; rfl) (by decide) ?_
    refine lv_iconst (v := 1) hx hb dX1_romanWorth_104 (by decide) ?_
    exact hR (some (.int 1)) _ _ (by rw [← Option.some.inj h]) rfl dX1_romanWorth_105
  have h := ite_f c3 h
  by_cases c4 : a0 = 76
  · have h := ite_t c4 h
    refine lv_tableIn (tgt := 111) (off := 110) hx hb dX1_romanWorth_1 (by rw [c4]; decide) (by rw [c4]; decide) (by rw [c4]; rfl) (by decide) ?_
    refine lv_bipush (v := 50) hx hb dX1_romanWorth_111 (by decide) ?_
    exact hR (some (.int 50)) _ _ (by rw [← Option.some.inj h]) rfl dX1_romanWorth_113
  have h := ite_f c4 h
  by_cases c5 : a0 = 77
  · have h := ite_t c5 h
    refine lv_tableIn (tgt := 121) (off := 120) hx hb dX1_romanWorth_1 (by rw [c5]; decide) (by rw [c5]; decide) (by rw [c5]; rfl) (by decide) ?_
    refine lv_sipush (v := 1000) hx hb dX1_romanWorth_121 (by decide) ?_
    exact hR (some (.int 1000)) _ _ (by rw [← Option.some.inj h]) rfl dX1_romanWorth_124
  have h := ite_f c5 h
  by_cases c6 : a0 = 86
  · have h := ite_t c6 h
    refine lv_tableIn (tgt := 106) (off := 105) hx hb dX1_romanWorth_1 (by rw [c6]; decide) (by rw [c6]; decide) (by rw [c6]; rfl) (by decide) ?_
    refine lv_iconst (v := 5) hx hb dX1_romanWorth_106 (by decide) ?_
    exact hR (some (.int 5)) _ _ (by rw [← Option.some.inj h]) rfl dX1_romanWorth_107
  have h := ite_f c6 h
  by_cases c7 : a0 = 88
  · have h := ite_t c7 h
    refine lv_tableIn (tgt := 108) (off := 107) hx hb dX1_romanWorth_1 (by rw [c7]; decide) (by rw [c7]; decide) (by rw [c7]; rfl) (by decide) ?_
    refine lv_bipush (v := 10) hx hb dX1_romanWorth_108 (by decide) ?_
    exact hR (some (.int 10)) _ _ (by rw [← Option.some.inj h]) rfl dX1_romanWorth_110
  have h := ite_f c7 h
  have hdf : W p l e rmX1_romanWorth s m args below meth c s.heap [] 0 0 Q (F0 m 125 ls []) := by
    refine lv_iconst (v := 0) hx hb dX1_romanWorth_125 (by decide) ?_
    exact hR (some (.int 0)) _ _ (by rw [← Option.some.inj h]) rfl dX1_romanWorth_126
  by_cases hr : (a0).toInt < 67 ∨ 88 < (a0).toInt
  · exact lv_tableOut (tgt := 125) hx hb dX1_romanWorth_1 hr (by decide) hdf
  · obtain ⟨kk, hk1, hk2, hk3⟩ := tb_in hr
    rcases (show kk = 67 ∨ kk = 68 ∨ kk = 69 ∨ kk = 70 ∨ kk = 71 ∨ kk = 72 ∨ kk = 73 ∨ kk = 74 ∨ kk = 75 ∨ kk = 76 ∨ kk = 77 ∨ kk = 78 ∨ kk = 79 ∨ kk = 80 ∨ kk = 81 ∨ kk = 82 ∨ kk = 83 ∨ kk = 84 ∨ kk = 85 ∨ kk = 86 ∨ kk = 87 ∨ kk = 88 by omega) with rfl | rfl | rfl | rfl | rfl | rfl | rfl | rfl | rfl | rfl | rfl | rfl | rfl | rfl | rfl | rfl | rfl | rfl | rfl | rfl | rfl | rfl
    · exact absurd hk3 c1
    · exact absurd hk3 c2
    · exact lv_tableIn (tgt := 125) (off := 124) hx hb dX1_romanWorth_1 (by rw [hk3]; decide) (by rw [hk3]; decide) (by rw [hk3]; rfl) (by decide) hdf
    · exact lv_tableIn (tgt := 125) (off := 124) hx hb dX1_romanWorth_1 (by rw [hk3]; decide) (by rw [hk3]; decide) (by rw [hk3]; rfl) (by decide) hdf
    · exact lv_tableIn (tgt := 125) (off := 124) hx hb dX1_romanWorth_1 (by rw [hk3]; decide) (by rw [hk3]; decide) (by rw [hk3]; rfl) (by decide) hdf
    · exact lv_tableIn (tgt := 125) (off := 124) hx hb dX1_romanWorth_1 (by rw [hk3]; decide) (by rw [hk3]; decide) (by rw [hk3]; rfl) (by decide) hdf
    · exact absurd hk3 c3
    · exact lv_tableIn (tgt := 125) (off := 124) hx hb dX1_romanWorth_1 (by rw [hk3]; decide) (by rw [hk3]; decide) (by rw [hk3]; rfl) (by decide) hdf
    · exact lv_tableIn (tgt := 125) (off := 124) hx hb dX1_romanWorth_1 (by rw [hk3]; decide) (by rw [hk3]; decide) (by rw [hk3]; rfl) (by decide) hdf
    · exact absurd hk3 c4
    · exact absurd hk3 c5
    · exact lv_tableIn (tgt := 125) (off := 124) hx hb dX1_romanWorth_1 (by rw [hk3]; decide) (by rw [hk3]; decide) (by rw [hk3]; rfl) (by decide) hdf
    · exact lv_tableIn (tgt := 125) (off := 124) hx hb dX1_romanWorth_1 (by rw [hk3]; decide) (by rw [hk3]; decide) (by rw [hk3]; rfl) (by decide) hdf
    · exact lv_tableIn (tgt := 125) (off := 124) hx hb dX1_romanWorth_1 (by rw [hk3]; decide) (by rw [hk3]; decide) (by rw [hk3]; rfl) (by decide) hdf
    · exact lv_tableIn (tgt := 125) (off := 124) hx hb dX1_romanWorth_1 (by rw [hk3]; decide) (by rw [hk3]; decide) (by rw [hk3]; rfl) (by decide) hdf
    · exact lv_tableIn (tgt := 125) (off := 124) hx hb dX1_romanWorth_1 (by rw [hk3]; decide) (by rw [hk3]; decide) (by rw [hk3]; rfl) (by decide) hdf
    · exact lv_tableIn (tgt := 125) (off := 124) hx hb dX1_romanWorth_1 (by rw [hk3]; decide) (by rw [hk3]; decide) (by rw [hk3]; rfl) (by decide) hdf
    · exact lv_tableIn (tgt := 125) (off := 124) hx hb dX1_romanWorth_1 (by rw [hk3]; decide) (by rw [hk3]; decide) (by rw [hk3]; rfl) (by decide) hdf
    · exact lv_tableIn (tgt := 125) (off := 124) hx hb dX1_romanWorth_1 (by rw [hk3]; decide) (by rw [hk3]; decide) (by rw [hk3]; rfl) (by decide) hdf
    · exact absurd hk3 c6
    · exact lv_tableIn (tgt := 125) (off := 124) hx hb dX1_romanWorth_1 (by rw [hk3]; decide) (by rw [hk3]; decide) (by rw [hk3]; rfl) (by decide) hdf
    · exact absurd hk3 c7
set_option maxHeartbeats 4000000 in
set_option maxRecDepth 100000 in
theorem mX1_romanWorth (l : Launch) (D : va_G) (cI cZ cB : ClassId) (a0 : Int32) (res : Int32) (h : X1_romanWorth a0 = some res) : Met l yX1_romanWorth wsX1_romanWorth rmX1_romanWorth (pR D cI cZ cB wd0 [.int a0]) (qR (some (.int res))) 0 0 (fun _ => False) := (bX1_romanWorth l D cI cZ cB a0 res h).met (by decide +kernel) rfl (Nat.le_of_ble_eq_true rfl)
def rmX1_isNumeral : Room := { frames := 1, cells := 0, slots := 0, locals := 20 }
set_option maxHeartbeats 4000000 in
set_option maxRecDepth 100000 in
theorem bX1_isNumeral (l : Launch) (D : va_G) (cI cZ cB : ClassId) (a0 : Int32) (a1 : Int32) (res : Int32) (h : X1_isNumeral a0 a1 = some res) : BR l yX1_isNumeral wsX1_isNumeral rmX1_isNumeral cX1_isNumeral 2 (some .boolean) D cI cZ cB wd0 [.int a0, .int a1] (some (.int res)) := by
  intro p e s m args below meth c ls Q hx hb hml hts hown hK hP hl0 hR
  have hl : lv_has ls 2 [(0, .int a0), (1, .int a1)] := hl0
  rw [X1_isNumeral] at h
  refine lv_iload_n hx hb dX1_isNumeral_0 rfl (lv_at hl 0 rfl) ?_
  by_cases c1 : a0 = 1
  · have h := ite_t c1 h
    refine lv_tableIn (tgt := 28) (off := 27) hx hb dX1_isNumeral_1 (by rw [c1]; decide) (by rw [c1]; decide) (by rw [c1]; rfl) (by decide) ?_
    refine lv_iload_n hx hb dX1_isNumeral_28 rfl (lv_at hl 1 rfl) ?_
    obtain ⟨r2, hr2, h⟩ := bd_e h
    refine cl_RS (rest := []) ⟨hx, hb, hml, hown, hts⟩ (mX1_romanWorth l D cI cZ cB a1 r2 hr2) (va_cwS 1 hts gX1_isNumeral_X1_romanWorth rfl rfl rfl (by decide +kernel) ⟨Nat.le_of_ble_eq_true rfl, Nat.le_of_ble_eq_true rfl⟩) hK hP rfl hl.1 rfl (Nat.le_of_ble_eq_true rfl) dX1_isNumeral_29 ⟨Nat.zero_le _, Nat.zero_le _⟩ ?_
    refine W.eq (g2 := F0 m 32 ls [.int r2]) rfl ?_
    refine lv_if_le (tgt := 39) hx hb dX1_isNumeral_32 (by decide) (fun c3 => ?_) (fun c3 => ?_)
    · have h := ite_t c3 h
      refine lv_iconst (v := 0) hx hb dX1_isNumeral_39 (by decide) ?_
      exact hR (some (.int 0)) _ _ (by rw [← Option.some.inj h]) nb0 dX1_isNumeral_40
    · have h := ite_f c3 h
      refine lv_iconst (v := 1) hx hb dX1_isNumeral_35 (by decide) ?_
      refine lv_goto (tgt := 40) hx hb dX1_isNumeral_36 (by decide) ?_
      exact hR (some (.int 1)) _ _ (by rw [← Option.some.inj h]) nb1 dX1_isNumeral_40
  have h := ite_f c1 h
  by_cases c4 : a0 = 2
  · have h := ite_t c4 h
    refine lv_tableIn (tgt := 41) (off := 40) hx hb dX1_isNumeral_1 (by rw [c4]; decide) (by rw [c4]; decide) (by rw [c4]; rfl) (by decide) ?_
    refine lv_iload_n hx hb dX1_isNumeral_41 rfl (lv_at hl 1 rfl) ?_
    refine lv_bipush (v := 97) hx hb dX1_isNumeral_42 (by decide) ?_
    refine lv_icmp_lt (tgt := 57) hx hb dX1_isNumeral_44 (by decide) (fun c5 => ?_) (fun c5 => ?_)
    · have h := ite_t c5 h
      refine lv_iconst (v := 0) hx hb dX1_isNumeral_57 (by decide) ?_
      exact hR (some (.int 0)) _ _ (by rw [← Option.some.inj h]) nb0 dX1_isNumeral_58
    · have h := ite_f c5 h
      refine lv_iload_n hx hb dX1_isNumeral_47 rfl (lv_at hl 1 rfl) ?_
      refine lv_bipush (v := 122) hx hb dX1_isNumeral_48 (by decide) ?_
      refine lv_icmp_gt (tgt := 57) hx hb dX1_isNumeral_50 (by decide) (fun c6 => ?_) (fun c6 => ?_)
      · have h := ite_t c6 h
        refine lv_iconst (v := 0) hx hb dX1_isNumeral_57 (by decide) ?_
        exact hR (some (.int 0)) _ _ (by rw [← Option.some.inj h]) nb0 dX1_isNumeral_58
      · have h := ite_f c6 h
        refine lv_iconst (v := 1) hx hb dX1_isNumeral_53 (by decide) ?_
        refine lv_goto (tgt := 58) hx hb dX1_isNumeral_54 (by decide) ?_
        exact hR (some (.int 1)) _ _ (by rw [← Option.some.inj h]) nb1 dX1_isNumeral_58
  have h := ite_f c4 h
  by_cases c7 : a0 = 3
  · have h := ite_t c7 h
    refine lv_tableIn (tgt := 59) (off := 58) hx hb dX1_isNumeral_1 (by rw [c7]; decide) (by rw [c7]; decide) (by rw [c7]; rfl) (by decide) ?_
    refine lv_iload_n hx hb dX1_isNumeral_59 rfl (lv_at hl 1 rfl) ?_
    refine lv_bipush (v := 32) hx hb dX1_isNumeral_60 (by decide) ?_
    refine lv_isub hx hb dX1_isNumeral_62 ?_
    obtain ⟨r8, hr8, h⟩ := bd_e h
    refine cl_RS (rest := []) ⟨hx, hb, hml, hown, hts⟩ (mX1_romanWorth l D cI cZ cB (a1 - 32) r8 hr8) (va_cwS 1 hts gX1_isNumeral_X1_romanWorth rfl rfl rfl (by decide +kernel) ⟨Nat.le_of_ble_eq_true rfl, Nat.le_of_ble_eq_true rfl⟩) hK hP rfl hl.1 rfl (Nat.le_of_ble_eq_true rfl) dX1_isNumeral_63 ⟨Nat.zero_le _, Nat.zero_le _⟩ ?_
    refine W.eq (g2 := F0 m 66 ls [.int r8]) rfl ?_
    refine lv_if_le (tgt := 73) hx hb dX1_isNumeral_66 (by decide) (fun c9 => ?_) (fun c9 => ?_)
    · have h := ite_t c9 h
      refine lv_iconst (v := 0) hx hb dX1_isNumeral_73 (by decide) ?_
      exact hR (some (.int 0)) _ _ (by rw [← Option.some.inj h]) nb0 dX1_isNumeral_74
    · have h := ite_f c9 h
      refine lv_iconst (v := 1) hx hb dX1_isNumeral_69 (by decide) ?_
      refine lv_goto (tgt := 74) hx hb dX1_isNumeral_70 (by decide) ?_
      exact hR (some (.int 1)) _ _ (by rw [← Option.some.inj h]) nb1 dX1_isNumeral_74
  have h := ite_f c7 h
  refine lv_tableOut (tgt := 75) hx hb dX1_isNumeral_1 (tb_out 1 3 (fun k h1 h2 => by
    rcases (show k = 1 ∨ k = 2 ∨ k = 3 by omega) with rfl | rfl | rfl
    · exact c1
    · exact c4
    · exact c7)) (by decide) ?_
  refine lv_iload_n hx hb dX1_isNumeral_75 rfl (lv_at hl 1 rfl) ?_
  refine lv_bipush (v := 48) hx hb dX1_isNumeral_76 (by decide) ?_
  refine lv_icmp_lt (tgt := 91) hx hb dX1_isNumeral_78 (by decide) (fun c10 => ?_) (fun c10 => ?_)
  · have h := ite_t c10 h
    refine lv_iconst (v := 0) hx hb dX1_isNumeral_91 (by decide) ?_
    exact hR (some (.int 0)) _ _ (by rw [← Option.some.inj h]) nb0 dX1_isNumeral_92
  · have h := ite_f c10 h
    refine lv_iload_n hx hb dX1_isNumeral_81 rfl (lv_at hl 1 rfl) ?_
    refine lv_bipush (v := 57) hx hb dX1_isNumeral_82 (by decide) ?_
    refine lv_icmp_gt (tgt := 91) hx hb dX1_isNumeral_84 (by decide) (fun c11 => ?_) (fun c11 => ?_)
    · have h := ite_t c11 h
      refine lv_iconst (v := 0) hx hb dX1_isNumeral_91 (by decide) ?_
      exact hR (some (.int 0)) _ _ (by rw [← Option.some.inj h]) nb0 dX1_isNumeral_92
    · have h := ite_f c11 h
      refine lv_iconst (v := 1) hx hb dX1_isNumeral_87 (by decide) ?_
      refine lv_goto (tgt := 92) hx hb dX1_isNumeral_88 (by decide) ?_
      exact hR (some (.int 1)) _ _ (by rw [← Option.some.inj h]) nb1 dX1_isNumeral_92
set_option maxHeartbeats 4000000 in
set_option maxRecDepth 100000 in
theorem mX1_isNumeral (l : Launch) (D : va_G) (cI cZ cB : ClassId) (a0 : Int32) (a1 : Int32) (res : Int32) (h : X1_isNumeral a0 a1 = some res) : Met l yX1_isNumeral wsX1_isNumeral rmX1_isNumeral (pR D cI cZ cB wd0 [.int a0, .int a1]) (qR (some (.int res))) 0 0 (fun _ => False) := (bX1_isNumeral l D cI cZ cB a0 a1 res h).met (by decide +kernel) rfl (Nat.le_of_ble_eq_true rfl)
def rmX4_numeralsEnd : Room := { frames := 2, cells := 0, slots := 0, locals := 41 }
set_option maxHeartbeats 4000000 in
set_option maxRecDepth 100000 in
theorem bX4_numeralsEnd (l : Launch) (D : va_G) (cI cZ cB : ClassId) (ad : Nat → Nat) (σ : Mem) (a1 : Int32) (a2 : Int32) (res : Int32) (h : X4_numeralsEnd a1 a2 σ = some res) : BR l yX4_numeralsEnd wsX4_numeralsEnd rmX4_numeralsEnd cX4_numeralsEnd 4 (some .int) D cI cZ cB (wdX8 cI cZ cB ad σ) [.ref (ad 0), .int a1, .int a2] (some (.int res)) := by
  intro p e s m args below meth c ls Q hx hb hml hts hown hK hP hl0 hR
  have hinX8 : ∀ w ∈ u_ws RX8 TX8 2, w ∈ wsX4_numeralsEnd := (fun _ h => List.mem_cons_of_mem _ (List.mem_append_right _ h))
  have fl1 := hts (.fieldLink RX4 62 "LawNumberer$Text" "length" "I") (by decide +kernel)
  have hl : lv_has ls 4 [(0, .ref (ad 0)), (1, .int a1), (2, .int a2)] := hl0
  have n2 : ∀ (n : Nat) (x3 : Int32) (ls : Array Slot), lv_has ls 4 [(0, .ref (ad 0)), (2, .int a2), (3, .int x3)] → X4_numeralsEnd_2 a1 a2 σ n x3 = some res → W p l e rmX4_numeralsEnd s m args below meth c s.heap [] 0 0 Q (F0 m 2 ls []) := by
    intro n
    induction n with
    | zero =>
      intro x3 ls hl h
      rw [X4_numeralsEnd_2] at h
      cases h
    | succ n_2 ih2 =>
      intro x3 ls hl h
      rw [X4_numeralsEnd_2] at h
      refine lv_iload_n hx hb dX4_numeralsEnd_2 rfl (lv_at hl 2 rfl) ?_
      refine lv_aload_n hx hb dX4_numeralsEnd_3 rfl (lv_at hl 0 rfl) ?_
      refine va_get (ci := 6) (v := .int (σ 0 1)) (C := RX8) (T := TX8) (N := 2) hx hb hts hinX8 hown hK hP 0 rfl rfl 1 (by decide) fl1 (fun _ h9 => h9) rfl dX4_numeralsEnd_4 ?_
      refine lv_icmp_ge (tgt := 28) hx hb dX4_numeralsEnd_7 (by decide) (fun c1 => ?_) (fun c1 => ?_)
      · have h := ite_t c1 h
        refine lv_iload_n hx hb dX4_numeralsEnd_28 rfl (lv_at hl 2 rfl) ?_
        exact hR (some (.int x3)) _ _ (by rw [← Option.some.inj h]) rfl dX4_numeralsEnd_29
      · have h := ite_f c1 h
        refine lv_iload_n hx hb dX4_numeralsEnd_10 rfl (lv_at hl 1 rfl) ?_
        refine lv_aload_n hx hb dX4_numeralsEnd_11 rfl (lv_at hl 0 rfl) ?_
        refine lv_iload_n hx hb dX4_numeralsEnd_12 rfl (lv_at hl 2 rfl) ?_
        obtain ⟨r2, hr2, h⟩ := bd_e h
        refine cl_RV (rest := [.int a2]) (ci := 6) (q0 := 0) ⟨hx, hb, hml, hown, hts⟩ (mX8_byteAt l D cI cZ cB ad σ x3 r2 hr2) (cwV 1 hts gX4_numeralsEnd_X8_byteAt rfl rfl rfl (by decide +kernel) ⟨Nat.le_of_ble_eq_true rfl, Nat.le_of_ble_eq_true rfl⟩) hK hP rfl rfl rfl rfl hl.1 rfl (Nat.le_of_ble_eq_true rfl) dX4_numeralsEnd_13 ⟨Nat.zero_le _, Nat.zero_le _⟩ ?_
        refine W.eq (g2 := F0 m 16 ls [.int r2, .int a2]) rfl ?_
        obtain ⟨r3, hr3, h⟩ := bd_e h
        refine cl_RS (rest := []) ⟨hx, hb, hml, hown, hts⟩ (mX1_isNumeral l D cI cZ cB a2 r2 r3 hr3) (va_cwS 2 hts gX4_numeralsEnd_X1_isNumeral rfl rfl rfl (by decide +kernel) ⟨Nat.le_of_ble_eq_true rfl, Nat.le_of_ble_eq_true rfl⟩) hK wd0_P rfl hl.1 rfl (Nat.le_of_ble_eq_true rfl) dX4_numeralsEnd_16 ⟨Nat.zero_le _, Nat.zero_le _⟩ ?_
        refine W.eq (g2 := F0 m 19 ls [.int r3]) rfl ?_
        refine lv_if_eq (tgt := 28) hx hb dX4_numeralsEnd_19 (by decide) (fun c4 => ?_) (fun c4 => ?_)
        · have h := ite_t c4 h
          refine lv_iload_n hx hb dX4_numeralsEnd_28 rfl (lv_at hl 2 rfl) ?_
          exact hR (some (.int x3)) _ _ (by rw [← Option.some.inj h]) rfl dX4_numeralsEnd_29
        · have h := ite_f c4 h
          obtain ⟨x3_5, ex3_5, h⟩ := lt_e h
          refine lv_iinc (v := x3_5) (lv' := [(3, .int x3_5), (0, .ref (ad 0)), (2, .int a2)]) hx hb dX4_numeralsEnd_22 hl (k := 2) rfl (by rw [ex3_5]; rfl) (by decide) rfl (fun ls hl => ?_)
          refine lv_goto (tgt := 2) hx hb dX4_numeralsEnd_25 (by decide) ?_
          exact ih2 x3_5 _ (lv_sub hl [1, 2, 0] rfl) h
  rw [X4_numeralsEnd] at h
  refine lv_iload_n hx hb dX4_numeralsEnd_0 rfl (lv_at hl 1 rfl) ?_
  refine lv_istore_n (lv' := [(3, .int a1), (0, .ref (ad 0)), (1, .int a1), (2, .int a2)]) hx hb dX4_numeralsEnd_1 rfl hl (by decide) rfl (fun ls hl => ?_)
  exact n2 FU a1 _ (lv_sub hl [1, 3, 0] rfl) h
set_option maxHeartbeats 4000000 in
set_option maxRecDepth 100000 in
theorem mX4_numeralsEnd (l : Launch) (D : va_G) (cI cZ cB : ClassId) (ad : Nat → Nat) (σ : Mem) (a1 : Int32) (a2 : Int32) (res : Int32) (h : X4_numeralsEnd a1 a2 σ = some res) : Met l yX4_numeralsEnd wsX4_numeralsEnd rmX4_numeralsEnd (pR D cI cZ cB (wdX8 cI cZ cB ad σ) [.ref (ad 0), .int a1, .int a2]) (qR (some (.int res))) 0 0 (fun _ => False) := (bX4_numeralsEnd l D cI cZ cB ad σ a1 a2 res h).met (by decide +kernel) rfl (Nat.le_of_ble_eq_true rfl)
def rmX4_failAt : Room := { frames := 0, cells := 0, slots := 0, locals := 0 }
set_option maxHeartbeats 4000000 in
set_option maxRecDepth 100000 in
theorem bX4_failAt (l : Launch) (D : va_G) (cI cZ cB : ClassId) (ad : Nat → Nat) (σ : Mem) (a1 : Int32) (a2 : Int32) (res : Mem) (h : X4_failAt a1 a2 σ = some res) : BW l yX4_failAt wsX4_failAt rmX4_failAt cX4_failAt 3 none D cI cZ cB (wdX4 cI cZ cB ad σ) [.ref (ad 0), .int a1, .int a2] none (wdX4 cI cZ cB ad res) := by
  intro p e s m args below meth c ls Q A hx hb hml hts hown hK hA hP hD hS hl0 hR
  have hinX4 : ∀ w ∈ u_ws RX4 TX4 5, w ∈ wsX4_failAt := (fun _ h => List.mem_cons_of_mem _ (List.mem_append_right _ h))
  have fl1 := hts (.fieldLink RX4 18 "LawNumberer$LabelReader" "fault" "I") (by decide +kernel)
  have fl2 := hts (.fieldLink RX4 22 "LawNumberer$LabelReader" "faultPlace" "I") (by decide +kernel)
  have hl : lv_has ls 3 [(0, .ref (ad 0)), (1, .int a1), (2, .int a2)] := hl0
  rw [X4_failAt] at h
  have hS := hS
  refine lv_aload_n hx hb dX4_failAt_0 rfl (lv_at hl 0 rfl) ?_
  refine lv_iload_n hx hb dX4_failAt_1 rfl (lv_at hl 2 rfl) ?_
  obtain ⟨σ1, eσ1, h⟩ := lt_e h
  refine va_put (ci := 3) (v := .int a2) (ty := .int) (C := RX4) (T := TX4) (N := 5) hx hb hts hinX4 tyX4 tyX4_ok nmX4 hown hK hP hD hS 0 rfl rfl 2 (by decide) fl1 (fun _ h9 => h9) rfl (by decide +kernel) rfl rfl (Nat.le_of_ble_eq_true rfl) dX4_failAt_2 (fun H locs hP1 hD1 hS => ?_)
  have hP : va_P D vwCl (wdX4 cI cZ cB ad σ1) H := by rw [eσ1]; exact hP1
  have hD : va_D A (wdX4 cI cZ cB ad σ1) := D_of (by rfl) hD
  refine lv_aload_n hx hb dX4_failAt_5 rfl (lv_at hl 0 rfl) ?_
  refine lv_iload_n hx hb dX4_failAt_6 rfl (lv_at hl 1 rfl) ?_
  obtain ⟨σ2, eσ2, h⟩ := lt_e h
  refine va_put (ci := 3) (v := .int a1) (ty := .int) (C := RX4) (T := TX4) (N := 5) hx hb hts hinX4 tyX4 tyX4_ok nmX4 hown hK hP hD hS 0 rfl rfl 3 (by decide) fl2 (fun _ h9 => h9) rfl (by decide +kernel) rfl rfl (Nat.le_of_ble_eq_true rfl) dX4_failAt_7 (fun H locs hP1 hD1 hS => ?_)
  have hP : va_P D vwCl (wdX4 cI cZ cB ad σ2) H := by rw [eσ2]; exact hP1
  have hD : va_D A (wdX4 cI cZ cB ad σ2) := D_of (by rfl) hD
  exact hR none (wdX4 cI cZ cB ad σ2) _ _ _ _ rfl (by rw [← Option.some.inj h]) trivial dX4_failAt_10 hP hS
set_option maxHeartbeats 4000000 in
set_option maxRecDepth 100000 in
theorem mX4_failAt (l : Launch) (D : va_G) (cI cZ cB : ClassId) (ad : Nat → Nat) (σ : Mem) (sz : Nat) (a1 : Int32) (a2 : Int32) (res : Mem) (h : X4_failAt a1 a2 σ = some res) : Met l yX4_failAt wsX4_failAt rmX4_failAt (pW D cI cZ cB (wdX4 cI cZ cB ad σ) sz [.ref (ad 0), .int a1, .int a2]) (qW D none (wdX4 cI cZ cB ad res) (va_A (wdX4 cI cZ cB ad σ) sz)) 0 0 (va_A (wdX4 cI cZ cB ad σ) sz) := (bX4_failAt l D cI cZ cB ad σ a1 a2 res h).metv (by decide +kernel) rfl (Nat.le_of_ble_eq_true rfl)
def rmX4_capitalsEnd : Room := { frames := 1, cells := 0, slots := 0, locals := 21 }
set_option maxHeartbeats 4000000 in
set_option maxRecDepth 100000 in
theorem bX4_capitalsEnd (l : Launch) (D : va_G) (cI cZ cB : ClassId) (ad : Nat → Nat) (σ : Mem) (a1 : Int32) (res : Int32) (h : X4_capitalsEnd a1 σ = some res) : BR l yX4_capitalsEnd wsX4_capitalsEnd rmX4_capitalsEnd cX4_capitalsEnd 3 (some .int) D cI cZ cB (wdX8 cI cZ cB ad σ) [.ref (ad 0), .int a1] (some (.int res)) := by
  intro p e s m args below meth c ls Q hx hb hml hts hown hK hP hl0 hR
  have hinX8 : ∀ w ∈ u_ws RX8 TX8 2, w ∈ wsX4_capitalsEnd := (fun _ h => List.mem_cons_of_mem _ (List.mem_append_right _ h))
  have fl1 := hts (.fieldLink RX4 62 "LawNumberer$Text" "length" "I") (by decide +kernel)
  have hl : lv_has ls 3 [(0, .ref (ad 0)), (1, .int a1)] := hl0
  have n2 : ∀ (n : Nat) (x2 : Int32) (ls : Array Slot), lv_has ls 3 [(0, .ref (ad 0)), (2, .int x2)] → X4_capitalsEnd_2 a1 σ n x2 = some res → W p l e rmX4_capitalsEnd s m args below meth c s.heap [] 0 0 Q (F0 m 2 ls []) := by
    intro n
    induction n with
    | zero =>
      intro x2 ls hl h
      rw [X4_capitalsEnd_2] at h
      cases h
    | succ n_2 ih2 =>
      intro x2 ls hl h
      rw [X4_capitalsEnd_2] at h
      refine lv_iload_n hx hb dX4_capitalsEnd_2 rfl (lv_at hl 1 rfl) ?_
      refine lv_aload_n hx hb dX4_capitalsEnd_3 rfl (lv_at hl 0 rfl) ?_
      refine va_get (ci := 6) (v := .int (σ 0 1)) (C := RX8) (T := TX8) (N := 2) hx hb hts hinX8 hown hK hP 0 rfl rfl 1 (by decide) fl1 (fun _ h9 => h9) rfl dX4_capitalsEnd_4 ?_
      refine lv_icmp_ge (tgt := 36) hx hb dX4_capitalsEnd_7 (by decide) (fun c1 => ?_) (fun c1 => ?_)
      · have h := ite_t c1 h
        refine lv_iload_n hx hb dX4_capitalsEnd_36 rfl (lv_at hl 1 rfl) ?_
        exact hR (some (.int x2)) _ _ (by rw [← Option.some.inj h]) rfl dX4_capitalsEnd_37
      · have h := ite_f c1 h
        refine lv_aload_n hx hb dX4_capitalsEnd_10 rfl (lv_at hl 0 rfl) ?_
        refine lv_iload_n hx hb dX4_capitalsEnd_11 rfl (lv_at hl 1 rfl) ?_
        obtain ⟨r2, hr2, h⟩ := bd_e h
        refine cl_RV (rest := []) (ci := 6) (q0 := 0) ⟨hx, hb, hml, hown, hts⟩ (mX8_byteAt l D cI cZ cB ad σ x2 r2 hr2) (cwV 1 hts gX4_capitalsEnd_X8_byteAt rfl rfl rfl (by decide +kernel) ⟨Nat.le_of_ble_eq_true rfl, Nat.le_of_ble_eq_true rfl⟩) hK hP rfl rfl rfl rfl hl.1 rfl (Nat.le_of_ble_eq_true rfl) dX4_capitalsEnd_12 ⟨Nat.zero_le _, Nat.zero_le _⟩ ?_
        refine W.eq (g2 := F0 m 15 ls [.int r2]) rfl ?_
        refine lv_bipush (v := 65) hx hb dX4_capitalsEnd_15 (by decide) ?_
        refine lv_icmp_lt (tgt := 36) hx hb dX4_capitalsEnd_17 (by decide) (fun c3 => ?_) (fun c3 => ?_)
        · have h := ite_t c3 h
          refine lv_iload_n hx hb dX4_capitalsEnd_36 rfl (lv_at hl 1 rfl) ?_
          exact hR (some (.int x2)) _ _ (by rw [← Option.some.inj h]) rfl dX4_capitalsEnd_37
        · have h := ite_f c3 h
          refine lv_aload_n hx hb dX4_capitalsEnd_20 rfl (lv_at hl 0 rfl) ?_
          refine lv_iload_n hx hb dX4_capitalsEnd_21 rfl (lv_at hl 1 rfl) ?_
          obtain ⟨r4, hr4, h⟩ := bd_e h
          refine cl_RV (rest := []) (ci := 6) (q0 := 0) ⟨hx, hb, hml, hown, hts⟩ (mX8_byteAt l D cI cZ cB ad σ x2 r4 hr4) (cwV 1 hts gX4_capitalsEnd_X8_byteAt rfl rfl rfl (by decide +kernel) ⟨Nat.le_of_ble_eq_true rfl, Nat.le_of_ble_eq_true rfl⟩) hK hP rfl rfl rfl rfl hl.1 rfl (Nat.le_of_ble_eq_true rfl) dX4_capitalsEnd_22 ⟨Nat.zero_le _, Nat.zero_le _⟩ ?_
          refine W.eq (g2 := F0 m 25 ls [.int r4]) rfl ?_
          refine lv_bipush (v := 90) hx hb dX4_capitalsEnd_25 (by decide) ?_
          refine lv_icmp_gt (tgt := 36) hx hb dX4_capitalsEnd_27 (by decide) (fun c5 => ?_) (fun c5 => ?_)
          · have h := ite_t c5 h
            refine lv_iload_n hx hb dX4_capitalsEnd_36 rfl (lv_at hl 1 rfl) ?_
            exact hR (some (.int x2)) _ _ (by rw [← Option.some.inj h]) rfl dX4_capitalsEnd_37
          · have h := ite_f c5 h
            obtain ⟨x2_6, ex2_6, h⟩ := lt_e h
            refine lv_iinc (v := x2_6) (lv' := [(2, .int x2_6), (0, .ref (ad 0))]) hx hb dX4_capitalsEnd_30 hl (k := 1) rfl (by rw [ex2_6]; rfl) (by decide) rfl (fun ls hl => ?_)
            refine lv_goto (tgt := 2) hx hb dX4_capitalsEnd_33 (by decide) ?_
            exact ih2 x2_6 _ (lv_sub hl [1, 0] rfl) h
  rw [X4_capitalsEnd] at h
  refine lv_iload_n hx hb dX4_capitalsEnd_0 rfl (lv_at hl 1 rfl) ?_
  refine lv_istore_n (lv' := [(2, .int a1), (0, .ref (ad 0)), (1, .int a1)]) hx hb dX4_capitalsEnd_1 rfl hl (by decide) rfl (fun ls hl => ?_)
  exact n2 FU a1 _ (lv_sub hl [1, 0] rfl) h
set_option maxHeartbeats 4000000 in
set_option maxRecDepth 100000 in
theorem mX4_capitalsEnd (l : Launch) (D : va_G) (cI cZ cB : ClassId) (ad : Nat → Nat) (σ : Mem) (a1 : Int32) (res : Int32) (h : X4_capitalsEnd a1 σ = some res) : Met l yX4_capitalsEnd wsX4_capitalsEnd rmX4_capitalsEnd (pR D cI cZ cB (wdX8 cI cZ cB ad σ) [.ref (ad 0), .int a1]) (qR (some (.int res))) 0 0 (fun _ => False) := (bX4_capitalsEnd l D cI cZ cB ad σ a1 res h).met (by decide +kernel) rfl (Nat.le_of_ble_eq_true rfl)
def rmX1_romanIn : Room := { frames := 1, cells := 0, slots := 0, locals := 21 }
set_option maxHeartbeats 4000000 in
set_option maxRecDepth 100000 in
theorem bX1_romanIn (l : Launch) (D : va_G) (cI cZ cB : ClassId) (ad : Nat → Nat) (σ : Mem) (a1 : Int32) (a2 : Int32) (a3 : Int32) (res : Int32) (h : X1_romanIn a1 a2 a3 σ = some res) : BR l yX1_romanIn wsX1_romanIn rmX1_romanIn cX1_romanIn 8 (some .int) D cI cZ cB (wdX8 cI cZ cB ad σ) [.ref (ad 0), .int a1, .int a2, .int a3] (some (.int res)) := by
  intro p e s m args below meth c ls Q hx hb hml hts hown hK hP hl0 hR
  have hl : lv_has ls 8 [(0, .ref (ad 0)), (1, .int a1), (2, .int a2), (3, .int a3)] := hl0
  have n6 : ∀ (n : Nat) (x4 : Int32) (x5 : Int32) (ls : Array Slot), lv_has ls 8 [(0, .ref (ad 0)), (2, .int a2), (3, .int a3), (4, .int x4), (5, .int x5)] → X1_romanIn_6 a1 a2 a3 σ n x4 x5 = some res → W p l e rmX1_romanIn s m args below meth c s.heap [] 0 0 Q (F0 m 6 ls []) := by
    intro n
    induction n with
    | zero =>
      intro x4 x5 ls hl h
      rw [X1_romanIn_6] at h
      cases h
    | succ n_6 ih6 =>
      have n50 : ∀ (x4 : Int32) (x5 : Int32) (x6 : Int32) (y0 : Int32) (ls : Array Slot), lv_has ls 8 [(0, .ref (ad 0)), (2, .int a2), (3, .int a3), (4, .int x4), (5, .int x5), (6, .int x6)] → X1_romanIn_50 a1 a2 a3 σ (X1_romanIn_6 a1 a2 a3 σ n_6) x4 x5 x6 y0 = some res → W p l e rmX1_romanIn s m args below meth c s.heap [] 0 0 Q (F0 m 50 ls [.int y0]) := by
        intro x4 x5 x6 y0 ls hl h
        rw [X1_romanIn_50] at h
        refine lv_istore (lv' := [(7, .int y0), (0, .ref (ad 0)), (2, .int a2), (3, .int a3), (4, .int x4), (5, .int x5), (6, .int x6)]) hx hb dX1_romanIn_50 hl (by decide) rfl (fun ls hl => ?_)
        refine lv_iload hx hb dX1_romanIn_52 (lv_at hl 4 rfl) ?_
        refine lv_iload hx hb dX1_romanIn_54 (lv_at hl 6 rfl) ?_
        refine lv_iload hx hb dX1_romanIn_56 (lv_at hl 0 rfl) ?_
        refine lv_icmp_ge (tgt := 67) hx hb dX1_romanIn_58 (by decide) (fun c1 => ?_) (fun c1 => ?_)
        · have h := ite_t c1 h
          refine lv_iload hx hb dX1_romanIn_67 (lv_at hl 6 rfl) ?_
          refine lv_iadd hx hb dX1_romanIn_69 ?_
          obtain ⟨x4_2, ex4_2, h⟩ := lt_e h
          refine lv_topE ex4_2 ?_
          refine lv_istore (lv' := [(4, .int x4_2), (7, .int y0), (0, .ref (ad 0)), (2, .int a2), (3, .int a3), (5, .int x5), (6, .int x6)]) hx hb dX1_romanIn_70 hl (by decide) rfl (fun ls hl => ?_)
          obtain ⟨x5_3, ex5_3, h⟩ := lt_e h
          refine lv_iinc (v := x5_3) (lv' := [(5, .int x5_3), (4, .int x4_2), (7, .int y0), (0, .ref (ad 0)), (2, .int a2), (3, .int a3), (6, .int x6)]) hx hb dX1_romanIn_72 hl (k := 5) rfl (by rw [ex5_3]; rfl) (by decide) rfl (fun ls hl => ?_)
          refine lv_goto (tgt := 6) hx hb dX1_romanIn_75 (by decide) ?_
          exact ih6 x4_2 x5_3 _ (lv_sub hl [3, 4, 5, 1, 0] rfl) h
        · have h := ite_f c1 h
          refine lv_iload hx hb dX1_romanIn_61 (lv_at hl 6 rfl) ?_
          refine lv_ineg hx hb dX1_romanIn_63 ?_
          refine lv_goto (tgt := 69) hx hb dX1_romanIn_64 (by decide) ?_
          refine lv_iadd hx hb dX1_romanIn_69 ?_
          obtain ⟨x4_4, ex4_4, h⟩ := lt_e h
          refine lv_topE ex4_4 ?_
          refine lv_istore (lv' := [(4, .int x4_4), (7, .int y0), (0, .ref (ad 0)), (2, .int a2), (3, .int a3), (5, .int x5), (6, .int x6)]) hx hb dX1_romanIn_70 hl (by decide) rfl (fun ls hl => ?_)
          obtain ⟨x5_5, ex5_5, h⟩ := lt_e h
          refine lv_iinc (v := x5_5) (lv' := [(5, .int x5_5), (4, .int x4_4), (7, .int y0), (0, .ref (ad 0)), (2, .int a2), (3, .int a3), (6, .int x6)]) hx hb dX1_romanIn_72 hl (k := 5) rfl (by rw [ex5_5]; rfl) (by decide) rfl (fun ls hl => ?_)
          refine lv_goto (tgt := 6) hx hb dX1_romanIn_75 (by decide) ?_
          exact ih6 x4_4 x5_5 _ (lv_sub hl [3, 4, 5, 1, 0] rfl) h
      intro x4 x5 ls hl h
      rw [X1_romanIn_6] at h
      refine lv_iload hx hb dX1_romanIn_6 (lv_at hl 4 rfl) ?_
      refine lv_iload_n hx hb dX1_romanIn_8 rfl (lv_at hl 1 rfl) ?_
      refine lv_icmp_ge (tgt := 78) hx hb dX1_romanIn_9 (by decide) (fun c6 => ?_) (fun c6 => ?_)
      · have h := ite_t c6 h
        refine lv_iload hx hb dX1_romanIn_78 (lv_at hl 3 rfl) ?_
        exact hR (some (.int x4)) _ _ (by rw [← Option.some.inj h]) rfl dX1_romanIn_80
      · have h := ite_f c6 h
        refine lv_aload_n hx hb dX1_romanIn_12 rfl (lv_at hl 0 rfl) ?_
        refine lv_iload hx hb dX1_romanIn_13 (lv_at hl 4 rfl) ?_
        obtain ⟨r7, hr7, h⟩ := bd_e h
        refine cl_RV (rest := []) (ci := 6) (q0 := 0) ⟨hx, hb, hml, hown, hts⟩ (mX8_byteAt l D cI cZ cB ad σ x5 r7 hr7) (cwV 1 hts gX1_romanIn_X8_byteAt rfl rfl rfl (by decide +kernel) ⟨Nat.le_of_ble_eq_true rfl, Nat.le_of_ble_eq_true rfl⟩) hK hP rfl rfl rfl rfl hl.1 rfl (Nat.le_of_ble_eq_true rfl) dX1_romanIn_15 ⟨Nat.zero_le _, Nat.zero_le _⟩ ?_
        refine W.eq (g2 := F0 m 18 ls [.int r7]) rfl ?_
        refine lv_iload_n hx hb dX1_romanIn_18 rfl (lv_at hl 2 rfl) ?_
        refine lv_isub hx hb dX1_romanIn_19 ?_
        obtain ⟨r8, hr8, h⟩ := bd_e h
        refine cl_RS (rest := []) ⟨hx, hb, hml, hown, hts⟩ (mX1_romanWorth l D cI cZ cB (r7 - a3) r8 hr8) (va_cwS 1 hts gX1_romanIn_X1_romanWorth rfl rfl rfl (by decide +kernel) ⟨Nat.le_of_ble_eq_true rfl, Nat.le_of_ble_eq_true rfl⟩) hK wd0_P rfl hl.1 rfl (Nat.le_of_ble_eq_true rfl) dX1_romanIn_20 ⟨Nat.zero_le _, Nat.zero_le _⟩ ?_
        refine W.eq (g2 := F0 m 23 ls [.int r8]) rfl ?_
        refine lv_istore (lv' := [(6, .int r8), (0, .ref (ad 0)), (2, .int a2), (3, .int a3), (4, .int x4), (5, .int x5)]) hx hb dX1_romanIn_23 hl (by decide) rfl (fun ls hl => ?_)
        refine lv_iload hx hb dX1_romanIn_25 (lv_at hl 5 rfl) ?_
        refine lv_iconst (v := 1) hx hb dX1_romanIn_27 (by decide) ?_
        refine lv_iadd hx hb dX1_romanIn_28 ?_
        refine lv_iload_n hx hb dX1_romanIn_29 rfl (lv_at hl 2 rfl) ?_
        refine lv_icmp_ge (tgt := 49) hx hb dX1_romanIn_30 (by decide) (fun c9 => ?_) (fun c9 => ?_)
        · have h := ite_t c9 h
          refine lv_iconst (v := 0) hx hb dX1_romanIn_49 (by decide) ?_
          exact n50 x4 x5 r8 0 _ (lv_sub hl [1, 2, 3, 4, 5, 0] rfl) h
        · have h := ite_f c9 h
          refine lv_aload_n hx hb dX1_romanIn_33 rfl (lv_at hl 1 rfl) ?_
          refine lv_iload hx hb dX1_romanIn_34 (lv_at hl 5 rfl) ?_
          refine lv_iconst (v := 1) hx hb dX1_romanIn_36 (by decide) ?_
          refine lv_iadd hx hb dX1_romanIn_37 ?_
          obtain ⟨r10, hr10, h⟩ := bd_e h
          refine cl_RV (rest := []) (ci := 6) (q0 := 0) ⟨hx, hb, hml, hown, hts⟩ (mX8_byteAt l D cI cZ cB ad σ (x5 + 1) r10 hr10) (cwV 1 hts gX1_romanIn_X8_byteAt rfl rfl rfl (by decide +kernel) ⟨Nat.le_of_ble_eq_true rfl, Nat.le_of_ble_eq_true rfl⟩) hK hP rfl rfl rfl rfl hl.1 rfl (Nat.le_of_ble_eq_true rfl) dX1_romanIn_38 ⟨Nat.zero_le _, Nat.zero_le _⟩ ?_
          refine W.eq (g2 := F0 m 41 ls [.int r10]) rfl ?_
          refine lv_iload_n hx hb dX1_romanIn_41 rfl (lv_at hl 3 rfl) ?_
          refine lv_isub hx hb dX1_romanIn_42 ?_
          obtain ⟨r11, hr11, h⟩ := bd_e h
          refine cl_RS (rest := []) ⟨hx, hb, hml, hown, hts⟩ (mX1_romanWorth l D cI cZ cB (r10 - a3) r11 hr11) (va_cwS 1 hts gX1_romanIn_X1_romanWorth rfl rfl rfl (by decide +kernel) ⟨Nat.le_of_ble_eq_true rfl, Nat.le_of_ble_eq_true rfl⟩) hK wd0_P rfl hl.1 rfl (Nat.le_of_ble_eq_true rfl) dX1_romanIn_43 ⟨Nat.zero_le _, Nat.zero_le _⟩ ?_
          refine W.eq (g2 := F0 m 46 ls [.int r11]) rfl ?_
          refine lv_goto (tgt := 50) hx hb dX1_romanIn_46 (by decide) ?_
          exact n50 x4 x5 r8 r11 _ (lv_sub hl [1, 2, 3, 4, 5, 0] rfl) h
  rw [X1_romanIn] at h
  refine lv_iconst (v := 0) hx hb dX1_romanIn_0 (by decide) ?_
  refine lv_istore (lv' := [(4, .int 0), (0, .ref (ad 0)), (1, .int a1), (2, .int a2), (3, .int a3)]) hx hb dX1_romanIn_1 hl (by decide) rfl (fun ls hl => ?_)
  refine lv_iload_n hx hb dX1_romanIn_3 rfl (lv_at hl 2 rfl) ?_
  refine lv_istore (lv' := [(5, .int a1), (4, .int 0), (0, .ref (ad 0)), (1, .int a1), (2, .int a2), (3, .int a3)]) hx hb dX1_romanIn_4 hl (by decide) rfl (fun ls hl => ?_)
  exact n6 FU 0 a1 _ (lv_sub hl [2, 4, 5, 1, 0] rfl) h
set_option maxHeartbeats 4000000 in
set_option maxRecDepth 100000 in
theorem mX1_romanIn (l : Launch) (D : va_G) (cI cZ cB : ClassId) (ad : Nat → Nat) (σ : Mem) (a1 : Int32) (a2 : Int32) (a3 : Int32) (res : Int32) (h : X1_romanIn a1 a2 a3 σ = some res) : Met l yX1_romanIn wsX1_romanIn rmX1_romanIn (pR D cI cZ cB (wdX8 cI cZ cB ad σ) [.ref (ad 0), .int a1, .int a2, .int a3]) (qR (some (.int res))) 0 0 (fun _ => False) := (bX1_romanIn l D cI cZ cB ad σ a1 a2 a3 res h).met (by decide +kernel) rfl (Nat.le_of_ble_eq_true rfl)
def rmX1_placesIn : Room := { frames := 1, cells := 0, slots := 0, locals := 21 }
set_option maxHeartbeats 4000000 in
set_option maxRecDepth 100000 in
theorem bX1_placesIn (l : Launch) (D : va_G) (cI cZ cB : ClassId) (ad : Nat → Nat) (σ : Mem) (a1 : Int32) (a2 : Int32) (a3 : Int32) (a4 : Int32) (res : Int32) (h : X1_placesIn a1 a2 a3 a4 σ = some res) : BR l yX1_placesIn wsX1_placesIn rmX1_placesIn cX1_placesIn 7 (some .int) D cI cZ cB (wdX8 cI cZ cB ad σ) [.ref (ad 0), .int a1, .int a2, .int a3, .int a4] (some (.int res)) := by
  intro p e s m args below meth c ls Q hx hb hml hts hown hK hP hl0 hR
  have hl : lv_has ls 7 [(0, .ref (ad 0)), (1, .int a1), (2, .int a2), (3, .int a3), (4, .int a4)] := hl0
  have n6 : ∀ (n : Nat) (x5 : Int32) (x6 : Int32) (ls : Array Slot), lv_has ls 7 [(0, .ref (ad 0)), (2, .int a2), (3, .int a3), (4, .int a4), (5, .int x5), (6, .int x6)] → X1_placesIn_6 a1 a2 a3 a4 σ n x5 x6 = some res → W p l e rmX1_placesIn s m args below meth c s.heap [] 0 0 Q (F0 m 6 ls []) := by
    intro n
    induction n with
    | zero =>
      intro x5 x6 ls hl h
      rw [X1_placesIn_6] at h
      cases h
    | succ n_6 ih6 =>
      intro x5 x6 ls hl h
      rw [X1_placesIn_6] at h
      refine lv_iload hx hb dX1_placesIn_6 (lv_at hl 5 rfl) ?_
      refine lv_iload_n hx hb dX1_placesIn_8 rfl (lv_at hl 1 rfl) ?_
      refine lv_icmp_ge (tgt := 42) hx hb dX1_placesIn_9 (by decide) (fun c1 => ?_) (fun c1 => ?_)
      · have h := ite_t c1 h
        refine lv_iload hx hb dX1_placesIn_42 (lv_at hl 4 rfl) ?_
        exact hR (some (.int x5)) _ _ (by rw [← Option.some.inj h]) rfl dX1_placesIn_44
      · have h := ite_f c1 h
        refine lv_iload hx hb dX1_placesIn_12 (lv_at hl 4 rfl) ?_
        refine lv_sipush (v := 999) hx hb dX1_placesIn_14 (by decide) ?_
        refine lv_icmp_gt (tgt := 42) hx hb dX1_placesIn_17 (by decide) (fun c2 => ?_) (fun c2 => ?_)
        · have h := ite_t c2 h
          refine lv_iload hx hb dX1_placesIn_42 (lv_at hl 4 rfl) ?_
          exact hR (some (.int x5)) _ _ (by rw [← Option.some.inj h]) rfl dX1_placesIn_44
        · have h := ite_f c2 h
          refine lv_iload hx hb dX1_placesIn_20 (lv_at hl 4 rfl) ?_
          refine lv_iload_n hx hb dX1_placesIn_22 rfl (lv_at hl 2 rfl) ?_
          refine lv_imul hx hb dX1_placesIn_23 ?_
          refine lv_aload_n hx hb dX1_placesIn_24 rfl (lv_at hl 0 rfl) ?_
          refine lv_iload hx hb dX1_placesIn_25 (lv_at hl 5 rfl) ?_
          obtain ⟨r3, hr3, h⟩ := bd_e h
          refine cl_RV (rest := [.int (x5 * a3)]) (ci := 6) (q0 := 0) ⟨hx, hb, hml, hown, hts⟩ (mX8_byteAt l D cI cZ cB ad σ x6 r3 hr3) (cwV 1 hts gX1_placesIn_X8_byteAt rfl rfl rfl (by decide +kernel) ⟨Nat.le_of_ble_eq_true rfl, Nat.le_of_ble_eq_true rfl⟩) hK hP rfl rfl rfl rfl hl.1 rfl (Nat.le_of_ble_eq_true rfl) dX1_placesIn_27 ⟨Nat.zero_le _, Nat.zero_le _⟩ ?_
          refine W.eq (g2 := F0 m 30 ls [.int r3, .int (x5 * a3)]) rfl ?_
          refine lv_iadd hx hb dX1_placesIn_30 ?_
          refine lv_iload hx hb dX1_placesIn_31 (lv_at hl 3 rfl) ?_
          refine lv_isub hx hb dX1_placesIn_33 ?_
          obtain ⟨x5_4, ex5_4, h⟩ := lt_e h
          refine lv_topE ex5_4 ?_
          refine lv_istore (lv' := [(5, .int x5_4), (0, .ref (ad 0)), (2, .int a2), (3, .int a3), (4, .int a4), (6, .int x6)]) hx hb dX1_placesIn_34 hl (by decide) rfl (fun ls hl => ?_)
          obtain ⟨x6_5, ex6_5, h⟩ := lt_e h
          refine lv_iinc (v := x6_5) (lv' := [(6, .int x6_5), (5, .int x5_4), (0, .ref (ad 0)), (2, .int a2), (3, .int a3), (4, .int a4)]) hx hb dX1_placesIn_36 hl (k := 5) rfl (by rw [ex6_5]; rfl) (by decide) rfl (fun ls hl => ?_)
          refine lv_goto (tgt := 6) hx hb dX1_placesIn_39 (by decide) ?_
          exact ih6 x5_4 x6_5 _ (lv_sub hl [2, 3, 4, 5, 1, 0] rfl) h
  rw [X1_placesIn] at h
  refine lv_iconst (v := 0) hx hb dX1_placesIn_0 (by decide) ?_
  refine lv_istore (lv' := [(5, .int 0), (0, .ref (ad 0)), (1, .int a1), (2, .int a2), (3, .int a3), (4, .int a4)]) hx hb dX1_placesIn_1 hl (by decide) rfl (fun ls hl => ?_)
  refine lv_iload_n hx hb dX1_placesIn_3 rfl (lv_at hl 2 rfl) ?_
  refine lv_istore (lv' := [(6, .int a1), (5, .int 0), (0, .ref (ad 0)), (1, .int a1), (2, .int a2), (3, .int a3), (4, .int a4)]) hx hb dX1_placesIn_4 hl (by decide) rfl (fun ls hl => ?_)
  exact n6 FU 0 a1 _ (lv_sub hl [2, 4, 5, 6, 1, 0] rfl) h
set_option maxHeartbeats 4000000 in
set_option maxRecDepth 100000 in
theorem mX1_placesIn (l : Launch) (D : va_G) (cI cZ cB : ClassId) (ad : Nat → Nat) (σ : Mem) (a1 : Int32) (a2 : Int32) (a3 : Int32) (a4 : Int32) (res : Int32) (h : X1_placesIn a1 a2 a3 a4 σ = some res) : Met l yX1_placesIn wsX1_placesIn rmX1_placesIn (pR D cI cZ cB (wdX8 cI cZ cB ad σ) [.ref (ad 0), .int a1, .int a2, .int a3, .int a4]) (qR (some (.int res))) 0 0 (fun _ => False) := (bX1_placesIn l D cI cZ cB ad σ a1 a2 a3 a4 res h).met (by decide +kernel) rfl (Nat.le_of_ble_eq_true rfl)
def rmX1_numberIn : Room := { frames := 2, cells := 0, slots := 0, locals := 48 }
set_option maxHeartbeats 4000000 in
set_option maxRecDepth 100000 in
theorem bX1_numberIn (l : Launch) (D : va_G) (cI cZ cB : ClassId) (ad : Nat → Nat) (σ : Mem) (a1 : Int32) (a2 : Int32) (a3 : Int32) (res : Int32) (h : X1_numberIn a1 a2 a3 σ = some res) : BR l yX1_numberIn wsX1_numberIn rmX1_numberIn cX1_numberIn 4 (some .int) D cI cZ cB (wdX8 cI cZ cB ad σ) [.ref (ad 0), .int a1, .int a2, .int a3] (some (.int res)) := by
  intro p e s m args below meth c ls Q hx hb hml hts hown hK hP hl0 hR
  have hl : lv_has ls 4 [(0, .ref (ad 0)), (1, .int a1), (2, .int a2), (3, .int a3)] := hl0
  rw [X1_numberIn] at h
  refine lv_iload_n hx hb dX1_numberIn_0 rfl (lv_at hl 3 rfl) ?_
  by_cases c1 : a3 = 1
  · have h := ite_t c1 h
    refine lv_tableIn (tgt := 28) (off := 27) hx hb dX1_numberIn_1 (by rw [c1]; decide) (by rw [c1]; decide) (by rw [c1]; rfl) (by decide) ?_
    refine lv_aload_n hx hb dX1_numberIn_28 rfl (lv_at hl 0 rfl) ?_
    refine lv_iload_n hx hb dX1_numberIn_29 rfl (lv_at hl 1 rfl) ?_
    refine lv_iload_n hx hb dX1_numberIn_30 rfl (lv_at hl 2 rfl) ?_
    refine lv_iconst (v := 0) hx hb dX1_numberIn_31 (by decide) ?_
    obtain ⟨r2, hr2, h⟩ := bd_e h
    refine cl_RS (rest := []) ⟨hx, hb, hml, hown, hts⟩ (mX1_romanIn l D cI cZ cB ad σ a1 a2 0 r2 hr2) (va_cwS 4 hts gX1_numberIn_X1_romanIn rfl rfl rfl (by decide +kernel) ⟨Nat.le_of_ble_eq_true rfl, Nat.le_of_ble_eq_true rfl⟩) hK hP rfl hl.1 rfl (Nat.le_of_ble_eq_true rfl) dX1_numberIn_32 ⟨Nat.zero_le _, Nat.zero_le _⟩ ?_
    refine W.eq (g2 := F0 m 35 ls [.int r2]) rfl ?_
    exact hR (some (.int r2)) _ _ (by rw [← Option.some.inj h]) rfl dX1_numberIn_35
  have h := ite_f c1 h
  by_cases c3 : a3 = 2
  · have h := ite_t c3 h
    refine lv_tableIn (tgt := 36) (off := 35) hx hb dX1_numberIn_1 (by rw [c3]; decide) (by rw [c3]; decide) (by rw [c3]; rfl) (by decide) ?_
    refine lv_aload_n hx hb dX1_numberIn_36 rfl (lv_at hl 0 rfl) ?_
    refine lv_iload_n hx hb dX1_numberIn_37 rfl (lv_at hl 1 rfl) ?_
    refine lv_iload_n hx hb dX1_numberIn_38 rfl (lv_at hl 2 rfl) ?_
    refine lv_bipush (v := 26) hx hb dX1_numberIn_39 (by decide) ?_
    refine lv_bipush (v := 96) hx hb dX1_numberIn_41 (by decide) ?_
    obtain ⟨r4, hr4, h⟩ := bd_e h
    refine cl_RS (rest := []) ⟨hx, hb, hml, hown, hts⟩ (mX1_placesIn l D cI cZ cB ad σ a1 a2 26 96 r4 hr4) (va_cwS 5 hts gX1_numberIn_X1_placesIn rfl rfl rfl (by decide +kernel) ⟨Nat.le_of_ble_eq_true rfl, Nat.le_of_ble_eq_true rfl⟩) hK hP rfl hl.1 rfl (Nat.le_of_ble_eq_true rfl) dX1_numberIn_43 ⟨Nat.zero_le _, Nat.zero_le _⟩ ?_
    refine W.eq (g2 := F0 m 46 ls [.int r4]) rfl ?_
    exact hR (some (.int r4)) _ _ (by rw [← Option.some.inj h]) rfl dX1_numberIn_46
  have h := ite_f c3 h
  by_cases c5 : a3 = 3
  · have h := ite_t c5 h
    refine lv_tableIn (tgt := 47) (off := 46) hx hb dX1_numberIn_1 (by rw [c5]; decide) (by rw [c5]; decide) (by rw [c5]; rfl) (by decide) ?_
    refine lv_aload_n hx hb dX1_numberIn_47 rfl (lv_at hl 0 rfl) ?_
    refine lv_iload_n hx hb dX1_numberIn_48 rfl (lv_at hl 1 rfl) ?_
    refine lv_iload_n hx hb dX1_numberIn_49 rfl (lv_at hl 2 rfl) ?_
    refine lv_bipush (v := 32) hx hb dX1_numberIn_50 (by decide) ?_
    obtain ⟨r6, hr6, h⟩ := bd_e h
    refine cl_RS (rest := []) ⟨hx, hb, hml, hown, hts⟩ (mX1_romanIn l D cI cZ cB ad σ a1 a2 32 r6 hr6) (va_cwS 4 hts gX1_numberIn_X1_romanIn rfl rfl rfl (by decide +kernel) ⟨Nat.le_of_ble_eq_true rfl, Nat.le_of_ble_eq_true rfl⟩) hK hP rfl hl.1 rfl (Nat.le_of_ble_eq_true rfl) dX1_numberIn_52 ⟨Nat.zero_le _, Nat.zero_le _⟩ ?_
    refine W.eq (g2 := F0 m 55 ls [.int r6]) rfl ?_
    exact hR (some (.int r6)) _ _ (by rw [← Option.some.inj h]) rfl dX1_numberIn_55
  have h := ite_f c5 h
  refine lv_tableOut (tgt := 56) hx hb dX1_numberIn_1 (tb_out 1 3 (fun k h1 h2 => by
    rcases (show k = 1 ∨ k = 2 ∨ k = 3 by omega) with rfl | rfl | rfl
    · exact c1
    · exact c3
    · exact c5)) (by decide) ?_
  refine lv_aload_n hx hb dX1_numberIn_56 rfl (lv_at hl 0 rfl) ?_
  refine lv_iload_n hx hb dX1_numberIn_57 rfl (lv_at hl 1 rfl) ?_
  refine lv_iload_n hx hb dX1_numberIn_58 rfl (lv_at hl 2 rfl) ?_
  refine lv_bipush (v := 10) hx hb dX1_numberIn_59 (by decide) ?_
  refine lv_bipush (v := 48) hx hb dX1_numberIn_61 (by decide) ?_
  obtain ⟨r7, hr7, h⟩ := bd_e h
  refine cl_RS (rest := []) ⟨hx, hb, hml, hown, hts⟩ (mX1_placesIn l D cI cZ cB ad σ a1 a2 10 48 r7 hr7) (va_cwS 5 hts gX1_numberIn_X1_placesIn rfl rfl rfl (by decide +kernel) ⟨Nat.le_of_ble_eq_true rfl, Nat.le_of_ble_eq_true rfl⟩) hK hP rfl hl.1 rfl (Nat.le_of_ble_eq_true rfl) dX1_numberIn_63 ⟨Nat.zero_le _, Nat.zero_le _⟩ ?_
  refine W.eq (g2 := F0 m 66 ls [.int r7]) rfl ?_
  exact hR (some (.int r7)) _ _ (by rw [← Option.some.inj h]) rfl dX1_numberIn_66
set_option maxHeartbeats 4000000 in
set_option maxRecDepth 100000 in
theorem mX1_numberIn (l : Launch) (D : va_G) (cI cZ cB : ClassId) (ad : Nat → Nat) (σ : Mem) (a1 : Int32) (a2 : Int32) (a3 : Int32) (res : Int32) (h : X1_numberIn a1 a2 a3 σ = some res) : Met l yX1_numberIn wsX1_numberIn rmX1_numberIn (pR D cI cZ cB (wdX8 cI cZ cB ad σ) [.ref (ad 0), .int a1, .int a2, .int a3]) (qR (some (.int res))) 0 0 (fun _ => False) := (bX1_numberIn l D cI cZ cB ad σ a1 a2 a3 res h).met (by decide +kernel) rfl (Nat.le_of_ble_eq_true rfl)
def rmX4_meant : Room := { frames := 2, cells := 0, slots := 0, locals := 48 }
set_option maxHeartbeats 4000000 in
set_option maxRecDepth 100000 in
theorem bX4_meant (l : Launch) (D : va_G) (cI cZ cB : ClassId) (ad : Nat → Nat) (σ : Mem) (a2 : Int32) (a3 : Int32) (res : Int32) (h : X4_meant a2 a3 σ = some res) : BR l yX4_meant wsX4_meant rmX4_meant cX4_meant 6 (some .int) D cI cZ cB (wdX4_X8 cI cZ cB ad σ) [.ref (ad 0), .ref (ad 3), .int a2, .int a3] (some (.int res)) := by
  intro p e s m args below meth c ls Q hx hb hml hts hown hK hP hl0 hR
  have hinX4 : ∀ w ∈ u_ws RX4 TX4 5, w ∈ wsX4_meant := (fun _ h => List.mem_cons_of_mem _ (List.mem_append_left _ (List.mem_append_right _ h)))
  have fl1 := hts (.fieldLink RX4 42 "LawNumberer$LabelReader" "behind" "I") (by decide +kernel)
  have hl : lv_has ls 6 [(0, .ref (ad 0)), (1, .ref (ad 3)), (2, .int a2), (3, .int a3)] := hl0
  have n18 : ∀ (n : Nat) (x4 : Int32) (x5 : Int32) (ls : Array Slot), lv_has ls 6 [(0, .ref (ad 0)), (1, .ref (ad 3)), (3, .int a3), (4, .int x4), (5, .int x5)] → X4_meant_18 a2 a3 σ n x4 x5 = some res → W p l e rmX4_meant s m args below meth c s.heap [] 0 0 Q (F0 m 18 ls []) := by
    intro n
    induction n with
    | zero =>
      intro x4 x5 ls hl h
      rw [X4_meant_18] at h
      cases h
    | succ n_18 ih18 =>
      intro x4 x5 ls hl h
      rw [X4_meant_18] at h
      refine lv_iload hx hb dX4_meant_18 (lv_at hl 4 rfl) ?_
      refine lv_aload_n hx hb dX4_meant_20 rfl (lv_at hl 0 rfl) ?_
      refine va_get (ci := 3) (v := .int (σ 0 1)) (C := RX4) (T := TX4) (N := 5) hx hb hts hinX4 hown hK hP 0 rfl rfl 1 (by decide) fl1 (fun _ h9 => h9) rfl dX4_meant_21 ?_
      refine lv_icmp_ge (tgt := 47) hx hb dX4_meant_24 (by decide) (fun c1 => ?_) (fun c1 => ?_)
      · have h := ite_t c1 h
        refine lv_iload_n hx hb dX4_meant_47 rfl (lv_at hl 2 rfl) ?_
        obtain ⟨r2, hr2, h⟩ := bd_e h
        refine cl_RS (rest := []) ⟨hx, hb, hml, hown, hts⟩ (mX5_plain l D cI cZ cB a3 r2 hr2) (va_cwS 1 hts gX4_meant_X5_plain rfl rfl rfl (by decide +kernel) ⟨Nat.le_of_ble_eq_true rfl, Nat.le_of_ble_eq_true rfl⟩) hK wd0_P rfl hl.1 rfl (Nat.le_of_ble_eq_true rfl) dX4_meant_48 ⟨Nat.zero_le _, Nat.zero_le _⟩ ?_
        refine W.eq (g2 := F0 m 51 ls [.int r2]) rfl ?_
        refine lv_iload hx hb dX4_meant_51 (lv_at hl 3 rfl) ?_
        obtain ⟨r3, hr3, h⟩ := bd_e h
        refine cl_RS (rest := []) ⟨hx, hb, hml, hown, hts⟩ (mX5_withSuffix l D cI cZ cB r2 x4 r3 hr3) (va_cwS 2 hts gX4_meant_X5_withSuffix rfl rfl rfl (by decide +kernel) ⟨Nat.le_of_ble_eq_true rfl, Nat.le_of_ble_eq_true rfl⟩) hK wd0_P rfl hl.1 rfl (Nat.le_of_ble_eq_true rfl) dX4_meant_53 ⟨Nat.zero_le _, Nat.zero_le _⟩ ?_
        refine W.eq (g2 := F0 m 56 ls [.int r3]) rfl ?_
        exact hR (some (.int r3)) _ _ (by rw [← Option.some.inj h]) rfl dX4_meant_56
      · have h := ite_f c1 h
        refine lv_iload hx hb dX4_meant_27 (lv_at hl 3 rfl) ?_
        refine lv_bipush (v := 8) hx hb dX4_meant_29 (by decide) ?_
        refine lv_ishl hx hb dX4_meant_31 ?_
        refine lv_aload_n hx hb dX4_meant_32 rfl (lv_at hl 1 rfl) ?_
        refine lv_iload hx hb dX4_meant_33 (lv_at hl 4 rfl) ?_
        obtain ⟨r4, hr4, h⟩ := bd_e h
        refine cl_RV (rest := [.int (x4 <<< (8 &&& 31))]) (ci := 6) (q0 := 0) ⟨hx, hb, hml, hown, hts⟩ (mX8_byteAt l D cI cZ cB (mp ad [3, 4]) (mp σ [3, 4]) x5 r4 hr4) (cwV 1 hts gX4_meant_X8_byteAt rfl rfl rfl (by decide +kernel) ⟨Nat.le_of_ble_eq_true rfl, Nat.le_of_ble_eq_true rfl⟩) hK (hP.sub (ws' := wdX8 cI cZ cB (mp ad [3, 4]) (mp σ [3, 4])) [3, 4] rfl) rfl rfl rfl rfl hl.1 rfl (Nat.le_of_ble_eq_true rfl) dX4_meant_35 ⟨Nat.zero_le _, Nat.zero_le _⟩ ?_
        refine W.eq (g2 := F0 m 38 ls [.int r4, .int (x4 <<< (8 &&& 31))]) rfl ?_
        refine lv_ior hx hb dX4_meant_38 ?_
        obtain ⟨x4_5, ex4_5, h⟩ := lt_e h
        refine lv_topE ex4_5 ?_
        refine lv_istore (lv' := [(4, .int x4_5), (0, .ref (ad 0)), (1, .ref (ad 3)), (3, .int a3), (5, .int x5)]) hx hb dX4_meant_39 hl (by decide) rfl (fun ls hl => ?_)
        obtain ⟨x5_6, ex5_6, h⟩ := lt_e h
        refine lv_iinc (v := x5_6) (lv' := [(5, .int x5_6), (4, .int x4_5), (0, .ref (ad 0)), (1, .ref (ad 3)), (3, .int a3)]) hx hb dX4_meant_41 hl (k := 4) rfl (by rw [ex5_6]; rfl) (by decide) rfl (fun ls hl => ?_)
        refine lv_goto (tgt := 18) hx hb dX4_meant_44 (by decide) ?_
        exact ih18 x4_5 x5_6 _ (lv_sub hl [2, 3, 4, 1, 0] rfl) h
  rw [X4_meant] at h
  refine lv_aload_n hx hb dX4_meant_0 rfl (lv_at hl 0 rfl) ?_
  refine va_get (ci := 3) (v := .int (σ 0 1)) (C := RX4) (T := TX4) (N := 5) hx hb hts hinX4 hown hK hP 0 rfl rfl 1 (by decide) fl1 (fun _ h9 => h9) rfl dX4_meant_1 ?_
  refine lv_iload_n hx hb dX4_meant_4 rfl (lv_at hl 2 rfl) ?_
  refine lv_isub hx hb dX4_meant_5 ?_
  refine lv_iconst (v := 4) hx hb dX4_meant_6 (by decide) ?_
  refine lv_icmp_le (tgt := 12) hx hb dX4_meant_7 (by decide) (fun c7 => ?_) (fun c7 => ?_)
  · have h := ite_t c7 h
    refine lv_iconst (v := 0) hx hb dX4_meant_12 (by decide) ?_
    refine lv_istore (lv' := [(4, .int 0), (0, .ref (ad 0)), (1, .ref (ad 3)), (2, .int a2), (3, .int a3)]) hx hb dX4_meant_13 hl (by decide) rfl (fun ls hl => ?_)
    refine lv_iload_n hx hb dX4_meant_15 rfl (lv_at hl 3 rfl) ?_
    refine lv_istore (lv' := [(5, .int a2), (4, .int 0), (0, .ref (ad 0)), (1, .ref (ad 3)), (2, .int a2), (3, .int a3)]) hx hb dX4_meant_16 hl (by decide) rfl (fun ls hl => ?_)
    exact n18 FU 0 a2 _ (lv_sub hl [2, 3, 5, 1, 0] rfl) h
  · have h := ite_f c7 h
    refine lv_iconst (v := 0) hx hb dX4_meant_10 (by decide) ?_
    exact hR (some (.int 0)) _ _ (by rw [← Option.some.inj h]) rfl dX4_meant_11
set_option maxHeartbeats 4000000 in
set_option maxRecDepth 100000 in
theorem mX4_meant (l : Launch) (D : va_G) (cI cZ cB : ClassId) (ad : Nat → Nat) (σ : Mem) (a2 : Int32) (a3 : Int32) (res : Int32) (h : X4_meant a2 a3 σ = some res) : Met l yX4_meant wsX4_meant rmX4_meant (pR D cI cZ cB (wdX4_X8 cI cZ cB ad σ) [.ref (ad 0), .ref (ad 3), .int a2, .int a3]) (qR (some (.int res))) 0 0 (fun _ => False) := (bX4_meant l D cI cZ cB ad σ a2 a3 res h).met (by decide +kernel) rfl (Nat.le_of_ble_eq_true rfl)
def rmX8_isPart : Room := { frames := 1, cells := 0, slots := 0, locals := 21 }
set_option maxHeartbeats 4000000 in
set_option maxRecDepth 100000 in
theorem bX8_isPart (l : Launch) (D : va_G) (cI cZ cB : ClassId) (ad : Nat → Nat) (σ : Mem) (a1 : Int32) (a2 : Int32) (res : Int32) (h : X8_isPart a1 a2 σ = some res) : BR l yX8_isPart wsX8_isPart rmX8_isPart cX8_isPart 5 (some .boolean) D cI cZ cB (wdX8_X8 cI cZ cB ad σ) [.ref (ad 0), .int a1, .int a2, .ref (ad 2)] (some (.int res)) := by
  intro p e s m args below meth c ls Q hx hb hml hts hown hK hP hl0 hR
  have hinX8 : ∀ w ∈ u_ws RX8 TX8 2, w ∈ wsX8_isPart := (fun _ h => List.mem_cons_of_mem _ (List.mem_append_right _ h))
  have fl1 := hts (.fieldLink RX8 15 "LawNumberer$Text" "length" "I") (by decide +kernel)
  have hl : lv_has ls 5 [(0, .ref (ad 0)), (1, .int a1), (2, .int a2), (3, .ref (ad 2))] := hl0
  have n15 : ∀ (n : Nat) (x4 : Int32) (ls : Array Slot), lv_has ls 5 [(0, .ref (ad 0)), (1, .int a1), (3, .ref (ad 2)), (4, .int x4)] → X8_isPart_15 a1 a2 σ n x4 = some res → W p l e rmX8_isPart s m args below meth c s.heap [] 0 0 Q (F0 m 15 ls []) := by
    intro n
    induction n with
    | zero =>
      intro x4 ls hl h
      rw [X8_isPart_15] at h
      cases h
    | succ n_15 ih15 =>
      intro x4 ls hl h
      rw [X8_isPart_15] at h
      refine lv_iload hx hb dX8_isPart_15 (lv_at hl 3 rfl) ?_
      refine lv_aload_n hx hb dX8_isPart_17 rfl (lv_at hl 2 rfl) ?_
      refine va_get (ci := 6) (v := .int (σ 2 1)) (C := RX8) (T := TX8) (N := 2) hx hb hts hinX8 hown hK hP 2 rfl rfl 1 (by decide) fl1 (fun _ h9 => h9) rfl dX8_isPart_18 ?_
      refine lv_icmp_ge (tgt := 49) hx hb dX8_isPart_21 (by decide) (fun c1 => ?_) (fun c1 => ?_)
      · have h := ite_t c1 h
        refine lv_iconst (v := 1) hx hb dX8_isPart_49 (by decide) ?_
        exact hR (some (.int 1)) _ _ (by rw [← Option.some.inj h]) nb1 dX8_isPart_50
      · have h := ite_f c1 h
        refine lv_aload_n hx hb dX8_isPart_24 rfl (lv_at hl 0 rfl) ?_
        refine lv_iload_n hx hb dX8_isPart_25 rfl (lv_at hl 1 rfl) ?_
        refine lv_iload hx hb dX8_isPart_26 (lv_at hl 3 rfl) ?_
        refine lv_iadd hx hb dX8_isPart_28 ?_
        obtain ⟨r2, hr2, h⟩ := bd_e h
        refine cl_RV (rest := []) (ci := 6) (q0 := 0) ⟨hx, hb, hml, hown, hts⟩ (mX8_byteAt l D cI cZ cB (mp ad [0, 1]) (mp σ [0, 1]) (a1 + x4) r2 hr2) (cwV 1 hts gX8_isPart_X8_byteAt rfl rfl rfl (by decide +kernel) ⟨Nat.le_of_ble_eq_true rfl, Nat.le_of_ble_eq_true rfl⟩) hK (hP.sub (ws' := wdX8 cI cZ cB (mp ad [0, 1]) (mp σ [0, 1])) [0, 1] rfl) rfl rfl rfl rfl hl.1 rfl (Nat.le_of_ble_eq_true rfl) dX8_isPart_29 ⟨Nat.zero_le _, Nat.zero_le _⟩ ?_
        refine W.eq (g2 := F0 m 32 ls [.int r2]) rfl ?_
        refine lv_aload_n hx hb dX8_isPart_32 rfl (lv_at hl 2 rfl) ?_
        refine lv_iload hx hb dX8_isPart_33 (lv_at hl 3 rfl) ?_
        obtain ⟨r3, hr3, h⟩ := bd_e h
        refine cl_RV (rest := [.int r2]) (ci := 6) (q0 := 0) ⟨hx, hb, hml, hown, hts⟩ (mX8_byteAt l D cI cZ cB (mp ad [2, 3]) (mp σ [2, 3]) x4 r3 hr3) (cwV 1 hts gX8_isPart_X8_byteAt rfl rfl rfl (by decide +kernel) ⟨Nat.le_of_ble_eq_true rfl, Nat.le_of_ble_eq_true rfl⟩) hK (hP.sub (ws' := wdX8 cI cZ cB (mp ad [2, 3]) (mp σ [2, 3])) [2, 3] rfl) rfl rfl rfl rfl hl.1 rfl (Nat.le_of_ble_eq_true rfl) dX8_isPart_35 ⟨Nat.zero_le _, Nat.zero_le _⟩ ?_
        refine W.eq (g2 := F0 m 38 ls [.int r3, .int r2]) rfl ?_
        refine lv_icmp_eq (tgt := 43) hx hb dX8_isPart_38 (by decide) (fun c4 => ?_) (fun c4 => ?_)
        · have h := ite_t c4 h
          obtain ⟨x4_5, ex4_5, h⟩ := lt_e h
          refine lv_iinc (v := x4_5) (lv' := [(4, .int x4_5), (0, .ref (ad 0)), (1, .int a1), (3, .ref (ad 2))]) hx hb dX8_isPart_43 hl (k := 3) rfl (by rw [ex4_5]; rfl) (by decide) rfl (fun ls hl => ?_)
          refine lv_goto (tgt := 15) hx hb dX8_isPart_46 (by decide) ?_
          exact ih15 x4_5 _ (lv_sub hl [1, 2, 3, 0] rfl) h
        · have h := ite_f c4 h
          refine lv_iconst (v := 0) hx hb dX8_isPart_41 (by decide) ?_
          exact hR (some (.int 0)) _ _ (by rw [← Option.some.inj h]) nb0 dX8_isPart_42
  rw [X8_isPart] at h
  refine lv_iload_n hx hb dX8_isPart_0 rfl (lv_at hl 2 rfl) ?_
  refine lv_iload_n hx hb dX8_isPart_1 rfl (lv_at hl 1 rfl) ?_
  refine lv_isub hx hb dX8_isPart_2 ?_
  refine lv_aload_n hx hb dX8_isPart_3 rfl (lv_at hl 3 rfl) ?_
  refine va_get (ci := 6) (v := .int (σ 2 1)) (C := RX8) (T := TX8) (N := 2) hx hb hts hinX8 hown hK hP 2 rfl rfl 1 (by decide) fl1 (fun _ h9 => h9) rfl dX8_isPart_4 ?_
  refine lv_icmp_eq (tgt := 12) hx hb dX8_isPart_7 (by decide) (fun c6 => ?_) (fun c6 => ?_)
  · have h := ite_t c6 h
    refine lv_iconst (v := 0) hx hb dX8_isPart_12 (by decide) ?_
    refine lv_istore (lv' := [(4, .int 0), (0, .ref (ad 0)), (1, .int a1), (2, .int a2), (3, .ref (ad 2))]) hx hb dX8_isPart_13 hl (by decide) rfl (fun ls hl => ?_)
    exact n15 FU 0 _ (lv_sub hl [1, 2, 4, 0] rfl) h
  · have h := ite_f c6 h
    refine lv_iconst (v := 0) hx hb dX8_isPart_10 (by decide) ?_
    exact hR (some (.int 0)) _ _ (by rw [← Option.some.inj h]) nb0 dX8_isPart_11
set_option maxHeartbeats 4000000 in
set_option maxRecDepth 100000 in
theorem mX8_isPart (l : Launch) (D : va_G) (cI cZ cB : ClassId) (ad : Nat → Nat) (σ : Mem) (a1 : Int32) (a2 : Int32) (res : Int32) (h : X8_isPart a1 a2 σ = some res) : Met l yX8_isPart wsX8_isPart rmX8_isPart (pR D cI cZ cB (wdX8_X8 cI cZ cB ad σ) [.ref (ad 0), .int a1, .int a2, .ref (ad 2)]) (qR (some (.int res))) 0 0 (fun _ => False) := (bX8_isPart l D cI cZ cB ad σ a1 a2 res h).met (by decide +kernel) rfl (Nat.le_of_ble_eq_true rfl)
def rmX4_isAsWritten : Room := { frames := 3, cells := 0, slots := 0, locals := 70 }
set_option maxHeartbeats 4000000 in
set_option maxRecDepth 100000 in
theorem bX4_isAsWritten (K : Nat → Nat) (l : Launch) (D : va_G) (cI cZ cB : ClassId) (ad : Nat → Nat) (σ : Mem) (a2 : Int32) (a3 : Int32) (res : Int32 × Mem) (h : X4_isAsWritten a2 a3 σ = some res) : BWx K l yX4_isAsWritten wsX4_isAsWritten rmX4_isAsWritten cX4_isAsWritten 4 (some .boolean) D cI cZ cB (wdX4_X8 cI cZ cB ad σ) [.ref (ad 0), .ref (ad 3), .int a2, .int a3] (some (.int res.1)) (wdX4_X8 cI cZ cB ad res.2) := by
  intro p e s m args below meth c ls Q A hx hb hml hts hown hX hK hA hP hD hS hl0 hR
  have hX0 := hX
  obtain ⟨⟨hZtS, hTtS, hZtF, hTtF, hZtG, hTtG⟩, ⟨hC1, hC2, hC3⟩, hR1, hR2, hR3, hR4, hR5⟩ := hX0
  have hinX4 : ∀ w ∈ u_ws RX4 TX4 5, w ∈ wsX4_isAsWritten := (fun _ h => List.mem_cons_of_mem _ (List.mem_append_left _ (List.mem_append_right _ h)))
  have hinX8 : ∀ w ∈ u_ws RX8 TX8 2, w ∈ wsX4_isAsWritten := (fun _ h => List.mem_cons_of_mem _ (List.mem_append_right _ h))
  have fl1 := hts (.fieldLink RX4 12 "LawNumberer$LabelReader" "written" "LLawNumberer$Text;") (by decide +kernel)
  have fl2 := hts (.fieldLink RX4 62 "LawNumberer$Text" "length" "I") (by decide +kernel)
  have fl3 := hts (.fieldLink RX4 27 "LawNumberer$LabelReader" "label" "I") (by decide +kernel)
  have fl4 := hts (.fieldLink RX4 42 "LawNumberer$LabelReader" "behind" "I") (by decide +kernel)
  have hl : lv_has ls 4 [(0, .ref (ad 0)), (1, .ref (ad 3)), (2, .int a2), (3, .int a3)] := hl0
  rw [X4_isAsWritten] at h
  have hS := hS
  refine lv_aload_n hx hb dX4_isAsWritten_0 rfl (lv_at hl 0 rfl) ?_
  refine va_get (ci := 3) (v := .ref (ad 1)) (C := RX4) (T := TX4) (N := 5) hx hb hts hinX4 hown hK hP 0 rfl rfl 4 (by decide) fl1 (fun _ h9 => h9) rfl dX4_isAsWritten_1 ?_
  refine lv_iconst (v := 0) hx hb dX4_isAsWritten_4 (by decide) ?_
  obtain ⟨σ1, eσ1, h⟩ := lt_e h
  refine va_put (ci := 6) (v := .int 0) (ty := .int) (C := RX8) (T := TX8) (N := 2) hx hb hts hinX8 tyX8 tyX8_ok nmX8 hown hK hP hD hS 1 rfl rfl 1 (by decide) fl2 (fun _ h9 => h9) rfl (by decide +kernel) rfl rfl (Nat.le_of_ble_eq_true rfl) dX4_isAsWritten_5 (fun H locs hP1 hD1 hS => ?_)
  have hP : va_P D vwCl (wdX4_X8 cI cZ cB ad σ1) H := by rw [eσ1]; exact hP1
  have hD : va_D A (wdX4_X8 cI cZ cB ad σ1) := D_of (by rfl) hD
  refine lv_aload_n hx hb dX4_isAsWritten_8 rfl (lv_at hl 0 rfl) ?_
  refine va_get (ci := 3) (v := .ref (ad 1)) (C := RX4) (T := TX4) (N := 5) hx hb hts hinX4 hown hK hP 0 rfl rfl 4 (by decide) fl1 (fun _ h9 => h9) rfl dX4_isAsWritten_9 ?_
  refine lv_iload_n hx hb dX4_isAsWritten_12 rfl (lv_at hl 3 rfl) ?_
  refine lv_aload_n hx hb dX4_isAsWritten_13 rfl (lv_at hl 0 rfl) ?_
  refine va_get (ci := 3) (v := .int (σ1 0 0)) (C := RX4) (T := TX4) (N := 5) hx hb hts hinX4 hown hK hP 0 rfl rfl 0 (by decide) fl3 (fun _ h9 => h9) rfl dX4_isAsWritten_14 ?_
  obtain ⟨r2, hr2, h⟩ := bd_e h
  obtain ⟨σ3, eσ3, h⟩ := lt_e h
  refine cl_WSx (rest := []) (wn := (wdX4_X8 cI cZ cB ad σ3)) (lp := [1, 2]) ⟨hx, hb, hml, hown, hts⟩ (mX1_writeLabel K l D cI cZ cB (mp ad [1, 2]) (mp σ1 [1, 2]) H.size a3 (σ1 0 0) r2 hr2) (va_cwS 3 hts gX4_isAsWritten_X1_writeLabel rfl rfl rfl (by decide +kernel) ⟨Nat.le_of_ble_eq_true rfl, Nat.le_of_ble_eq_true rfl⟩) hX hK hP hD hS hA rfl rfl rfl (by rw [eσ3]; rfl) rfl rfl hl.1 rfl (Nat.le_of_ble_eq_true rfl) dX4_isAsWritten_17 ⟨Nat.zero_le _, Nat.zero_le _⟩ (fun H locs hP hD hS => ?_)
  refine W.eq (g2 := F0 m 20 ls []) rfl ?_
  refine lv_aload_n hx hb dX4_isAsWritten_20 rfl (lv_at hl 1 rfl) ?_
  refine lv_iload_n hx hb dX4_isAsWritten_21 rfl (lv_at hl 2 rfl) ?_
  refine lv_aload_n hx hb dX4_isAsWritten_22 rfl (lv_at hl 0 rfl) ?_
  refine va_get (ci := 3) (v := .int (σ3 0 1)) (C := RX4) (T := TX4) (N := 5) hx hb hts hinX4 hown hK hP 0 rfl rfl 1 (by decide) fl4 (fun _ h9 => h9) rfl dX4_isAsWritten_23 ?_
  refine lv_aload_n hx hb dX4_isAsWritten_26 rfl (lv_at hl 0 rfl) ?_
  refine va_get (ci := 3) (v := .ref (ad 1)) (C := RX4) (T := TX4) (N := 5) hx hb hts hinX4 hown hK hP 0 rfl rfl 4 (by decide) fl1 (fun _ h9 => h9) rfl dX4_isAsWritten_27 ?_
  obtain ⟨r4, hr4, h⟩ := bd_e h
  refine cl_RV (rest := []) (ci := 6) (q0 := 0) ⟨hx, hb, hml, hown, hts⟩ (mX8_isPart l D cI cZ cB (mp ad [3, 4, 1, 2]) (mp σ3 [3, 4, 1, 2]) a2 (σ3 0 1) r4 hr4) (cwV 3 hts gX4_isAsWritten_X8_isPart rfl rfl rfl (by decide +kernel) ⟨Nat.le_of_ble_eq_true rfl, Nat.le_of_ble_eq_true rfl⟩) hK (hP.sub (ws' := wdX8_X8 cI cZ cB (mp ad [3, 4, 1, 2]) (mp σ3 [3, 4, 1, 2])) [3, 4, 1, 2] rfl) rfl rfl rfl rfl hl.1 rfl (Nat.le_of_ble_eq_true rfl) dX4_isAsWritten_30 ⟨Nat.zero_le _, Nat.zero_le _⟩ ?_
  refine W.eq (g2 := F0 m 33 ls [.int r4]) rfl ?_
  obtain ⟨hg5, h⟩ := gp_e h
  exact hR (some (.int r4)) (wdX4_X8 cI cZ cB ad σ3) _ _ _ _ (by rw [← Option.some.inj h]) (by rw [← Option.some.inj h]) (nb_of hg5) dX4_isAsWritten_33 hP hS
set_option maxHeartbeats 4000000 in
set_option maxRecDepth 100000 in
theorem mX4_isAsWritten (K : Nat → Nat) (l : Launch) (D : va_G) (cI cZ cB : ClassId) (ad : Nat → Nat) (σ : Mem) (sz : Nat) (a2 : Int32) (a3 : Int32) (res : Int32 × Mem) (h : X4_isAsWritten a2 a3 σ = some res) : Met l yX4_isAsWritten wsX4_isAsWritten rmX4_isAsWritten (pWx K D cI cZ cB (wdX4_X8 cI cZ cB ad σ) sz [.ref (ad 0), .ref (ad 3), .int a2, .int a3]) (qW D (some (.int res.1)) (wdX4_X8 cI cZ cB ad res.2) (va_A (wdX4_X8 cI cZ cB ad σ) sz)) 0 0 (va_A (wdX4_X8 cI cZ cB ad σ) sz) := (bX4_isAsWritten K l D cI cZ cB ad σ a2 a3 res h).met (by decide +kernel) rfl (Nat.le_of_ble_eq_true rfl)
def rmX4_readAt : Room := { frames := 4, cells := 0, slots := 0, locals := 93 }
set_option maxHeartbeats 4000000 in
set_option maxRecDepth 100000 in
theorem bX4_readAt (K : Nat → Nat) (l : Launch) (D : va_G) (cI cZ cB : ClassId) (ad : Nat → Nat) (σ : Mem) (a2 : Int32) (a3 : Int32) (res : Mem) (h : X4_readAt a2 a3 σ = some res) : BWx K l yX4_readAt wsX4_readAt rmX4_readAt cX4_readAt 7 none D cI cZ cB (wdX4_X8 cI cZ cB ad σ) [.ref (ad 0), .ref (ad 3), .int a2, .int a3] none (wdX4_X8 cI cZ cB ad res) := by
  intro p e s m args below meth c ls Q A hx hb hml hts hown hX hK hA hP hD hS hl0 hR
  have hX0 := hX
  obtain ⟨⟨hZtS, hTtS, hZtF, hTtF, hZtG, hTtG⟩, ⟨hC1, hC2, hC3⟩, hR1, hR2, hR3, hR4, hR5⟩ := hX0
  have hinX4 : ∀ w ∈ u_ws RX4 TX4 5, w ∈ wsX4_readAt := (fun _ h => List.mem_cons_of_mem _ (List.mem_append_left _ (List.mem_append_right _ h)))
  have fl1 := hts (.fieldLink RX4 27 "LawNumberer$LabelReader" "label" "I") (by decide +kernel)
  have fl2 := hts (.fieldLink RX4 42 "LawNumberer$LabelReader" "behind" "I") (by decide +kernel)
  have fl3 := hts (.fieldLink RX4 18 "LawNumberer$LabelReader" "fault" "I") (by decide +kernel)
  have fl4 := hts (.fieldLink RX4 22 "LawNumberer$LabelReader" "faultPlace" "I") (by decide +kernel)
  have hl : lv_has ls 7 [(0, .ref (ad 0)), (1, .ref (ad 3)), (2, .int a2), (3, .int a3)] := hl0
  have n157 : ∀ (σ : Mem) (H : Heap) (locs : List Loc), va_P D vwCl (wdX4_X8 cI cZ cB ad σ) H → va_D A (wdX4_X8 cI cZ cB ad σ) → va_S A s.heap H locs → ∀ (ls : Array Slot), lv_has ls 7 [(0, .ref (ad 0)), (2, .int a2)] → X4_readAt_157 a2 a3 σ = some res → W p l e rmX4_readAt s m args below meth c H locs 0 0 Q (F0 m 157 ls []) := by
    intro σ H locs hP hD hS ls hl h
    rw [X4_readAt_157] at h
    refine lv_aload_n hx hb dX4_readAt_157 rfl (lv_at hl 0 rfl) ?_
    refine lv_iload_n hx hb dX4_readAt_158 rfl (lv_at hl 1 rfl) ?_
    refine lv_iconst (v := 2) hx hb dX4_readAt_159 (by decide) ?_
    obtain ⟨r1, hr1, h⟩ := bd_e h
    obtain ⟨σ2, eσ2, h⟩ := lt_e h
    refine cl_WV (rest := []) (wn := (wdX4_X8 cI cZ cB ad σ2)) (lp := [0, 1, 2]) (ci := 3) (q0 := 0) ⟨hx, hb, hml, hown, hts⟩ (mX4_failAt l D cI cZ cB (mp ad [0, 1, 2]) (mp σ [0, 1, 2]) H.size a2 2 r1 hr1) (cwV 2 hts gX4_readAt_X4_failAt rfl rfl rfl (by decide +kernel) ⟨Nat.le_of_ble_eq_true rfl, Nat.le_of_ble_eq_true rfl⟩) hK hP hD hS hA rfl rfl rfl (by rw [eσ2]; rfl) rfl rfl rfl rfl rfl hl.1 rfl (Nat.le_of_ble_eq_true rfl) dX4_readAt_160 ⟨Nat.zero_le _, Nat.zero_le _⟩ (fun H locs hP hD hS => ?_)
    refine W.eq (g2 := F0 m 163 ls []) rfl ?_
    exact hR none (wdX4_X8 cI cZ cB ad σ2) _ _ _ _ rfl (by rw [← Option.some.inj h]) trivial dX4_readAt_163 hP hS
  have n121 : ∀ (x4 : Int32) (x6 : Int32) (σ : Mem) (H : Heap) (locs : List Loc), va_P D vwCl (wdX4_X8 cI cZ cB ad σ) H → va_D A (wdX4_X8 cI cZ cB ad σ) → va_S A s.heap H locs → ∀ (ls : Array Slot), lv_has ls 7 [(0, .ref (ad 0)), (1, .ref (ad 3)), (2, .int a2), (3, .int a3), (4, .int x4), (6, .int x6)] → X4_readAt_121 a2 a3 x4 x6 σ = some res → W p l e rmX4_readAt s m args below meth c H locs 0 0 Q (F0 m 121 ls []) := by
    intro x4 x6 σ H locs hP hD hS ls hl h
    rw [X4_readAt_121] at h
    refine lv_aload_n hx hb dX4_readAt_121 rfl (lv_at hl 0 rfl) ?_
    refine lv_aload_n hx hb dX4_readAt_122 rfl (lv_at hl 0 rfl) ?_
    refine lv_aload_n hx hb dX4_readAt_123 rfl (lv_at hl 1 rfl) ?_
    refine lv_iload hx hb dX4_readAt_124 (lv_at hl 5 rfl) ?_
    refine lv_aload_n hx hb dX4_readAt_126 rfl (lv_at hl 1 rfl) ?_
    refine lv_iload_n hx hb dX4_readAt_127 rfl (lv_at hl 2 rfl) ?_
    refine lv_iload hx hb dX4_readAt_128 (lv_at hl 4 rfl) ?_
    refine lv_iload_n hx hb dX4_readAt_130 rfl (lv_at hl 3 rfl) ?_
    obtain ⟨r3, hr3, h⟩ := bd_e h
    refine cl_RS (rest := [.int x6, .ref (ad 3), .ref (ad 0), .ref (ad 0)]) ⟨hx, hb, hml, hown, hts⟩ (mX1_numberIn l D cI cZ cB (mp ad [3, 4]) (mp σ [3, 4]) a2 x4 a3 r3 hr3) (va_cwS 4 hts gX4_readAt_X1_numberIn rfl rfl rfl (by decide +kernel) ⟨Nat.le_of_ble_eq_true rfl, Nat.le_of_ble_eq_true rfl⟩) hK (hP.sub (ws' := wdX8 cI cZ cB (mp ad [3, 4]) (mp σ [3, 4])) [3, 4] rfl) rfl hl.1 rfl (Nat.le_of_ble_eq_true rfl) dX4_readAt_131 ⟨Nat.zero_le _, Nat.zero_le _⟩ ?_
    refine W.eq (g2 := F0 m 134 ls [.int r3, .int x6, .ref (ad 3), .ref (ad 0), .ref (ad 0)]) rfl ?_
    obtain ⟨r4, hr4, h⟩ := bd_e h
    refine cl_RV (rest := [.ref (ad 0)]) (ci := 3) (q0 := 0) ⟨hx, hb, hml, hown, hts⟩ (mX4_meant l D cI cZ cB ad σ x6 r3 r4 hr4) (cwV 3 hts gX4_readAt_X4_meant rfl rfl rfl (by decide +kernel) ⟨Nat.le_of_ble_eq_true rfl, Nat.le_of_ble_eq_true rfl⟩) hK hP rfl rfl rfl rfl hl.1 rfl (Nat.le_of_ble_eq_true rfl) dX4_readAt_134 ⟨Nat.zero_le _, Nat.zero_le _⟩ ?_
    refine W.eq (g2 := F0 m 137 ls [.int r4, .ref (ad 0)]) rfl ?_
    obtain ⟨σ5, eσ5, h⟩ := lt_e h
    refine va_put (ci := 3) (v := .int r4) (ty := .int) (C := RX4) (T := TX4) (N := 5) hx hb hts hinX4 tyX4 tyX4_ok nmX4 hown hK hP hD hS 0 rfl rfl 0 (by decide) fl1 (fun _ h9 => h9) rfl (by decide +kernel) rfl rfl (Nat.le_of_ble_eq_true rfl) dX4_readAt_137 (fun H locs hP1 hD1 hS => ?_)
    have hP : va_P D vwCl (wdX4_X8 cI cZ cB ad σ5) H := by rw [eσ5]; exact hP1
    have hD : va_D A (wdX4_X8 cI cZ cB ad σ5) := D_of (by rfl) hD
    refine lv_aload_n hx hb dX4_readAt_140 rfl (lv_at hl 0 rfl) ?_
    refine va_get (ci := 3) (v := .int (σ5 0 0)) (C := RX4) (T := TX4) (N := 5) hx hb hts hinX4 hown hK hP 0 rfl rfl 0 (by decide) fl1 (fun _ h9 => h9) rfl dX4_readAt_141 ?_
    refine lv_if_eq (tgt := 157) hx hb dX4_readAt_144 (by decide) (fun c6 => ?_) (fun c6 => ?_)
    · have h := ite_t c6 h
      exact n157 σ5 _ _ hP hD hS _ (lv_sub hl [0, 2] rfl) h
    · have h := ite_f c6 h
      refine lv_aload_n hx hb dX4_readAt_147 rfl (lv_at hl 0 rfl) ?_
      refine lv_aload_n hx hb dX4_readAt_148 rfl (lv_at hl 1 rfl) ?_
      refine lv_iload_n hx hb dX4_readAt_149 rfl (lv_at hl 2 rfl) ?_
      refine lv_iload_n hx hb dX4_readAt_150 rfl (lv_at hl 3 rfl) ?_
      obtain ⟨r7, hr7, h⟩ := bd_e h
      obtain ⟨σ8, eσ8, h⟩ := lt_e h
      refine cl_WVsx (rest := []) (wn := (wdX4_X8 cI cZ cB ad σ8)) (ci := 3) (q0 := 0) ⟨hx, hb, hml, hown, hts⟩ (mX4_isAsWritten K l D cI cZ cB ad σ5 H.size a2 a3 r7 hr7) (cwV 3 hts gX4_readAt_X4_isAsWritten rfl rfl rfl (by decide +kernel) ⟨Nat.le_of_ble_eq_true rfl, Nat.le_of_ble_eq_true rfl⟩) hX hK hP hD hS hA (by rw [eσ8]) rfl rfl rfl rfl rfl hl.1 rfl (Nat.le_of_ble_eq_true rfl) dX4_readAt_151 ⟨Nat.zero_le _, Nat.zero_le _⟩ (fun H locs hP hD hS => ?_)
      refine W.eq (g2 := F0 m 154 ls [.int r7.1]) rfl ?_
      refine lv_if_ne (tgt := 163) hx hb dX4_readAt_154 (by decide) (fun c9 => ?_) (fun c9 => ?_)
      · have h := ite_f c9 h
        exact hR none (wdX4_X8 cI cZ cB ad σ8) _ _ _ _ rfl (by rw [← Option.some.inj h]) trivial dX4_readAt_163 hP hS
      · have h := ite_t c9 h
        exact n157 σ8 _ _ hP hD hS _ (lv_sub hl [0, 2] rfl) h
  have n99 : ∀ (x4 : Int32) (x5 : Int32) (x6 : Int32) (σ : Mem) (H : Heap) (locs : List Loc), va_P D vwCl (wdX4_X8 cI cZ cB ad σ) H → va_D A (wdX4_X8 cI cZ cB ad σ) → va_S A s.heap H locs → ∀ (ls : Array Slot), lv_has ls 7 [(0, .ref (ad 0)), (1, .ref (ad 3)), (2, .int a2), (3, .int a3), (4, .int x4), (5, .int x5), (6, .int x6)] → X4_readAt_99 a2 a3 x4 x5 x6 σ = some res → W p l e rmX4_readAt s m args below meth c H locs 0 0 Q (F0 m 99 ls []) := by
    intro x4 x5 x6 σ H locs hP hD hS ls hl h
    rw [X4_readAt_99] at h
    refine lv_iload hx hb dX4_readAt_99 (lv_at hl 5 rfl) ?_
    refine lv_if_eq (tgt := 121) hx hb dX4_readAt_101 (by decide) (fun c10 => ?_) (fun c10 => ?_)
    · have h := ite_t c10 h
      exact n121 x4 x6 σ _ _ hP hD hS _ (lv_sub hl [0, 1, 2, 3, 4, 6] rfl) h
    · have h := ite_f c10 h
      refine lv_aload_n hx hb dX4_readAt_104 rfl (lv_at hl 0 rfl) ?_
      refine va_get (ci := 3) (v := .int (σ 0 1)) (C := RX4) (T := TX4) (N := 5) hx hb hts hinX4 hown hK hP 0 rfl rfl 1 (by decide) fl2 (fun _ h9 => h9) rfl dX4_readAt_105 ?_
      refine lv_iload hx hb dX4_readAt_108 (lv_at hl 6 rfl) ?_
      refine lv_icmp_ne (tgt := 121) hx hb dX4_readAt_110 (by decide) (fun c11 => ?_) (fun c11 => ?_)
      · have h := ite_f c11 h
        exact n121 x4 x6 σ _ _ hP hD hS _ (lv_sub hl [0, 1, 2, 3, 4, 6] rfl) h
      · have h := ite_t c11 h
        refine lv_aload_n hx hb dX4_readAt_113 rfl (lv_at hl 0 rfl) ?_
        refine lv_iload hx hb dX4_readAt_114 (lv_at hl 6 rfl) ?_
        refine lv_iconst (v := 1) hx hb dX4_readAt_116 (by decide) ?_
        obtain ⟨r12, hr12, h⟩ := bd_e h
        obtain ⟨σ13, eσ13, h⟩ := lt_e h
        refine cl_WV (rest := []) (wn := (wdX4_X8 cI cZ cB ad σ13)) (lp := [0, 1, 2]) (ci := 3) (q0 := 0) ⟨hx, hb, hml, hown, hts⟩ (mX4_failAt l D cI cZ cB (mp ad [0, 1, 2]) (mp σ [0, 1, 2]) H.size x6 1 r12 hr12) (cwV 2 hts gX4_readAt_X4_failAt rfl rfl rfl (by decide +kernel) ⟨Nat.le_of_ble_eq_true rfl, Nat.le_of_ble_eq_true rfl⟩) hK hP hD hS hA rfl rfl rfl (by rw [eσ13]; rfl) rfl rfl rfl rfl rfl hl.1 rfl (Nat.le_of_ble_eq_true rfl) dX4_readAt_117 ⟨Nat.zero_le _, Nat.zero_le _⟩ (fun H locs hP hD hS => ?_)
        refine W.eq (g2 := F0 m 120 ls []) rfl ?_
        exact hR none (wdX4_X8 cI cZ cB ad σ13) _ _ _ _ rfl (by rw [← Option.some.inj h]) trivial dX4_readAt_120 hP hS
  have n89 : ∀ (x4 : Int32) (x5 : Int32) (x6 : Int32) (σ : Mem) (H : Heap) (locs : List Loc), va_P D vwCl (wdX4_X8 cI cZ cB ad σ) H → va_D A (wdX4_X8 cI cZ cB ad σ) → va_S A s.heap H locs → ∀ (ls : Array Slot), lv_has ls 7 [(0, .ref (ad 0)), (1, .ref (ad 3)), (2, .int a2), (3, .int a3), (4, .int x4), (5, .int x5), (6, .int x6)] → X4_readAt_89 a2 a3 x4 x5 x6 σ = some res → W p l e rmX4_readAt s m args below meth c H locs 0 0 Q (F0 m 89 ls []) := by
    intro x4 x5 x6 σ H locs hP hD hS ls hl h
    rw [X4_readAt_89] at h
    refine lv_aload_n hx hb dX4_readAt_89 rfl (lv_at hl 0 rfl) ?_
    refine lv_aload_n hx hb dX4_readAt_90 rfl (lv_at hl 1 rfl) ?_
    refine lv_iload hx hb dX4_readAt_91 (lv_at hl 6 rfl) ?_
    obtain ⟨r14, hr14, h⟩ := bd_e h
    refine cl_RS (rest := [.ref (ad 0)]) ⟨hx, hb, hml, hown, hts⟩ (mX4_capitalsEnd l D cI cZ cB (mp ad [3, 4]) (mp σ [3, 4]) x6 r14 hr14) (va_cwS 2 hts gX4_readAt_X4_capitalsEnd rfl rfl rfl (by decide +kernel) ⟨Nat.le_of_ble_eq_true rfl, Nat.le_of_ble_eq_true rfl⟩) hK (hP.sub (ws' := wdX8 cI cZ cB (mp ad [3, 4]) (mp σ [3, 4])) [3, 4] rfl) rfl hl.1 rfl (Nat.le_of_ble_eq_true rfl) dX4_readAt_93 ⟨Nat.zero_le _, Nat.zero_le _⟩ ?_
    refine W.eq (g2 := F0 m 96 ls [.int r14, .ref (ad 0)]) rfl ?_
    obtain ⟨σ15, eσ15, h⟩ := lt_e h
    refine va_put (ci := 3) (v := .int r14) (ty := .int) (C := RX4) (T := TX4) (N := 5) hx hb hts hinX4 tyX4 tyX4_ok nmX4 hown hK hP hD hS 0 rfl rfl 1 (by decide) fl2 (fun _ h9 => h9) rfl (by decide +kernel) rfl rfl (Nat.le_of_ble_eq_true rfl) dX4_readAt_96 (fun H locs hP1 hD1 hS => ?_)
    have hP : va_P D vwCl (wdX4_X8 cI cZ cB ad σ15) H := by rw [eσ15]; exact hP1
    have hD : va_D A (wdX4_X8 cI cZ cB ad σ15) := D_of (by rfl) hD
    exact n99 x4 x5 x6 σ15 _ _ hP hD hS _ (lv_sub hl [0, 1, 2, 3, 4, 5, 6] rfl) h
  have n72 : ∀ (x4 : Int32) (x5 : Int32) (y0 : Int32) (σ : Mem) (H : Heap) (locs : List Loc), va_P D vwCl (wdX4_X8 cI cZ cB ad σ) H → va_D A (wdX4_X8 cI cZ cB ad σ) → va_S A s.heap H locs → ∀ (ls : Array Slot), lv_has ls 7 [(0, .ref (ad 0)), (1, .ref (ad 3)), (2, .int a2), (3, .int a3), (4, .int x4), (5, .int x5)] → X4_readAt_72 a2 a3 x4 x5 y0 σ = some res → W p l e rmX4_readAt s m args below meth c H locs 0 0 Q (F0 m 72 ls [.int y0]) := by
    intro x4 x5 y0 σ H locs hP hD hS ls hl h
    rw [X4_readAt_72] at h
    refine lv_istore (lv' := [(6, .int y0), (0, .ref (ad 0)), (1, .ref (ad 3)), (2, .int a2), (3, .int a3), (4, .int x4), (5, .int x5)]) hx hb dX4_readAt_72 hl (by decide) rfl (fun ls hl => ?_)
    refine lv_aload_n hx hb dX4_readAt_74 rfl (lv_at hl 1 rfl) ?_
    refine lv_iload hx hb dX4_readAt_75 (lv_at hl 0 rfl) ?_
    obtain ⟨σ16, eσ16, h⟩ := lt_e h
    refine va_put (ci := 3) (v := .int y0) (ty := .int) (C := RX4) (T := TX4) (N := 5) hx hb hts hinX4 tyX4 tyX4_ok nmX4 hown hK hP hD hS 0 rfl rfl 1 (by decide) fl2 (fun _ h9 => h9) rfl (by decide +kernel) rfl rfl (Nat.le_of_ble_eq_true rfl) dX4_readAt_77 (fun H locs hP1 hD1 hS => ?_)
    have hP : va_P D vwCl (wdX4_X8 cI cZ cB ad σ16) H := by rw [eσ16]; exact hP1
    have hD : va_D A (wdX4_X8 cI cZ cB ad σ16) := D_of (by rfl) hD
    refine lv_iload hx hb dX4_readAt_80 (lv_at hl 6 rfl) ?_
    refine lv_if_ne (tgt := 89) hx hb dX4_readAt_82 (by decide) (fun c17 => ?_) (fun c17 => ?_)
    · have h := ite_f c17 h
      exact n89 x4 x5 y0 σ16 _ _ hP hD hS _ (lv_sub hl [1, 2, 3, 4, 5, 6, 0] rfl) h
    · have h := ite_t c17 h
      refine lv_iload_n hx hb dX4_readAt_85 rfl (lv_at hl 4 rfl) ?_
      refine lv_if_ne (tgt := 99) hx hb dX4_readAt_86 (by decide) (fun c18 => ?_) (fun c18 => ?_)
      · have h := ite_f c18 h
        exact n99 x4 x5 y0 σ16 _ _ hP hD hS _ (lv_sub hl [1, 2, 3, 4, 5, 6, 0] rfl) h
      · have h := ite_t c18 h
        exact n89 x4 x5 y0 σ16 _ _ hP hD hS _ (lv_sub hl [1, 2, 3, 4, 5, 6, 0] rfl) h
  have n56 : ∀ (x4 : Int32) (y0 : Int32) (σ : Mem) (H : Heap) (locs : List Loc), va_P D vwCl (wdX4_X8 cI cZ cB ad σ) H → va_D A (wdX4_X8 cI cZ cB ad σ) → va_S A s.heap H locs → ∀ (ls : Array Slot), lv_has ls 7 [(0, .ref (ad 0)), (1, .ref (ad 3)), (2, .int a2), (3, .int a3), (4, .int x4)] → X4_readAt_56 a2 a3 x4 y0 σ = some res → W p l e rmX4_readAt s m args below meth c H locs 0 0 Q (F0 m 56 ls [.int y0]) := by
    intro x4 y0 σ H locs hP hD hS ls hl h
    rw [X4_readAt_56] at h
    refine lv_istore (lv' := [(5, .int y0), (0, .ref (ad 0)), (1, .ref (ad 3)), (2, .int a2), (3, .int a3), (4, .int x4)]) hx hb dX4_readAt_56 hl (by decide) rfl (fun ls hl => ?_)
    refine lv_iload hx hb dX4_readAt_58 (lv_at hl 0 rfl) ?_
    refine lv_if_eq (tgt := 70) hx hb dX4_readAt_60 (by decide) (fun c19 => ?_) (fun c19 => ?_)
    · have h := ite_t c19 h
      refine lv_iload hx hb dX4_readAt_70 (lv_at hl 5 rfl) ?_
      exact n72 x4 y0 x4 σ _ _ hP hD hS _ (lv_sub hl [1, 2, 3, 4, 5, 0] rfl) h
    · have h := ite_f c19 h
      refine lv_iload hx hb dX4_readAt_63 (lv_at hl 5 rfl) ?_
      refine lv_iconst (v := 1) hx hb dX4_readAt_65 (by decide) ?_
      refine lv_iadd hx hb dX4_readAt_66 ?_
      refine lv_goto (tgt := 72) hx hb dX4_readAt_67 (by decide) ?_
      exact n72 x4 y0 (x4 + 1) σ _ _ hP hD hS _ (lv_sub hl [1, 2, 3, 4, 5, 0] rfl) h
  have n55 : ∀ (x4 : Int32) (σ : Mem) (H : Heap) (locs : List Loc), va_P D vwCl (wdX4_X8 cI cZ cB ad σ) H → va_D A (wdX4_X8 cI cZ cB ad σ) → va_S A s.heap H locs → ∀ (ls : Array Slot), lv_has ls 7 [(0, .ref (ad 0)), (1, .ref (ad 3)), (2, .int a2), (3, .int a3), (4, .int x4)] → X4_readAt_55 a2 a3 x4 σ = some res → W p l e rmX4_readAt s m args below meth c H locs 0 0 Q (F0 m 55 ls []) := by
    intro x4 σ H locs hP hD hS ls hl h
    rw [X4_readAt_55] at h
    refine lv_iconst (v := 0) hx hb dX4_readAt_55 (by decide) ?_
    exact n56 x4 0 σ _ _ hP hD hS _ (lv_sub hl [0, 1, 2, 3, 4] rfl) h
  rw [X4_readAt] at h
  have hS := hS
  refine lv_aload_n hx hb dX4_readAt_0 rfl (lv_at hl 0 rfl) ?_
  refine lv_iconst (v := 0) hx hb dX4_readAt_1 (by decide) ?_
  obtain ⟨σ20, eσ20, h⟩ := lt_e h
  refine va_put (ci := 3) (v := .int 0) (ty := .int) (C := RX4) (T := TX4) (N := 5) hx hb hts hinX4 tyX4 tyX4_ok nmX4 hown hK hP hD hS 0 rfl rfl 2 (by decide) fl3 (fun _ h9 => h9) rfl (by decide +kernel) rfl rfl (Nat.le_of_ble_eq_true rfl) dX4_readAt_2 (fun H locs hP1 hD1 hS => ?_)
  have hP : va_P D vwCl (wdX4_X8 cI cZ cB ad σ20) H := by rw [eσ20]; exact hP1
  have hD : va_D A (wdX4_X8 cI cZ cB ad σ20) := D_of (by rfl) hD
  refine lv_aload_n hx hb dX4_readAt_5 rfl (lv_at hl 0 rfl) ?_
  refine lv_iconst (v := (-1)) hx hb dX4_readAt_6 (by decide) ?_
  obtain ⟨σ21, eσ21, h⟩ := lt_e h
  refine va_put (ci := 3) (v := .int (-1)) (ty := .int) (C := RX4) (T := TX4) (N := 5) hx hb hts hinX4 tyX4 tyX4_ok nmX4 hown hK hP hD hS 0 rfl rfl 3 (by decide) fl4 (fun _ h9 => h9) rfl (by decide +kernel) rfl rfl (Nat.le_of_ble_eq_true rfl) dX4_readAt_7 (fun H locs hP1 hD1 hS => ?_)
  have hP : va_P D vwCl (wdX4_X8 cI cZ cB ad σ21) H := by rw [eσ21]; exact hP1
  have hD : va_D A (wdX4_X8 cI cZ cB ad σ21) := D_of (by rfl) hD
  refine lv_aload_n hx hb dX4_readAt_10 rfl (lv_at hl 0 rfl) ?_
  refine lv_iconst (v := 0) hx hb dX4_readAt_11 (by decide) ?_
  obtain ⟨σ22, eσ22, h⟩ := lt_e h
  refine va_put (ci := 3) (v := .int 0) (ty := .int) (C := RX4) (T := TX4) (N := 5) hx hb hts hinX4 tyX4 tyX4_ok nmX4 hown hK hP hD hS 0 rfl rfl 0 (by decide) fl1 (fun _ h9 => h9) rfl (by decide +kernel) rfl rfl (Nat.le_of_ble_eq_true rfl) dX4_readAt_12 (fun H locs hP1 hD1 hS => ?_)
  have hP : va_P D vwCl (wdX4_X8 cI cZ cB ad σ22) H := by rw [eσ22]; exact hP1
  have hD : va_D A (wdX4_X8 cI cZ cB ad σ22) := D_of (by rfl) hD
  refine lv_aload_n hx hb dX4_readAt_15 rfl (lv_at hl 1 rfl) ?_
  refine lv_iload_n hx hb dX4_readAt_16 rfl (lv_at hl 2 rfl) ?_
  refine lv_iload_n hx hb dX4_readAt_17 rfl (lv_at hl 3 rfl) ?_
  obtain ⟨r23, hr23, h⟩ := bd_e h
  refine cl_RS (rest := []) ⟨hx, hb, hml, hown, hts⟩ (mX4_numeralsEnd l D cI cZ cB (mp ad [3, 4]) (mp σ22 [3, 4]) a2 a3 r23 hr23) (va_cwS 3 hts gX4_readAt_X4_numeralsEnd rfl rfl rfl (by decide +kernel) ⟨Nat.le_of_ble_eq_true rfl, Nat.le_of_ble_eq_true rfl⟩) hK (hP.sub (ws' := wdX8 cI cZ cB (mp ad [3, 4]) (mp σ22 [3, 4])) [3, 4] rfl) rfl hl.1 rfl (Nat.le_of_ble_eq_true rfl) dX4_readAt_18 ⟨Nat.zero_le _, Nat.zero_le _⟩ ?_
  refine W.eq (g2 := F0 m 21 ls [.int r23]) rfl ?_
  refine lv_istore (lv' := [(4, .int r23), (0, .ref (ad 0)), (1, .ref (ad 3)), (2, .int a2), (3, .int a3)]) hx hb dX4_readAt_21 hl (by decide) rfl (fun ls hl => ?_)
  refine lv_iload hx hb dX4_readAt_23 (lv_at hl 0 rfl) ?_
  refine lv_iload_n hx hb dX4_readAt_25 rfl (lv_at hl 3 rfl) ?_
  refine lv_icmp_ne (tgt := 36) hx hb dX4_readAt_26 (by decide) (fun c24 => ?_) (fun c24 => ?_)
  · have h := ite_f c24 h
    refine lv_iload_n hx hb dX4_readAt_36 rfl (lv_at hl 4 rfl) ?_
    refine lv_if_eq (tgt := 55) hx hb dX4_readAt_37 (by decide) (fun c25 => ?_) (fun c25 => ?_)
    · have h := ite_t c25 h
      exact n55 r23 σ22 _ _ hP hD hS _ (lv_sub hl [1, 2, 3, 4, 0] rfl) h
    · have h := ite_f c25 h
      refine lv_aload_n hx hb dX4_readAt_40 rfl (lv_at hl 2 rfl) ?_
      refine lv_iload hx hb dX4_readAt_41 (lv_at hl 0 rfl) ?_
      obtain ⟨r26, hr26, h⟩ := bd_e h
      refine cl_RV (rest := []) (ci := 6) (q0 := 0) ⟨hx, hb, hml, hown, hts⟩ (mX8_byteAt l D cI cZ cB (mp ad [3, 4]) (mp σ22 [3, 4]) r23 r26 hr26) (cwV 1 hts gX4_readAt_X8_byteAt rfl rfl rfl (by decide +kernel) ⟨Nat.le_of_ble_eq_true rfl, Nat.le_of_ble_eq_true rfl⟩) hK (hP.sub (ws' := wdX8 cI cZ cB (mp ad [3, 4]) (mp σ22 [3, 4])) [3, 4] rfl) rfl rfl rfl rfl hl.1 rfl (Nat.le_of_ble_eq_true rfl) dX4_readAt_43 ⟨Nat.zero_le _, Nat.zero_le _⟩ ?_
      refine W.eq (g2 := F0 m 46 ls [.int r26]) rfl ?_
      refine lv_bipush (v := 45) hx hb dX4_readAt_46 (by decide) ?_
      refine lv_icmp_ne (tgt := 55) hx hb dX4_readAt_48 (by decide) (fun c27 => ?_) (fun c27 => ?_)
      · have h := ite_f c27 h
        exact n55 r23 σ22 _ _ hP hD hS _ (lv_sub hl [1, 2, 3, 4, 0] rfl) h
      · have h := ite_t c27 h
        refine lv_iconst (v := 1) hx hb dX4_readAt_51 (by decide) ?_
        refine lv_goto (tgt := 56) hx hb dX4_readAt_52 (by decide) ?_
        exact n56 r23 1 σ22 _ _ hP hD hS _ (lv_sub hl [1, 2, 3, 4, 0] rfl) h
  · have h := ite_t c24 h
    refine lv_aload_n hx hb dX4_readAt_29 rfl (lv_at hl 1 rfl) ?_
    refine lv_iload_n hx hb dX4_readAt_30 rfl (lv_at hl 3 rfl) ?_
    refine lv_iconst (v := 1) hx hb dX4_readAt_31 (by decide) ?_
    obtain ⟨r28, hr28, h⟩ := bd_e h
    obtain ⟨σ29, eσ29, h⟩ := lt_e h
    refine cl_WV (rest := []) (wn := (wdX4_X8 cI cZ cB ad σ29)) (lp := [0, 1, 2]) (ci := 3) (q0 := 0) ⟨hx, hb, hml, hown, hts⟩ (mX4_failAt l D cI cZ cB (mp ad [0, 1, 2]) (mp σ22 [0, 1, 2]) H.size a2 1 r28 hr28) (cwV 2 hts gX4_readAt_X4_failAt rfl rfl rfl (by decide +kernel) ⟨Nat.le_of_ble_eq_true rfl, Nat.le_of_ble_eq_true rfl⟩) hK hP hD hS hA rfl rfl rfl (by rw [eσ29]; rfl) rfl rfl rfl rfl rfl hl.1 rfl (Nat.le_of_ble_eq_true rfl) dX4_readAt_32 ⟨Nat.zero_le _, Nat.zero_le _⟩ (fun H locs hP hD hS => ?_)
    refine W.eq (g2 := F0 m 35 ls []) rfl ?_
    exact hR none (wdX4_X8 cI cZ cB ad σ29) _ _ _ _ rfl (by rw [← Option.some.inj h]) trivial dX4_readAt_35 hP hS
set_option maxHeartbeats 4000000 in
set_option maxRecDepth 100000 in
theorem mX4_readAt (K : Nat → Nat) (l : Launch) (D : va_G) (cI cZ cB : ClassId) (ad : Nat → Nat) (σ : Mem) (sz : Nat) (a2 : Int32) (a3 : Int32) (res : Mem) (h : X4_readAt a2 a3 σ = some res) : Met l yX4_readAt wsX4_readAt rmX4_readAt (pWx K D cI cZ cB (wdX4_X8 cI cZ cB ad σ) sz [.ref (ad 0), .ref (ad 3), .int a2, .int a3]) (qW D none (wdX4_X8 cI cZ cB ad res) (va_A (wdX4_X8 cI cZ cB ad σ) sz)) 0 0 (va_A (wdX4_X8 cI cZ cB ad σ) sz) := (bX4_readAt K l D cI cZ cB ad σ a2 a3 res h).metv (by decide +kernel) rfl (Nat.le_of_ble_eq_true rfl)
def rmX5_suffixOf : Room := { frames := 2, cells := 0, slots := 0, locals := 42 }
set_option maxHeartbeats 4000000 in
set_option maxRecDepth 100000 in
theorem bX5_suffixOf (l : Launch) (D : va_G) (cI cZ cB : ClassId) (a0 : Int32) (res : Int32) (h : X5_suffixOf a0 = some res) : BR l yX5_suffixOf wsX5_suffixOf rmX5_suffixOf cX5_suffixOf 3 (some .int) D cI cZ cB wd0 [.int a0] (some (.int res)) := by
  intro p e s m args below meth c ls Q hx hb hml hts hown hK hP hl0 hR
  have hl : lv_has ls 3 [(0, .int a0)] := hl0
  have n4 : ∀ (n : Nat) (x1 : Int32) (x2 : Int32) (ls : Array Slot), lv_has ls 3 [(0, .int a0), (1, .int x1), (2, .int x2)] → X5_suffixOf_4 a0 n x1 x2 = some res → W p l e rmX5_suffixOf s m args below meth c s.heap [] 0 0 Q (F0 m 4 ls []) := by
    intro n
    induction n with
    | zero =>
      intro x1 x2 ls hl h
      rw [X5_suffixOf_4] at h
      cases h
    | succ n_4 ih4 =>
      intro x1 x2 ls hl h
      rw [X5_suffixOf_4] at h
      refine lv_iload_n hx hb dX5_suffixOf_4 rfl (lv_at hl 2 rfl) ?_
      refine lv_iload_n hx hb dX5_suffixOf_5 rfl (lv_at hl 0 rfl) ?_
      obtain ⟨r1, hr1, h⟩ := bd_e h
      refine cl_RS (rest := [.int x2]) ⟨hx, hb, hml, hown, hts⟩ (mX5_lettersIn l D cI cZ cB a0 r1 hr1) (va_cwS 1 hts gX5_suffixOf_X5_lettersIn rfl rfl rfl (by decide +kernel) ⟨Nat.le_of_ble_eq_true rfl, Nat.le_of_ble_eq_true rfl⟩) hK hP rfl hl.1 rfl (Nat.le_of_ble_eq_true rfl) dX5_suffixOf_6 ⟨Nat.zero_le _, Nat.zero_le _⟩ ?_
      refine W.eq (g2 := F0 m 9 ls [.int r1, .int x2]) rfl ?_
      refine lv_icmp_ge (tgt := 32) hx hb dX5_suffixOf_9 (by decide) (fun c2 => ?_) (fun c2 => ?_)
      · have h := ite_t c2 h
        refine lv_iload_n hx hb dX5_suffixOf_32 rfl (lv_at hl 1 rfl) ?_
        exact hR (some (.int x1)) _ _ (by rw [← Option.some.inj h]) rfl dX5_suffixOf_33
      · have h := ite_f c2 h
        refine lv_iload_n hx hb dX5_suffixOf_12 rfl (lv_at hl 1 rfl) ?_
        refine lv_bipush (v := 8) hx hb dX5_suffixOf_13 (by decide) ?_
        refine lv_ishl hx hb dX5_suffixOf_15 ?_
        refine lv_bipush (v := 64) hx hb dX5_suffixOf_16 (by decide) ?_
        refine lv_iload_n hx hb dX5_suffixOf_18 rfl (lv_at hl 0 rfl) ?_
        refine lv_iload_n hx hb dX5_suffixOf_19 rfl (lv_at hl 2 rfl) ?_
        obtain ⟨r3, hr3, h⟩ := bd_e h
        refine cl_RS (rest := [.int 64, .int (x1 <<< (8 &&& 31))]) ⟨hx, hb, hml, hown, hts⟩ (mX5_letterOf l D cI cZ cB a0 x2 r3 hr3) (va_cwS 2 hts gX5_suffixOf_X5_letterOf rfl rfl rfl (by decide +kernel) ⟨Nat.le_of_ble_eq_true rfl, Nat.le_of_ble_eq_true rfl⟩) hK hP rfl hl.1 rfl (Nat.le_of_ble_eq_true rfl) dX5_suffixOf_20 ⟨Nat.zero_le _, Nat.zero_le _⟩ ?_
        refine W.eq (g2 := F0 m 23 ls [.int r3, .int 64, .int (x1 <<< (8 &&& 31))]) rfl ?_
        refine lv_iadd hx hb dX5_suffixOf_23 ?_
        refine lv_ior hx hb dX5_suffixOf_24 ?_
        obtain ⟨x1_4, ex1_4, h⟩ := lt_e h
        refine lv_topE ex1_4 ?_
        refine lv_istore_n (lv' := [(1, .int x1_4), (0, .int a0), (2, .int x2)]) hx hb dX5_suffixOf_25 rfl hl (by decide) rfl (fun ls hl => ?_)
        obtain ⟨x2_5, ex2_5, h⟩ := lt_e h
        refine lv_iinc (v := x2_5) (lv' := [(2, .int x2_5), (1, .int x1_4), (0, .int a0)]) hx hb dX5_suffixOf_26 hl (k := 2) rfl (by rw [ex2_5]; rfl) (by decide) rfl (fun ls hl => ?_)
        refine lv_goto (tgt := 4) hx hb dX5_suffixOf_29 (by decide) ?_
        exact ih4 x1_4 x2_5 _ (lv_sub hl [2, 1, 0] rfl) h
  rw [X5_suffixOf] at h
  refine lv_iconst (v := 0) hx hb dX5_suffixOf_0 (by decide) ?_
  refine lv_istore_n (lv' := [(1, .int 0), (0, .int a0)]) hx hb dX5_suffixOf_1 rfl hl (by decide) rfl (fun ls hl => ?_)
  refine lv_iconst (v := 0) hx hb dX5_suffixOf_2 (by decide) ?_
  refine lv_istore_n (lv' := [(2, .int 0), (1, .int 0), (0, .int a0)]) hx hb dX5_suffixOf_3 rfl hl (by decide) rfl (fun ls hl => ?_)
  exact n4 FU 0 0 _ (lv_sub hl [2, 1, 0] rfl) h
set_option maxHeartbeats 4000000 in
set_option maxRecDepth 100000 in
theorem mX5_suffixOf (l : Launch) (D : va_G) (cI cZ cB : ClassId) (a0 : Int32) (res : Int32) (h : X5_suffixOf a0 = some res) : Met l yX5_suffixOf wsX5_suffixOf rmX5_suffixOf (pR D cI cZ cB wd0 [.int a0]) (qR (some (.int res))) 0 0 (fun _ => False) := (bX5_suffixOf l D cI cZ cB a0 res h).met (by decide +kernel) rfl (Nat.le_of_ble_eq_true rfl)
