/-! printed: the walks -/
def rmX10_isUnder : Room := { frames := 0, cells := 0, slots := 0, locals := 0 }
set_option maxHeartbeats 4000000 in
set_option maxRecDepth 100000 in
theorem bX10_isUnder (l : Launch) (D : va_G) (cI cZ cB : ClassId) (ad : Nat → Nat) (w : Int64) (σ : Mem) (a1 : Int32) (a2 : Int32) (res : Int32) (h : X10_isUnder a1 a2 σ = some res) : BR l yX10_isUnder wsX10_isUnder rmX10_isUnder cX10_isUnder 4 (some .boolean) D cI cZ cB (wdX10 cI cZ cB ad w σ) [.ref (ad 0), .int a1, .int a2] (some (.int res)) := by
  intro p e s m args below meth c ls Q hx hb hml hts hown hK hP hl0 hR
  have hinX10 : ∀ w ∈ u_ws RX10 TX10 42, w ∈ wsX10_isUnder := (fun _ h => List.mem_cons_of_mem _ (List.mem_append_right _ h))
  have fl1 := hts (.fieldLink RX10 37 "LawNumbererModel" "up" "[I") (by decide +kernel)
  have hl : lv_has ls 4 [(0, .ref (ad 0)), (1, .int a1), (2, .int a2)] := hl0
  have n26 : ∀ (x3 : Int32) (ls : Array Slot), lv_has ls 4 [(2, .int a2), (3, .int x3)] → X10_isUnder_26 a1 a2 σ x3 = some res → W p l e rmX10_isUnder s m args below meth c s.heap [] 0 0 Q (F0 m 26 ls []) := by
    intro x3 ls hl h
    rw [X10_isUnder_26] at h
    refine lv_iload_n hx hb dX10_isUnder_26 rfl (lv_at hl 1 rfl) ?_
    refine lv_iload_n hx hb dX10_isUnder_27 rfl (lv_at hl 0 rfl) ?_
    refine lv_icmp_ne (tgt := 35) hx hb dX10_isUnder_28 (by decide) (fun c1 => ?_) (fun c1 => ?_)
    · have h := ite_f c1 h
      refine lv_iconst (v := 0) hx hb dX10_isUnder_35 (by decide) ?_
      exact hR (some (.int 0)) _ _ (by rw [← Option.some.inj h]) nb0 dX10_isUnder_36
    · have h := ite_t c1 h
      refine lv_iconst (v := 1) hx hb dX10_isUnder_31 (by decide) ?_
      refine lv_goto (tgt := 36) hx hb dX10_isUnder_32 (by decide) ?_
      exact hR (some (.int 1)) _ _ (by rw [← Option.some.inj h]) nb1 dX10_isUnder_36
  have n7 : ∀ (n : Nat) (x3 : Int32) (ls : Array Slot), lv_has ls 4 [(0, .ref (ad 0)), (2, .int a2), (3, .int x3)] → X10_isUnder_7 a1 a2 σ n x3 = some res → W p l e rmX10_isUnder s m args below meth c s.heap [] 0 0 Q (F0 m 7 ls []) := by
    intro n
    induction n with
    | zero =>
      intro x3 ls hl h
      rw [X10_isUnder_7] at h
      cases h
    | succ n_7 ih7 =>
      intro x3 ls hl h
      rw [X10_isUnder_7] at h
      refine lv_iload_n hx hb dX10_isUnder_7 rfl (lv_at hl 2 rfl) ?_
      refine lv_if_lt (tgt := 26) hx hb dX10_isUnder_8 (by decide) (fun c2 => ?_) (fun c2 => ?_)
      · have h := ite_t c2 h
        exact n26 x3 _ (lv_sub hl [1, 2] rfl) h
      · have h := ite_f c2 h
        refine lv_iload_n hx hb dX10_isUnder_11 rfl (lv_at hl 2 rfl) ?_
        refine lv_iload_n hx hb dX10_isUnder_12 rfl (lv_at hl 1 rfl) ?_
        refine lv_icmp_eq (tgt := 26) hx hb dX10_isUnder_13 (by decide) (fun c3 => ?_) (fun c3 => ?_)
        · have h := ite_t c3 h
          exact n26 x3 _ (lv_sub hl [1, 2] rfl) h
        · have h := ite_f c3 h
          refine lv_aload_n hx hb dX10_isUnder_16 rfl (lv_at hl 0 rfl) ?_
          refine va_get (ci := 8) (v := .ref (ad 7)) (C := RX10) (T := TX10) (N := 42) hx hb hts hinX10 hown hK hP 0 rfl rfl 17 (by decide) fl1 (fun _ h9 => h9) rfl dX10_isUnder_17 ?_
          refine lv_iload_n hx hb dX10_isUnder_20 rfl (lv_at hl 2 rfl) ?_
          obtain ⟨hin4, h⟩ := gd_e h
          refine va_iald hx hb hK hP 7 0 rfl rfl hin4 dX10_isUnder_21 ?_
          obtain ⟨x3_5, ex3_5, h⟩ := lt_e h
          refine lv_topE ex3_5 ?_
          refine lv_istore_n (lv' := [(3, .int x3_5), (0, .ref (ad 0)), (2, .int a2)]) hx hb dX10_isUnder_22 rfl hl (by decide) rfl (fun ls hl => ?_)
          refine lv_goto (tgt := 7) hx hb dX10_isUnder_23 (by decide) ?_
          exact ih7 x3_5 _ (lv_sub hl [1, 2, 0] rfl) h
  rw [X10_isUnder] at h
  refine lv_aload_n hx hb dX10_isUnder_0 rfl (lv_at hl 0 rfl) ?_
  refine va_get (ci := 8) (v := .ref (ad 7)) (C := RX10) (T := TX10) (N := 42) hx hb hts hinX10 hown hK hP 0 rfl rfl 17 (by decide) fl1 (fun _ h9 => h9) rfl dX10_isUnder_1 ?_
  refine lv_iload_n hx hb dX10_isUnder_4 rfl (lv_at hl 1 rfl) ?_
  obtain ⟨hin6, h⟩ := gd_e h
  refine va_iald hx hb hK hP 7 0 rfl rfl hin6 dX10_isUnder_5 ?_
  obtain ⟨x3_7, ex3_7, h⟩ := lt_e h
  refine lv_topE ex3_7 ?_
  refine lv_istore_n (lv' := [(3, .int x3_7), (0, .ref (ad 0)), (1, .int a1), (2, .int a2)]) hx hb dX10_isUnder_6 rfl hl (by decide) rfl (fun ls hl => ?_)
  exact n7 FU x3_7 _ (lv_sub hl [1, 3, 0] rfl) h
set_option maxHeartbeats 4000000 in
set_option maxRecDepth 100000 in
theorem mX10_isUnder (l : Launch) (D : va_G) (cI cZ cB : ClassId) (ad : Nat → Nat) (w : Int64) (σ : Mem) (a1 : Int32) (a2 : Int32) (res : Int32) (h : X10_isUnder a1 a2 σ = some res) : Met l yX10_isUnder wsX10_isUnder rmX10_isUnder (pR D cI cZ cB (wdX10 cI cZ cB ad w σ) [.ref (ad 0), .int a1, .int a2]) (qR (some (.int res))) 0 0 (fun _ => False) := (bX10_isUnder l D cI cZ cB ad w σ a1 a2 res h).met (by decide +kernel) rfl (Nat.le_of_ble_eq_true rfl)
def rmX10_isInRow : Room := { frames := 0, cells := 0, slots := 0, locals := 0 }
set_option maxHeartbeats 4000000 in
set_option maxRecDepth 100000 in
theorem bX10_isInRow (l : Launch) (D : va_G) (cI cZ cB : ClassId) (ad : Nat → Nat) (w : Int64) (σ : Mem) (a1 : Int32) (a2 : Int32) (res : Int32) (h : X10_isInRow a1 a2 σ = some res) : BR l yX10_isInRow wsX10_isInRow rmX10_isInRow cX10_isInRow 3 (some .boolean) D cI cZ cB (wdX10 cI cZ cB ad w σ) [.ref (ad 0), .int a1, .int a2] (some (.int res)) := by
  intro p e s m args below meth c ls Q hx hb hml hts hown hK hP hl0 hR
  have hinX10 : ∀ w ∈ u_ws RX10 TX10 42, w ∈ wsX10_isInRow := (fun _ h => List.mem_cons_of_mem _ (List.mem_append_right _ h))
  have fl1 := hts (.fieldLink RX10 34 "LawNumbererModel" "level" "[I") (by decide +kernel)
  have fl2 := hts (.fieldLink RX10 20 "LawNumbererModel" "through" "[Z") (by decide +kernel)
  have fl3 := hts (.fieldLink RX10 37 "LawNumbererModel" "up" "[I") (by decide +kernel)
  have hl : lv_has ls 3 [(0, .ref (ad 0)), (1, .int a1), (2, .int a2)] := hl0
  rw [X10_isInRow] at h
  refine lv_aload_n hx hb dX10_isInRow_0 rfl (lv_at hl 0 rfl) ?_
  refine va_get (ci := 8) (v := .ref (ad 6)) (C := RX10) (T := TX10) (N := 42) hx hb hts hinX10 hown hK hP 0 rfl rfl 16 (by decide) fl1 (fun _ h9 => h9) rfl dX10_isInRow_1 ?_
  refine lv_iload_n hx hb dX10_isInRow_4 rfl (lv_at hl 1 rfl) ?_
  obtain ⟨hin1, h⟩ := gd_e h
  refine va_iald hx hb hK hP 6 0 rfl rfl hin1 dX10_isInRow_5 ?_
  refine lv_aload_n hx hb dX10_isInRow_6 rfl (lv_at hl 0 rfl) ?_
  refine va_get (ci := 8) (v := .ref (ad 6)) (C := RX10) (T := TX10) (N := 42) hx hb hts hinX10 hown hK hP 0 rfl rfl 16 (by decide) fl1 (fun _ h9 => h9) rfl dX10_isInRow_7 ?_
  refine lv_iload_n hx hb dX10_isInRow_10 rfl (lv_at hl 2 rfl) ?_
  obtain ⟨hin2, h⟩ := gd_e h
  refine va_iald hx hb hK hP 6 0 rfl rfl hin2 dX10_isInRow_11 ?_
  refine lv_icmp_ne (tgt := 48) hx hb dX10_isInRow_12 (by decide) (fun c3 => ?_) (fun c3 => ?_)
  · have h := ite_f c3 h
    refine lv_iconst (v := 0) hx hb dX10_isInRow_48 (by decide) ?_
    exact hR (some (.int 0)) _ _ (by rw [← Option.some.inj h]) nb0 dX10_isInRow_49
  · have h := ite_t c3 h
    refine lv_aload_n hx hb dX10_isInRow_15 rfl (lv_at hl 0 rfl) ?_
    refine va_get (ci := 8) (v := .ref (ad 4)) (C := RX10) (T := TX10) (N := 42) hx hb hts hinX10 hown hK hP 0 rfl rfl 7 (by decide) fl2 (fun _ h9 => h9) rfl dX10_isInRow_16 ?_
    refine lv_aload_n hx hb dX10_isInRow_19 rfl (lv_at hl 0 rfl) ?_
    refine va_get (ci := 8) (v := .ref (ad 6)) (C := RX10) (T := TX10) (N := 42) hx hb hts hinX10 hown hK hP 0 rfl rfl 16 (by decide) fl1 (fun _ h9 => h9) rfl dX10_isInRow_20 ?_
    refine lv_iload_n hx hb dX10_isInRow_23 rfl (lv_at hl 2 rfl) ?_
    obtain ⟨hin4, h⟩ := gd_e h
    refine va_iald hx hb hK hP 6 0 rfl rfl hin4 dX10_isInRow_24 ?_
    obtain ⟨hin5, h⟩ := gd_e h
    refine va_zald hx hb hK hP 4 1 rfl rfl hin5 dX10_isInRow_25 ?_
    refine lv_if_ne (tgt := 44) hx hb dX10_isInRow_26 (by decide) (fun c6 => ?_) (fun c6 => ?_)
    · have h := ite_f c6 h
      refine lv_iconst (v := 1) hx hb dX10_isInRow_44 (by decide) ?_
      refine lv_goto (tgt := 49) hx hb dX10_isInRow_45 (by decide) ?_
      exact hR (some (.int 1)) _ _ (by rw [← Option.some.inj h]) nb1 dX10_isInRow_49
    · have h := ite_t c6 h
      refine lv_aload_n hx hb dX10_isInRow_29 rfl (lv_at hl 0 rfl) ?_
      refine va_get (ci := 8) (v := .ref (ad 7)) (C := RX10) (T := TX10) (N := 42) hx hb hts hinX10 hown hK hP 0 rfl rfl 17 (by decide) fl3 (fun _ h9 => h9) rfl dX10_isInRow_30 ?_
      refine lv_iload_n hx hb dX10_isInRow_33 rfl (lv_at hl 1 rfl) ?_
      obtain ⟨hin7, h⟩ := gd_e h
      refine va_iald hx hb hK hP 7 0 rfl rfl hin7 dX10_isInRow_34 ?_
      refine lv_aload_n hx hb dX10_isInRow_35 rfl (lv_at hl 0 rfl) ?_
      refine va_get (ci := 8) (v := .ref (ad 7)) (C := RX10) (T := TX10) (N := 42) hx hb hts hinX10 hown hK hP 0 rfl rfl 17 (by decide) fl3 (fun _ h9 => h9) rfl dX10_isInRow_36 ?_
      refine lv_iload_n hx hb dX10_isInRow_39 rfl (lv_at hl 2 rfl) ?_
      obtain ⟨hin8, h⟩ := gd_e h
      refine va_iald hx hb hK hP 7 0 rfl rfl hin8 dX10_isInRow_40 ?_
      refine lv_icmp_ne (tgt := 48) hx hb dX10_isInRow_41 (by decide) (fun c9 => ?_) (fun c9 => ?_)
      · have h := ite_f c9 h
        refine lv_iconst (v := 0) hx hb dX10_isInRow_48 (by decide) ?_
        exact hR (some (.int 0)) _ _ (by rw [← Option.some.inj h]) nb0 dX10_isInRow_49
      · have h := ite_t c9 h
        refine lv_iconst (v := 1) hx hb dX10_isInRow_44 (by decide) ?_
        refine lv_goto (tgt := 49) hx hb dX10_isInRow_45 (by decide) ?_
        exact hR (some (.int 1)) _ _ (by rw [← Option.some.inj h]) nb1 dX10_isInRow_49
set_option maxHeartbeats 4000000 in
set_option maxRecDepth 100000 in
theorem mX10_isInRow (l : Launch) (D : va_G) (cI cZ cB : ClassId) (ad : Nat → Nat) (w : Int64) (σ : Mem) (a1 : Int32) (a2 : Int32) (res : Int32) (h : X10_isInRow a1 a2 σ = some res) : Met l yX10_isInRow wsX10_isInRow rmX10_isInRow (pR D cI cZ cB (wdX10 cI cZ cB ad w σ) [.ref (ad 0), .int a1, .int a2]) (qR (some (.int res))) 0 0 (fun _ => False) := (bX10_isInRow l D cI cZ cB ad w σ a1 a2 res h).met (by decide +kernel) rfl (Nat.le_of_ble_eq_true rfl)
def rmX10_change : Room := { frames := 0, cells := 0, slots := 0, locals := 0 }
set_option maxHeartbeats 4000000 in
set_option maxRecDepth 100000 in
theorem bX10_change (l : Launch) (D : va_G) (cI cZ cB : ClassId) (ad : Nat → Nat) (w : Int64) (σ : Mem) (a1 : Int32) (a2 : Int32) (res : Mem) (h : X10_change a1 a2 σ = some res) : BW l yX10_change wsX10_change rmX10_change cX10_change 3 none D cI cZ cB (wdX10 cI cZ cB ad w σ) [.ref (ad 0), .int a1, .int a2] none (wdX10 cI cZ cB ad w res) := by
  intro p e s m args below meth c ls Q A hx hb hml hts hown hK hA hP hD hS hl0 hR
  have hinX10 : ∀ w ∈ u_ws RX10 TX10 42, w ∈ wsX10_change := (fun _ h => List.mem_cons_of_mem _ (List.mem_append_right _ h))
  have fl1 := hts (.fieldLink RX10 50 "LawNumbererModel" "changed" "[I") (by decide +kernel)
  have fl2 := hts (.fieldLink RX10 160 "LawNumbererModel" "changes" "I") (by decide +kernel)
  have fl3 := hts (.fieldLink RX10 53 "LawNumbererModel" "changedOn" "[I") (by decide +kernel)
  have fl4 := hts (.fieldLink RX10 166 "LawNumbererModel" "day" "I") (by decide +kernel)
  have fl5 := hts (.fieldLink RX10 56 "LawNumbererModel" "changedTo" "[I") (by decide +kernel)
  have hl : lv_has ls 3 [(0, .ref (ad 0)), (1, .int a1), (2, .int a2)] := hl0
  rw [X10_change] at h
  have hS := hS
  refine lv_aload_n hx hb dX10_change_0 rfl (lv_at hl 0 rfl) ?_
  refine va_get (ci := 8) (v := .ref (ad 11)) (C := RX10) (T := TX10) (N := 42) hx hb hts hinX10 hown hK hP 0 rfl rfl 22 (by decide) fl1 (fun _ h9 => h9) rfl dX10_change_1 ?_
  refine lv_aload_n hx hb dX10_change_4 rfl (lv_at hl 0 rfl) ?_
  refine va_get (ci := 8) (v := .int (σ 0 25)) (C := RX10) (T := TX10) (N := 42) hx hb hts hinX10 hown hK hP 0 rfl rfl 25 (by decide) fl2 (fun _ h9 => h9) rfl dX10_change_5 ?_
  refine lv_iload_n hx hb dX10_change_8 rfl (lv_at hl 1 rfl) ?_
  obtain ⟨hin1, h⟩ := gd_e h
  obtain ⟨σ2, eσ2, h⟩ := lt_e h
  refine va_iast hx hb hK hP hD hS 11 0 rfl rfl hin1 dX10_change_9 (fun H locs hP1 hD1 hS => ?_)
  have hP : va_P D vwCl (wdX10 cI cZ cB ad w σ2) H := by rw [eσ2]; exact hP1
  have hD : va_D A (wdX10 cI cZ cB ad w σ2) := D_of (by rfl) hD
  refine lv_aload_n hx hb dX10_change_10 rfl (lv_at hl 0 rfl) ?_
  refine va_get (ci := 8) (v := .ref (ad 12)) (C := RX10) (T := TX10) (N := 42) hx hb hts hinX10 hown hK hP 0 rfl rfl 23 (by decide) fl3 (fun _ h9 => h9) rfl dX10_change_11 ?_
  refine lv_aload_n hx hb dX10_change_14 rfl (lv_at hl 0 rfl) ?_
  refine va_get (ci := 8) (v := .int (σ2 0 25)) (C := RX10) (T := TX10) (N := 42) hx hb hts hinX10 hown hK hP 0 rfl rfl 25 (by decide) fl2 (fun _ h9 => h9) rfl dX10_change_15 ?_
  refine lv_aload_n hx hb dX10_change_18 rfl (lv_at hl 0 rfl) ?_
  refine va_get (ci := 8) (v := .int (σ2 0 11)) (C := RX10) (T := TX10) (N := 42) hx hb hts hinX10 hown hK hP 0 rfl rfl 11 (by decide) fl4 (fun _ h9 => h9) rfl dX10_change_19 ?_
  obtain ⟨hin3, h⟩ := gd_e h
  obtain ⟨σ4, eσ4, h⟩ := lt_e h
  refine va_iast hx hb hK hP hD hS 12 0 rfl rfl hin3 dX10_change_22 (fun H locs hP1 hD1 hS => ?_)
  have hP : va_P D vwCl (wdX10 cI cZ cB ad w σ4) H := by rw [eσ4]; exact hP1
  have hD : va_D A (wdX10 cI cZ cB ad w σ4) := D_of (by rfl) hD
  refine lv_aload_n hx hb dX10_change_23 rfl (lv_at hl 0 rfl) ?_
  refine va_get (ci := 8) (v := .ref (ad 13)) (C := RX10) (T := TX10) (N := 42) hx hb hts hinX10 hown hK hP 0 rfl rfl 24 (by decide) fl5 (fun _ h9 => h9) rfl dX10_change_24 ?_
  refine lv_aload_n hx hb dX10_change_27 rfl (lv_at hl 0 rfl) ?_
  refine va_get (ci := 8) (v := .int (σ4 0 25)) (C := RX10) (T := TX10) (N := 42) hx hb hts hinX10 hown hK hP 0 rfl rfl 25 (by decide) fl2 (fun _ h9 => h9) rfl dX10_change_28 ?_
  refine lv_iload_n hx hb dX10_change_31 rfl (lv_at hl 2 rfl) ?_
  obtain ⟨hin5, h⟩ := gd_e h
  obtain ⟨σ6, eσ6, h⟩ := lt_e h
  refine va_iast hx hb hK hP hD hS 13 0 rfl rfl hin5 dX10_change_32 (fun H locs hP1 hD1 hS => ?_)
  have hP : va_P D vwCl (wdX10 cI cZ cB ad w σ6) H := by rw [eσ6]; exact hP1
  have hD : va_D A (wdX10 cI cZ cB ad w σ6) := D_of (by rfl) hD
  refine lv_aload_n hx hb dX10_change_33 rfl (lv_at hl 0 rfl) ?_
  refine lv_dup hx hb dX10_change_34 rfl ?_
  refine va_get (ci := 8) (v := .int (σ6 0 25)) (C := RX10) (T := TX10) (N := 42) hx hb hts hinX10 hown hK hP 0 rfl rfl 25 (by decide) fl2 (fun _ h9 => h9) rfl dX10_change_35 ?_
  refine lv_iconst (v := 1) hx hb dX10_change_38 (by decide) ?_
  refine lv_iadd hx hb dX10_change_39 ?_
  obtain ⟨σ7, eσ7, h⟩ := lt_e h
  refine va_put (ci := 8) (v := .int ((σ6 0 25) + 1)) (ty := .int) (C := RX10) (T := TX10) (N := 42) hx hb hts hinX10 tyX10 tyX10_ok nmX10 hown hK hP hD hS 0 rfl rfl 25 (by decide) fl2 (fun _ h9 => h9) rfl (by decide +kernel) rfl rfl (Nat.le_of_ble_eq_true rfl) dX10_change_40 (fun H locs hP1 hD1 hS => ?_)
  have hP : va_P D vwCl (wdX10 cI cZ cB ad w σ7) H := by rw [eσ7]; exact hP1
  have hD : va_D A (wdX10 cI cZ cB ad w σ7) := D_of (by rfl) hD
  exact hR none (wdX10 cI cZ cB ad w σ7) _ _ _ _ rfl (by rw [← Option.some.inj h]) trivial dX10_change_43 hP hS
set_option maxHeartbeats 4000000 in
set_option maxRecDepth 100000 in
theorem mX10_change (l : Launch) (D : va_G) (cI cZ cB : ClassId) (ad : Nat → Nat) (w : Int64) (σ : Mem) (sz : Nat) (a1 : Int32) (a2 : Int32) (res : Mem) (h : X10_change a1 a2 σ = some res) : Met l yX10_change wsX10_change rmX10_change (pW D cI cZ cB (wdX10 cI cZ cB ad w σ) sz [.ref (ad 0), .int a1, .int a2]) (qW D none (wdX10 cI cZ cB ad w res) (va_A (wdX10 cI cZ cB ad w σ) sz)) 0 0 (va_A (wdX10 cI cZ cB ad w σ) sz) := (bX10_change l D cI cZ cB ad w σ a1 a2 res h).metv (by decide +kernel) rfl (Nat.le_of_ble_eq_true rfl)
def rmX10_labelOf : Room := { frames := 0, cells := 0, slots := 0, locals := 0 }
set_option maxHeartbeats 4000000 in
set_option maxRecDepth 100000 in
theorem bX10_labelOf (l : Launch) (D : va_G) (cI cZ cB : ClassId) (ad : Nat → Nat) (w : Int64) (σ : Mem) (a1 : Int32) (a2 : Int32) (res : Int32) (h : X10_labelOf a1 a2 σ = some res) : BR l yX10_labelOf wsX10_labelOf rmX10_labelOf cX10_labelOf 4 (some .int) D cI cZ cB (wdX10 cI cZ cB ad w σ) [.ref (ad 0), .int a1, .int a2] (some (.int res)) := by
  intro p e s m args below meth c ls Q hx hb hml hts hown hK hP hl0 hR
  have hinX10 : ∀ w ∈ u_ws RX10 TX10 42, w ∈ wsX10_labelOf := (fun _ h => List.mem_cons_of_mem _ (List.mem_append_right _ h))
  have fl1 := hts (.fieldLink RX10 50 "LawNumbererModel" "changed" "[I") (by decide +kernel)
  have fl2 := hts (.fieldLink RX10 53 "LawNumbererModel" "changedOn" "[I") (by decide +kernel)
  have fl3 := hts (.fieldLink RX10 56 "LawNumbererModel" "changedTo" "[I") (by decide +kernel)
  have fl4 := hts (.fieldLink RX10 160 "LawNumbererModel" "changes" "I") (by decide +kernel)
  have hl : lv_has ls 4 [(0, .ref (ad 0)), (1, .int a1), (2, .int a2)] := hl0
  have n7 : ∀ (n : Nat) (x3 : Int32) (ls : Array Slot), lv_has ls 4 [(0, .ref (ad 0)), (1, .int a1), (2, .int a2), (3, .int x3)] → X10_labelOf_7 a1 a2 σ n x3 = some res → W p l e rmX10_labelOf s m args below meth c s.heap [] 0 0 Q (F0 m 7 ls []) := by
    intro n
    induction n with
    | zero =>
      intro x3 ls hl h
      rw [X10_labelOf_7] at h
      cases h
    | succ n_7 ih7 =>
      intro x3 ls hl h
      rw [X10_labelOf_7] at h
      refine lv_iload_n hx hb dX10_labelOf_7 rfl (lv_at hl 3 rfl) ?_
      refine lv_if_lt (tgt := 44) hx hb dX10_labelOf_8 (by decide) (fun c1 => ?_) (fun c1 => ?_)
      · have h := ite_t c1 h
        refine lv_iconst (v := 0) hx hb dX10_labelOf_44 (by decide) ?_
        exact hR (some (.int 0)) _ _ (by rw [← Option.some.inj h]) rfl dX10_labelOf_45
      · have h := ite_f c1 h
        refine lv_aload_n hx hb dX10_labelOf_11 rfl (lv_at hl 0 rfl) ?_
        refine va_get (ci := 8) (v := .ref (ad 11)) (C := RX10) (T := TX10) (N := 42) hx hb hts hinX10 hown hK hP 0 rfl rfl 22 (by decide) fl1 (fun _ h9 => h9) rfl dX10_labelOf_12 ?_
        refine lv_iload_n hx hb dX10_labelOf_15 rfl (lv_at hl 3 rfl) ?_
        obtain ⟨hin2, h⟩ := gd_e h
        refine va_iald hx hb hK hP 11 0 rfl rfl hin2 dX10_labelOf_16 ?_
        refine lv_iload_n hx hb dX10_labelOf_17 rfl (lv_at hl 1 rfl) ?_
        refine lv_icmp_ne (tgt := 38) hx hb dX10_labelOf_18 (by decide) (fun c3 => ?_) (fun c3 => ?_)
        · have h := ite_f c3 h
          obtain ⟨x3_4, ex3_4, h⟩ := lt_e h
          refine lv_iinc (v := x3_4) (lv' := [(3, .int x3_4), (0, .ref (ad 0)), (1, .int a1), (2, .int a2)]) hx hb dX10_labelOf_38 hl (k := 3) rfl (by rw [ex3_4]; rfl) (by decide) rfl (fun ls hl => ?_)
          refine lv_goto (tgt := 7) hx hb dX10_labelOf_41 (by decide) ?_
          exact ih7 x3_4 _ (lv_sub hl [1, 2, 3, 0] rfl) h
        · have h := ite_t c3 h
          refine lv_aload_n hx hb dX10_labelOf_21 rfl (lv_at hl 0 rfl) ?_
          refine va_get (ci := 8) (v := .ref (ad 12)) (C := RX10) (T := TX10) (N := 42) hx hb hts hinX10 hown hK hP 0 rfl rfl 23 (by decide) fl2 (fun _ h9 => h9) rfl dX10_labelOf_22 ?_
          refine lv_iload_n hx hb dX10_labelOf_25 rfl (lv_at hl 3 rfl) ?_
          obtain ⟨hin5, h⟩ := gd_e h
          refine va_iald hx hb hK hP 12 0 rfl rfl hin5 dX10_labelOf_26 ?_
          refine lv_iload_n hx hb dX10_labelOf_27 rfl (lv_at hl 2 rfl) ?_
          refine lv_icmp_gt (tgt := 38) hx hb dX10_labelOf_28 (by decide) (fun c6 => ?_) (fun c6 => ?_)
          · have h := ite_t c6 h
            obtain ⟨x3_7, ex3_7, h⟩ := lt_e h
            refine lv_iinc (v := x3_7) (lv' := [(3, .int x3_7), (0, .ref (ad 0)), (1, .int a1), (2, .int a2)]) hx hb dX10_labelOf_38 hl (k := 3) rfl (by rw [ex3_7]; rfl) (by decide) rfl (fun ls hl => ?_)
            refine lv_goto (tgt := 7) hx hb dX10_labelOf_41 (by decide) ?_
            exact ih7 x3_7 _ (lv_sub hl [1, 2, 3, 0] rfl) h
          · have h := ite_f c6 h
            refine lv_aload_n hx hb dX10_labelOf_31 rfl (lv_at hl 0 rfl) ?_
            refine va_get (ci := 8) (v := .ref (ad 13)) (C := RX10) (T := TX10) (N := 42) hx hb hts hinX10 hown hK hP 0 rfl rfl 24 (by decide) fl3 (fun _ h9 => h9) rfl dX10_labelOf_32 ?_
            refine lv_iload_n hx hb dX10_labelOf_35 rfl (lv_at hl 3 rfl) ?_
            obtain ⟨hin8, h⟩ := gd_e h
            refine va_iald hx hb hK hP 13 0 rfl rfl hin8 dX10_labelOf_36 ?_
            exact hR (some (.int (σ 13 (Int32.toNatClampNeg x3)))) _ _ (by rw [← Option.some.inj h]) rfl dX10_labelOf_37
  rw [X10_labelOf] at h
  refine lv_aload_n hx hb dX10_labelOf_0 rfl (lv_at hl 0 rfl) ?_
  refine va_get (ci := 8) (v := .int (σ 0 25)) (C := RX10) (T := TX10) (N := 42) hx hb hts hinX10 hown hK hP 0 rfl rfl 25 (by decide) fl4 (fun _ h9 => h9) rfl dX10_labelOf_1 ?_
  refine lv_iconst (v := 1) hx hb dX10_labelOf_4 (by decide) ?_
  refine lv_isub hx hb dX10_labelOf_5 ?_
  obtain ⟨x3_9, ex3_9, h⟩ := lt_e h
  refine lv_topE ex3_9 ?_
  refine lv_istore_n (lv' := [(3, .int x3_9), (0, .ref (ad 0)), (1, .int a1), (2, .int a2)]) hx hb dX10_labelOf_6 rfl hl (by decide) rfl (fun ls hl => ?_)
  exact n7 FU x3_9 _ (lv_sub hl [1, 2, 3, 0] rfl) h
set_option maxHeartbeats 4000000 in
set_option maxRecDepth 100000 in
theorem mX10_labelOf (l : Launch) (D : va_G) (cI cZ cB : ClassId) (ad : Nat → Nat) (w : Int64) (σ : Mem) (a1 : Int32) (a2 : Int32) (res : Int32) (h : X10_labelOf a1 a2 σ = some res) : Met l yX10_labelOf wsX10_labelOf rmX10_labelOf (pR D cI cZ cB (wdX10 cI cZ cB ad w σ) [.ref (ad 0), .int a1, .int a2]) (qR (some (.int res))) 0 0 (fun _ => False) := (bX10_labelOf l D cI cZ cB ad w σ a1 a2 res h).met (by decide +kernel) rfl (Nat.le_of_ble_eq_true rfl)
def rmX10_act : Room := { frames := 0, cells := 0, slots := 0, locals := 0 }
set_option maxHeartbeats 4000000 in
set_option maxRecDepth 100000 in
theorem bX10_act (l : Launch) (D : va_G) (cI cZ cB : ClassId) (ad : Nat → Nat) (w : Int64) (σ : Mem) (a1 : Int32) (a2 : Int32) (res : Mem) (h : X10_act a1 a2 σ = some res) : BW l yX10_act wsX10_act rmX10_act cX10_act 4 none D cI cZ cB (wdX10 cI cZ cB ad w σ) [.ref (ad 0), .int a1, .int a2] none (wdX10 cI cZ cB ad w res) := by
  intro p e s m args below meth c ls Q A hx hb hml hts hown hK hA hP hD hS hl0 hR
  have hinX10 : ∀ w ∈ u_ws RX10 TX10 42, w ∈ wsX10_act := (fun _ h => List.mem_cons_of_mem _ (List.mem_append_right _ h))
  have fl1 := hts (.fieldLink RX10 59 "LawNumbererModel" "actKind" "[I") (by decide +kernel)
  have fl2 := hts (.fieldLink RX10 163 "LawNumbererModel" "acts" "I") (by decide +kernel)
  have fl3 := hts (.fieldLink RX10 62 "LawNumbererModel" "actItem" "[I") (by decide +kernel)
  have fl4 := hts (.fieldLink RX10 65 "LawNumbererModel" "actFrom" "[I") (by decide +kernel)
  have fl5 := hts (.fieldLink RX10 160 "LawNumbererModel" "changes" "I") (by decide +kernel)
  have hl : lv_has ls 4 [(0, .ref (ad 0)), (1, .int a1), (2, .int a2)] := hl0
  have n75 : ∀ (σ : Mem) (H : Heap) (locs : List Loc), va_P D vwCl (wdX10 cI cZ cB ad w σ) H → va_D A (wdX10 cI cZ cB ad w σ) → va_S A s.heap H locs → ∀ (ls : Array Slot), lv_has ls 4 [(0, .ref (ad 0)), (1, .int a1), (2, .int a2)] → X10_act_75 a1 a2 σ = some res → W p l e rmX10_act s m args below meth c H locs 0 0 Q (F0 m 75 ls []) := by
    intro σ H locs hP hD hS ls hl h
    rw [X10_act_75] at h
    refine lv_aload_n hx hb dX10_act_75 rfl (lv_at hl 0 rfl) ?_
    refine va_get (ci := 8) (v := .ref (ad 14)) (C := RX10) (T := TX10) (N := 42) hx hb hts hinX10 hown hK hP 0 rfl rfl 26 (by decide) fl1 (fun _ h9 => h9) rfl dX10_act_76 ?_
    refine lv_aload_n hx hb dX10_act_79 rfl (lv_at hl 0 rfl) ?_
    refine va_get (ci := 8) (v := .int (σ 0 29)) (C := RX10) (T := TX10) (N := 42) hx hb hts hinX10 hown hK hP 0 rfl rfl 29 (by decide) fl2 (fun _ h9 => h9) rfl dX10_act_80 ?_
    refine lv_iload_n hx hb dX10_act_83 rfl (lv_at hl 1 rfl) ?_
    obtain ⟨hin1, h⟩ := gd_e h
    obtain ⟨σ2, eσ2, h⟩ := lt_e h
    refine va_iast hx hb hK hP hD hS 14 0 rfl rfl hin1 dX10_act_84 (fun H locs hP1 hD1 hS => ?_)
    have hP : va_P D vwCl (wdX10 cI cZ cB ad w σ2) H := by rw [eσ2]; exact hP1
    have hD : va_D A (wdX10 cI cZ cB ad w σ2) := D_of (by rfl) hD
    refine lv_aload_n hx hb dX10_act_85 rfl (lv_at hl 0 rfl) ?_
    refine va_get (ci := 8) (v := .ref (ad 15)) (C := RX10) (T := TX10) (N := 42) hx hb hts hinX10 hown hK hP 0 rfl rfl 27 (by decide) fl3 (fun _ h9 => h9) rfl dX10_act_86 ?_
    refine lv_aload_n hx hb dX10_act_89 rfl (lv_at hl 0 rfl) ?_
    refine va_get (ci := 8) (v := .int (σ2 0 29)) (C := RX10) (T := TX10) (N := 42) hx hb hts hinX10 hown hK hP 0 rfl rfl 29 (by decide) fl2 (fun _ h9 => h9) rfl dX10_act_90 ?_
    refine lv_iload_n hx hb dX10_act_93 rfl (lv_at hl 2 rfl) ?_
    obtain ⟨hin3, h⟩ := gd_e h
    obtain ⟨σ4, eσ4, h⟩ := lt_e h
    refine va_iast hx hb hK hP hD hS 15 0 rfl rfl hin3 dX10_act_94 (fun H locs hP1 hD1 hS => ?_)
    have hP : va_P D vwCl (wdX10 cI cZ cB ad w σ4) H := by rw [eσ4]; exact hP1
    have hD : va_D A (wdX10 cI cZ cB ad w σ4) := D_of (by rfl) hD
    refine lv_aload_n hx hb dX10_act_95 rfl (lv_at hl 0 rfl) ?_
    refine va_get (ci := 8) (v := .ref (ad 16)) (C := RX10) (T := TX10) (N := 42) hx hb hts hinX10 hown hK hP 0 rfl rfl 28 (by decide) fl4 (fun _ h9 => h9) rfl dX10_act_96 ?_
    refine lv_aload_n hx hb dX10_act_99 rfl (lv_at hl 0 rfl) ?_
    refine va_get (ci := 8) (v := .int (σ4 0 29)) (C := RX10) (T := TX10) (N := 42) hx hb hts hinX10 hown hK hP 0 rfl rfl 29 (by decide) fl2 (fun _ h9 => h9) rfl dX10_act_100 ?_
    refine lv_aload_n hx hb dX10_act_103 rfl (lv_at hl 0 rfl) ?_
    refine va_get (ci := 8) (v := .int (σ4 0 25)) (C := RX10) (T := TX10) (N := 42) hx hb hts hinX10 hown hK hP 0 rfl rfl 25 (by decide) fl5 (fun _ h9 => h9) rfl dX10_act_104 ?_
    obtain ⟨hin5, h⟩ := gd_e h
    obtain ⟨σ6, eσ6, h⟩ := lt_e h
    refine va_iast hx hb hK hP hD hS 16 0 rfl rfl hin5 dX10_act_107 (fun H locs hP1 hD1 hS => ?_)
    have hP : va_P D vwCl (wdX10 cI cZ cB ad w σ6) H := by rw [eσ6]; exact hP1
    have hD : va_D A (wdX10 cI cZ cB ad w σ6) := D_of (by rfl) hD
    refine lv_aload_n hx hb dX10_act_108 rfl (lv_at hl 0 rfl) ?_
    refine lv_dup hx hb dX10_act_109 rfl ?_
    refine va_get (ci := 8) (v := .int (σ6 0 29)) (C := RX10) (T := TX10) (N := 42) hx hb hts hinX10 hown hK hP 0 rfl rfl 29 (by decide) fl2 (fun _ h9 => h9) rfl dX10_act_110 ?_
    refine lv_iconst (v := 1) hx hb dX10_act_113 (by decide) ?_
    refine lv_iadd hx hb dX10_act_114 ?_
    obtain ⟨σ7, eσ7, h⟩ := lt_e h
    refine va_put (ci := 8) (v := .int ((σ6 0 29) + 1)) (ty := .int) (C := RX10) (T := TX10) (N := 42) hx hb hts hinX10 tyX10 tyX10_ok nmX10 hown hK hP hD hS 0 rfl rfl 29 (by decide) fl2 (fun _ h9 => h9) rfl (by decide +kernel) rfl rfl (Nat.le_of_ble_eq_true rfl) dX10_act_115 (fun H locs hP1 hD1 hS => ?_)
    have hP : va_P D vwCl (wdX10 cI cZ cB ad w σ7) H := by rw [eσ7]; exact hP1
    have hD : va_D A (wdX10 cI cZ cB ad w σ7) := D_of (by rfl) hD
    exact hR none (wdX10 cI cZ cB ad w σ7) _ _ _ _ rfl (by rw [← Option.some.inj h]) trivial dX10_act_118 hP hS
  have n11 : ∀ (n : Nat) (x3 : Int32) (σ : Mem) (H : Heap) (locs : List Loc), va_P D vwCl (wdX10 cI cZ cB ad w σ) H → va_D A (wdX10 cI cZ cB ad w σ) → va_S A s.heap H locs → ∀ (ls : Array Slot), lv_has ls 4 [(0, .ref (ad 0)), (1, .int a1), (2, .int a2), (3, .int x3)] → X10_act_11 a1 a2 n x3 σ = some res → W p l e rmX10_act s m args below meth c H locs 0 0 Q (F0 m 11 ls []) := by
    intro n
    induction n with
    | zero =>
      intro x3 σ H locs hP hD hS ls hl h
      rw [X10_act_11] at h
      cases h
    | succ n_11 ih11 =>
      intro x3 σ H locs hP hD hS ls hl h
      rw [X10_act_11] at h
      refine lv_iload_n hx hb dX10_act_11 rfl (lv_at hl 3 rfl) ?_
      refine lv_bipush (v := 100) hx hb dX10_act_12 (by decide) ?_
      refine lv_icmp_ge (tgt := 65) hx hb dX10_act_14 (by decide) (fun c8 => ?_) (fun c8 => ?_)
      · have h := ite_t c8 h
        refine lv_aload_n hx hb dX10_act_65 rfl (lv_at hl 0 rfl) ?_
        refine lv_dup hx hb dX10_act_66 rfl ?_
        refine va_get (ci := 8) (v := .int (σ 0 29)) (C := RX10) (T := TX10) (N := 42) hx hb hts hinX10 hown hK hP 0 rfl rfl 29 (by decide) fl2 (fun _ h9 => h9) rfl dX10_act_67 ?_
        refine lv_iconst (v := 1) hx hb dX10_act_70 (by decide) ?_
        refine lv_isub hx hb dX10_act_71 ?_
        obtain ⟨σ9, eσ9, h⟩ := lt_e h
        refine va_put (ci := 8) (v := .int ((σ 0 29) - 1)) (ty := .int) (C := RX10) (T := TX10) (N := 42) hx hb hts hinX10 tyX10 tyX10_ok nmX10 hown hK hP hD hS 0 rfl rfl 29 (by decide) fl2 (fun _ h9 => h9) rfl (by decide +kernel) rfl rfl (Nat.le_of_ble_eq_true rfl) dX10_act_72 (fun H locs hP1 hD1 hS => ?_)
        have hP : va_P D vwCl (wdX10 cI cZ cB ad w σ9) H := by rw [eσ9]; exact hP1
        have hD : va_D A (wdX10 cI cZ cB ad w σ9) := D_of (by rfl) hD
        exact n75 σ9 _ _ hP hD hS _ (lv_sub hl [0, 1, 2] rfl) h
      · have h := ite_f c8 h
        refine lv_aload_n hx hb dX10_act_17 rfl (lv_at hl 0 rfl) ?_
        refine va_get (ci := 8) (v := .ref (ad 14)) (C := RX10) (T := TX10) (N := 42) hx hb hts hinX10 hown hK hP 0 rfl rfl 26 (by decide) fl1 (fun _ h9 => h9) rfl dX10_act_18 ?_
        refine lv_iload_n hx hb dX10_act_21 rfl (lv_at hl 3 rfl) ?_
        refine lv_iconst (v := 1) hx hb dX10_act_22 (by decide) ?_
        refine lv_isub hx hb dX10_act_23 ?_
        refine lv_aload_n hx hb dX10_act_24 rfl (lv_at hl 0 rfl) ?_
        refine va_get (ci := 8) (v := .ref (ad 14)) (C := RX10) (T := TX10) (N := 42) hx hb hts hinX10 hown hK hP 0 rfl rfl 26 (by decide) fl1 (fun _ h9 => h9) rfl dX10_act_25 ?_
        refine lv_iload_n hx hb dX10_act_28 rfl (lv_at hl 3 rfl) ?_
        obtain ⟨hin10, h⟩ := gd_e h
        refine va_iald hx hb hK hP 14 0 rfl rfl hin10 dX10_act_29 ?_
        obtain ⟨hin11, h⟩ := gd_e h
        obtain ⟨σ12, eσ12, h⟩ := lt_e h
        refine va_iast hx hb hK hP hD hS 14 0 rfl rfl hin11 dX10_act_30 (fun H locs hP1 hD1 hS => ?_)
        have hP : va_P D vwCl (wdX10 cI cZ cB ad w σ12) H := by rw [eσ12]; exact hP1
        have hD : va_D A (wdX10 cI cZ cB ad w σ12) := D_of (by rfl) hD
        refine lv_aload_n hx hb dX10_act_31 rfl (lv_at hl 0 rfl) ?_
        refine va_get (ci := 8) (v := .ref (ad 15)) (C := RX10) (T := TX10) (N := 42) hx hb hts hinX10 hown hK hP 0 rfl rfl 27 (by decide) fl3 (fun _ h9 => h9) rfl dX10_act_32 ?_
        refine lv_iload_n hx hb dX10_act_35 rfl (lv_at hl 3 rfl) ?_
        refine lv_iconst (v := 1) hx hb dX10_act_36 (by decide) ?_
        refine lv_isub hx hb dX10_act_37 ?_
        refine lv_aload_n hx hb dX10_act_38 rfl (lv_at hl 0 rfl) ?_
        refine va_get (ci := 8) (v := .ref (ad 15)) (C := RX10) (T := TX10) (N := 42) hx hb hts hinX10 hown hK hP 0 rfl rfl 27 (by decide) fl3 (fun _ h9 => h9) rfl dX10_act_39 ?_
        refine lv_iload_n hx hb dX10_act_42 rfl (lv_at hl 3 rfl) ?_
        obtain ⟨hin13, h⟩ := gd_e h
        refine va_iald hx hb hK hP 15 0 rfl rfl hin13 dX10_act_43 ?_
        obtain ⟨hin14, h⟩ := gd_e h
        obtain ⟨σ15, eσ15, h⟩ := lt_e h
        refine va_iast hx hb hK hP hD hS 15 0 rfl rfl hin14 dX10_act_44 (fun H locs hP1 hD1 hS => ?_)
        have hP : va_P D vwCl (wdX10 cI cZ cB ad w σ15) H := by rw [eσ15]; exact hP1
        have hD : va_D A (wdX10 cI cZ cB ad w σ15) := D_of (by rfl) hD
        refine lv_aload_n hx hb dX10_act_45 rfl (lv_at hl 0 rfl) ?_
        refine va_get (ci := 8) (v := .ref (ad 16)) (C := RX10) (T := TX10) (N := 42) hx hb hts hinX10 hown hK hP 0 rfl rfl 28 (by decide) fl4 (fun _ h9 => h9) rfl dX10_act_46 ?_
        refine lv_iload_n hx hb dX10_act_49 rfl (lv_at hl 3 rfl) ?_
        refine lv_iconst (v := 1) hx hb dX10_act_50 (by decide) ?_
        refine lv_isub hx hb dX10_act_51 ?_
        refine lv_aload_n hx hb dX10_act_52 rfl (lv_at hl 0 rfl) ?_
        refine va_get (ci := 8) (v := .ref (ad 16)) (C := RX10) (T := TX10) (N := 42) hx hb hts hinX10 hown hK hP 0 rfl rfl 28 (by decide) fl4 (fun _ h9 => h9) rfl dX10_act_53 ?_
        refine lv_iload_n hx hb dX10_act_56 rfl (lv_at hl 3 rfl) ?_
        obtain ⟨hin16, h⟩ := gd_e h
        refine va_iald hx hb hK hP 16 0 rfl rfl hin16 dX10_act_57 ?_
        obtain ⟨hin17, h⟩ := gd_e h
        obtain ⟨σ18, eσ18, h⟩ := lt_e h
        refine va_iast hx hb hK hP hD hS 16 0 rfl rfl hin17 dX10_act_58 (fun H locs hP1 hD1 hS => ?_)
        have hP : va_P D vwCl (wdX10 cI cZ cB ad w σ18) H := by rw [eσ18]; exact hP1
        have hD : va_D A (wdX10 cI cZ cB ad w σ18) := D_of (by rfl) hD
        obtain ⟨x3_19, ex3_19, h⟩ := lt_e h
        refine lv_iinc (v := x3_19) (lv' := [(3, .int x3_19), (0, .ref (ad 0)), (1, .int a1), (2, .int a2)]) hx hb dX10_act_59 hl (k := 3) rfl (by rw [ex3_19]; rfl) (by decide) rfl (fun ls hl => ?_)
        refine lv_goto (tgt := 11) hx hb dX10_act_62 (by decide) ?_
        exact ih11 x3_19 σ18 _ _ hP hD hS _ (lv_sub hl [1, 2, 3, 0] rfl) h
  rw [X10_act] at h
  have hS := hS
  refine lv_aload_n hx hb dX10_act_0 rfl (lv_at hl 0 rfl) ?_
  refine va_get (ci := 8) (v := .int (σ 0 29)) (C := RX10) (T := TX10) (N := 42) hx hb hts hinX10 hown hK hP 0 rfl rfl 29 (by decide) fl2 (fun _ h9 => h9) rfl dX10_act_1 ?_
  refine lv_bipush (v := 100) hx hb dX10_act_4 (by decide) ?_
  refine lv_icmp_ne (tgt := 75) hx hb dX10_act_6 (by decide) (fun c20 => ?_) (fun c20 => ?_)
  · have h := ite_f c20 h
    exact n75 σ _ _ hP hD hS _ (lv_sub hl [0, 1, 2] rfl) h
  · have h := ite_t c20 h
    refine lv_iconst (v := 1) hx hb dX10_act_9 (by decide) ?_
    refine lv_istore_n (lv' := [(3, .int 1), (0, .ref (ad 0)), (1, .int a1), (2, .int a2)]) hx hb dX10_act_10 rfl hl (by decide) rfl (fun ls hl => ?_)
    exact n11 FU 1 σ _ _ hP hD hS _ (lv_sub hl [1, 2, 3, 0] rfl) h
set_option maxHeartbeats 4000000 in
set_option maxRecDepth 100000 in
theorem mX10_act (l : Launch) (D : va_G) (cI cZ cB : ClassId) (ad : Nat → Nat) (w : Int64) (σ : Mem) (sz : Nat) (a1 : Int32) (a2 : Int32) (res : Mem) (h : X10_act a1 a2 σ = some res) : Met l yX10_act wsX10_act rmX10_act (pW D cI cZ cB (wdX10 cI cZ cB ad w σ) sz [.ref (ad 0), .int a1, .int a2]) (qW D none (wdX10 cI cZ cB ad w res) (va_A (wdX10 cI cZ cB ad w σ) sz)) 0 0 (va_A (wdX10 cI cZ cB ad w σ) sz) := (bX10_act l D cI cZ cB ad w σ a1 a2 res h).metv (by decide +kernel) rfl (Nat.le_of_ble_eq_true rfl)
def rmX10_letterAt : Room := { frames := 0, cells := 0, slots := 0, locals := 0 }
set_option maxHeartbeats 4000000 in
set_option maxRecDepth 100000 in
theorem bX10_letterAt (l : Launch) (D : va_G) (cI cZ cB : ClassId) (a0 : Int32) (a1 : Int32) (res : Int32) (h : X10_letterAt a0 a1 = some res) : BR l yX10_letterAt wsX10_letterAt rmX10_letterAt cX10_letterAt 4 (some .int) D cI cZ cB wd0 [.int a0, .int a1] (some (.int res)) := by
  intro p e s m args below meth c ls Q hx hb hml hts hown hK hP hl0 hR
  have hl : lv_has ls 4 [(0, .int a0), (1, .int a1)] := hl0
  have n4 : ∀ (n : Nat) (x2 : Int32) (x3 : Int32) (ls : Array Slot), lv_has ls 4 [(2, .int x2), (3, .int x3)] → X10_letterAt_4 a0 a1 n x2 x3 = some res → W p l e rmX10_letterAt s m args below meth c s.heap [] 0 0 Q (F0 m 4 ls []) := by
    intro n
    induction n with
    | zero =>
      intro x2 x3 ls hl h
      rw [X10_letterAt_4] at h
      cases h
    | succ n_4 ih4 =>
      intro x2 x3 ls hl h
      rw [X10_letterAt_4] at h
      refine lv_iload_n hx hb dX10_letterAt_4 rfl (lv_at hl 1 rfl) ?_
      refine lv_iconst (v := 3) hx hb dX10_letterAt_5 (by decide) ?_
      refine lv_icmp_ge (tgt := 20) hx hb dX10_letterAt_6 (by decide) (fun c1 => ?_) (fun c1 => ?_)
      · have h := ite_t c1 h
        refine lv_iload_n hx hb dX10_letterAt_20 rfl (lv_at hl 0 rfl) ?_
        refine lv_bipush (v := 27) hx hb dX10_letterAt_21 (by decide) ?_
        refine lv_irem hx hb dX10_letterAt_23 (by decide) ?_
        exact hR (some (.int (x2 - x2 / 27 * 27))) _ _ (by rw [← Option.some.inj h]) rfl dX10_letterAt_24
      · have h := ite_f c1 h
        refine lv_iload_n hx hb dX10_letterAt_9 rfl (lv_at hl 0 rfl) ?_
        refine lv_bipush (v := 27) hx hb dX10_letterAt_10 (by decide) ?_
        refine lv_idiv hx hb dX10_letterAt_12 (by decide) ?_
        obtain ⟨x2_2, ex2_2, h⟩ := lt_e h
        refine lv_topE ex2_2 ?_
        refine lv_istore_n (lv' := [(2, .int x2_2), (3, .int x3)]) hx hb dX10_letterAt_13 rfl hl (by decide) rfl (fun ls hl => ?_)
        obtain ⟨x3_3, ex3_3, h⟩ := lt_e h
        refine lv_iinc (v := x3_3) (lv' := [(3, .int x3_3), (2, .int x2_2)]) hx hb dX10_letterAt_14 hl (k := 1) rfl (by rw [ex3_3]; rfl) (by decide) rfl (fun ls hl => ?_)
        refine lv_goto (tgt := 4) hx hb dX10_letterAt_17 (by decide) ?_
        exact ih4 x2_2 x3_3 _ (lv_sub hl [1, 0] rfl) h
  rw [X10_letterAt] at h
  refine lv_iload_n hx hb dX10_letterAt_0 rfl (lv_at hl 0 rfl) ?_
  refine lv_istore_n (lv' := [(2, .int a0), (0, .int a0), (1, .int a1)]) hx hb dX10_letterAt_1 rfl hl (by decide) rfl (fun ls hl => ?_)
  refine lv_iload_n hx hb dX10_letterAt_2 rfl (lv_at hl 2 rfl) ?_
  refine lv_istore_n (lv' := [(3, .int a1), (2, .int a0), (0, .int a0), (1, .int a1)]) hx hb dX10_letterAt_3 rfl hl (by decide) rfl (fun ls hl => ?_)
  exact n4 FU a0 a1 _ (lv_sub hl [1, 0] rfl) h
set_option maxHeartbeats 4000000 in
set_option maxRecDepth 100000 in
theorem mX10_letterAt (l : Launch) (D : va_G) (cI cZ cB : ClassId) (a0 : Int32) (a1 : Int32) (res : Int32) (h : X10_letterAt a0 a1 = some res) : Met l yX10_letterAt wsX10_letterAt rmX10_letterAt (pR D cI cZ cB wd0 [.int a0, .int a1]) (qR (some (.int res))) 0 0 (fun _ => False) := (bX10_letterAt l D cI cZ cB a0 a1 res h).met (by decide +kernel) rfl (Nat.le_of_ble_eq_true rfl)
def rmX10_lettersOf : Room := { frames := 1, cells := 0, slots := 0, locals := 23 }
set_option maxHeartbeats 4000000 in
set_option maxRecDepth 100000 in
theorem bX10_lettersOf (l : Launch) (D : va_G) (cI cZ cB : ClassId) (a0 : Int32) (res : Int32) (h : X10_lettersOf a0 = some res) : BR l yX10_lettersOf wsX10_lettersOf rmX10_lettersOf cX10_lettersOf 2 (some .int) D cI cZ cB wd0 [.int a0] (some (.int res)) := by
  intro p e s m args below meth c ls Q hx hb hml hts hown hK hP hl0 hR
  have hl : lv_has ls 2 [(0, .int a0)] := hl0
  have n2 : ∀ (n : Nat) (x1 : Int32) (ls : Array Slot), lv_has ls 2 [(0, .int a0), (1, .int x1)] → X10_lettersOf_2 a0 n x1 = some res → W p l e rmX10_lettersOf s m args below meth c s.heap [] 0 0 Q (F0 m 2 ls []) := by
    intro n
    induction n with
    | zero =>
      intro x1 ls hl h
      rw [X10_lettersOf_2] at h
      cases h
    | succ n_2 ih2 =>
      intro x1 ls hl h
      rw [X10_lettersOf_2] at h
      refine lv_iload_n hx hb dX10_lettersOf_2 rfl (lv_at hl 1 rfl) ?_
      refine lv_iconst (v := 4) hx hb dX10_lettersOf_3 (by decide) ?_
      refine lv_icmp_ge (tgt := 21) hx hb dX10_lettersOf_4 (by decide) (fun c1 => ?_) (fun c1 => ?_)
      · have h := ite_t c1 h
        refine lv_iload_n hx hb dX10_lettersOf_21 rfl (lv_at hl 1 rfl) ?_
        exact hR (some (.int x1)) _ _ (by rw [← Option.some.inj h]) rfl dX10_lettersOf_22
      · have h := ite_f c1 h
        refine lv_iload_n hx hb dX10_lettersOf_7 rfl (lv_at hl 0 rfl) ?_
        refine lv_iload_n hx hb dX10_lettersOf_8 rfl (lv_at hl 1 rfl) ?_
        obtain ⟨r2, hr2, h⟩ := bd_e h
        refine cl_RS (rest := []) ⟨hx, hb, hml, hown, hts⟩ (mX10_letterAt l D cI cZ cB a0 x1 r2 hr2) (va_cwS 2 hts gX10_lettersOf_X10_letterAt rfl rfl rfl (by decide +kernel) ⟨Nat.le_of_ble_eq_true rfl, Nat.le_of_ble_eq_true rfl⟩) hK hP rfl hl.1 rfl (Nat.le_of_ble_eq_true rfl) dX10_lettersOf_9 ⟨Nat.zero_le _, Nat.zero_le _⟩ ?_
        refine W.eq (g2 := F0 m 12 ls [.int r2]) rfl ?_
        refine lv_if_le (tgt := 21) hx hb dX10_lettersOf_12 (by decide) (fun c3 => ?_) (fun c3 => ?_)
        · have h := ite_t c3 h
          refine lv_iload_n hx hb dX10_lettersOf_21 rfl (lv_at hl 1 rfl) ?_
          exact hR (some (.int x1)) _ _ (by rw [← Option.some.inj h]) rfl dX10_lettersOf_22
        · have h := ite_f c3 h
          obtain ⟨x1_4, ex1_4, h⟩ := lt_e h
          refine lv_iinc (v := x1_4) (lv' := [(1, .int x1_4), (0, .int a0)]) hx hb dX10_lettersOf_15 hl (k := 1) rfl (by rw [ex1_4]; rfl) (by decide) rfl (fun ls hl => ?_)
          refine lv_goto (tgt := 2) hx hb dX10_lettersOf_18 (by decide) ?_
          exact ih2 x1_4 _ (lv_sub hl [1, 0] rfl) h
  rw [X10_lettersOf] at h
  refine lv_iconst (v := 0) hx hb dX10_lettersOf_0 (by decide) ?_
  refine lv_istore_n (lv' := [(1, .int 0), (0, .int a0)]) hx hb dX10_lettersOf_1 rfl hl (by decide) rfl (fun ls hl => ?_)
  exact n2 FU 0 _ (lv_sub hl [1, 0] rfl) h
set_option maxHeartbeats 4000000 in
set_option maxRecDepth 100000 in
theorem mX10_lettersOf (l : Launch) (D : va_G) (cI cZ cB : ClassId) (a0 : Int32) (res : Int32) (h : X10_lettersOf a0 = some res) : Met l yX10_lettersOf wsX10_lettersOf rmX10_lettersOf (pR D cI cZ cB wd0 [.int a0]) (qR (some (.int res))) 0 0 (fun _ => False) := (bX10_lettersOf l D cI cZ cB a0 res h).met (by decide +kernel) rfl (Nat.le_of_ble_eq_true rfl)
def rmX10_suffixInHand : Room := { frames := 0, cells := 0, slots := 0, locals := 0 }
set_option maxHeartbeats 4000000 in
set_option maxRecDepth 100000 in
theorem bX10_suffixInHand (l : Launch) (D : va_G) (cI cZ cB : ClassId) (ad : Nat → Nat) (w : Int64) (σ : Mem) (res : Int32) (h : X10_suffixInHand σ = some res) : BR l yX10_suffixInHand wsX10_suffixInHand rmX10_suffixInHand cX10_suffixInHand 1 (some .int) D cI cZ cB (wdX10 cI cZ cB ad w σ) [.ref (ad 0)] (some (.int res)) := by
  intro p e s m args below meth c ls Q hx hb hml hts hown hK hP hl0 hR
  have hinX10 : ∀ w ∈ u_ws RX10 TX10 42, w ∈ wsX10_suffixInHand := (fun _ h => List.mem_cons_of_mem _ (List.mem_append_right _ h))
  have fl1 := hts (.fieldLink RX10 68 "LawNumbererModel" "hand" "[I") (by decide +kernel)
  have hl : lv_has ls 1 [(0, .ref (ad 0))] := hl0
  rw [X10_suffixInHand] at h
  refine lv_aload_n hx hb dX10_suffixInHand_0 rfl (lv_at hl 0 rfl) ?_
  refine va_get (ci := 8) (v := .ref (ad 17)) (C := RX10) (T := TX10) (N := 42) hx hb hts hinX10 hown hK hP 0 rfl rfl 30 (by decide) fl1 (fun _ h9 => h9) rfl dX10_suffixInHand_1 ?_
  refine lv_iconst (v := 0) hx hb dX10_suffixInHand_4 (by decide) ?_
  obtain ⟨hin1, h⟩ := gd_e h
  refine va_iald hx hb hK hP 17 0 rfl rfl hin1 dX10_suffixInHand_5 ?_
  refine lv_bipush (v := 27) hx hb dX10_suffixInHand_6 (by decide) ?_
  refine lv_imul hx hb dX10_suffixInHand_8 ?_
  refine lv_aload_n hx hb dX10_suffixInHand_9 rfl (lv_at hl 0 rfl) ?_
  refine va_get (ci := 8) (v := .ref (ad 17)) (C := RX10) (T := TX10) (N := 42) hx hb hts hinX10 hown hK hP 0 rfl rfl 30 (by decide) fl1 (fun _ h9 => h9) rfl dX10_suffixInHand_10 ?_
  refine lv_iconst (v := 1) hx hb dX10_suffixInHand_13 (by decide) ?_
  obtain ⟨hin2, h⟩ := gd_e h
  refine va_iald hx hb hK hP 17 0 rfl rfl hin2 dX10_suffixInHand_14 ?_
  refine lv_iadd hx hb dX10_suffixInHand_15 ?_
  refine lv_bipush (v := 27) hx hb dX10_suffixInHand_16 (by decide) ?_
  refine lv_imul hx hb dX10_suffixInHand_18 ?_
  refine lv_aload_n hx hb dX10_suffixInHand_19 rfl (lv_at hl 0 rfl) ?_
  refine va_get (ci := 8) (v := .ref (ad 17)) (C := RX10) (T := TX10) (N := 42) hx hb hts hinX10 hown hK hP 0 rfl rfl 30 (by decide) fl1 (fun _ h9 => h9) rfl dX10_suffixInHand_20 ?_
  refine lv_iconst (v := 2) hx hb dX10_suffixInHand_23 (by decide) ?_
  obtain ⟨hin3, h⟩ := gd_e h
  refine va_iald hx hb hK hP 17 0 rfl rfl hin3 dX10_suffixInHand_24 ?_
  refine lv_iadd hx hb dX10_suffixInHand_25 ?_
  refine lv_bipush (v := 27) hx hb dX10_suffixInHand_26 (by decide) ?_
  refine lv_imul hx hb dX10_suffixInHand_28 ?_
  refine lv_aload_n hx hb dX10_suffixInHand_29 rfl (lv_at hl 0 rfl) ?_
  refine va_get (ci := 8) (v := .ref (ad 17)) (C := RX10) (T := TX10) (N := 42) hx hb hts hinX10 hown hK hP 0 rfl rfl 30 (by decide) fl1 (fun _ h9 => h9) rfl dX10_suffixInHand_30 ?_
  refine lv_iconst (v := 3) hx hb dX10_suffixInHand_33 (by decide) ?_
  obtain ⟨hin4, h⟩ := gd_e h
  refine va_iald hx hb hK hP 17 0 rfl rfl hin4 dX10_suffixInHand_34 ?_
  refine lv_iadd hx hb dX10_suffixInHand_35 ?_
  exact hR (some (.int (((((((σ 17 (Int32.toNatClampNeg 0)) * 27) + (σ 17 (Int32.toNatClampNeg 1))) * 27) + (σ 17 (Int32.toNatClampNeg 2))) * 27) + (σ 17 (Int32.toNatClampNeg 3))))) _ _ (by rw [← Option.some.inj h]) rfl dX10_suffixInHand_36
set_option maxHeartbeats 4000000 in
set_option maxRecDepth 100000 in
theorem mX10_suffixInHand (l : Launch) (D : va_G) (cI cZ cB : ClassId) (ad : Nat → Nat) (w : Int64) (σ : Mem) (res : Int32) (h : X10_suffixInHand σ = some res) : Met l yX10_suffixInHand wsX10_suffixInHand rmX10_suffixInHand (pR D cI cZ cB (wdX10 cI cZ cB ad w σ) [.ref (ad 0)]) (qR (some (.int res))) 0 0 (fun _ => False) := (bX10_suffixInHand l D cI cZ cB ad w σ res h).met (by decide +kernel) rfl (Nat.le_of_ble_eq_true rfl)
def rmX10_least : Room := { frames := 2, cells := 0, slots := 0, locals := 44 }
set_option maxHeartbeats 4000000 in
set_option maxRecDepth 100000 in
theorem bX10_least (l : Launch) (D : va_G) (cI cZ cB : ClassId) (ad : Nat → Nat) (w : Int64) (σ : Mem) (a1 : Int32) (a2 : Int32) (res : Int32 × Mem) (h : X10_least a1 a2 σ = some res) : BW l yX10_least wsX10_least rmX10_least cX10_least 7 (some .int) D cI cZ cB (wdX10 cI cZ cB ad w σ) [.ref (ad 0), .int a1, .int a2] (some (.int res.1)) (wdX10 cI cZ cB ad w res.2) := by
  intro p e s m args below meth c ls Q A hx hb hml hts hown hK hA hP hD hS hl0 hR
  have hinX10 : ∀ w ∈ u_ws RX10 TX10 42, w ∈ wsX10_least := (fun _ h => List.mem_cons_of_mem _ (List.mem_append_right _ h))
  have fl1 := hts (.constant RX10 173 (531441)) (by decide +kernel)
  have fl2 := hts (.fieldLink RX10 68 "LawNumbererModel" "hand" "[I") (by decide +kernel)
  have hl : lv_has ls 7 [(0, .ref (ad 0)), (1, .int a1), (2, .int a2)] := hl0
  have n180 : ∀ (x3 : Int32) (y1 : Int32) (y2 : Int32) (σ : Mem) (H : Heap) (locs : List Loc), va_P D vwCl (wdX10 cI cZ cB ad w σ) H → va_D A (wdX10 cI cZ cB ad w σ) → va_S A s.heap H locs → ∀ (ls : Array Slot), lv_has ls 7 [(0, .ref (ad 0)), (3, .int x3)] → X10_least_180 a1 a2 x3 y1 y2 σ = some res → W p l e rmX10_least s m args below meth c H locs 0 0 Q (F0 m 180 ls [.int y2, .int y1, .ref (ad 17)]) := by
    intro x3 y1 y2 σ H locs hP hD hS ls hl h
    rw [X10_least_180] at h
    obtain ⟨hin1, h⟩ := gd_e h
    obtain ⟨σ2, eσ2, h⟩ := lt_e h
    refine va_iast hx hb hK hP hD hS 17 0 rfl rfl hin1 dX10_least_180 (fun H locs hP1 hD1 hS => ?_)
    have hP : va_P D vwCl (wdX10 cI cZ cB ad w σ2) H := by rw [eσ2]; exact hP1
    have hD : va_D A (wdX10 cI cZ cB ad w σ2) := D_of (by rfl) hD
    refine lv_iload_n hx hb dX10_least_181 rfl (lv_at hl 1 rfl) ?_
    refine lv_ldc (v := 531441) hx hb hown fl1 dX10_least_182 ?_
    refine lv_imul hx hb dX10_least_184 ?_
    refine lv_aload_n hx hb dX10_least_185 rfl (lv_at hl 0 rfl) ?_
    obtain ⟨r3, hr3, h⟩ := bd_e h
    refine cl_RV (rest := [.int (x3 * 531441)]) (ci := 8) (q0 := 0) ⟨hx, hb, hml, hown, hts⟩ (mX10_suffixInHand l D cI cZ cB ad w σ2 r3 hr3) (cwV 0 hts gX10_least_X10_suffixInHand rfl rfl rfl (by decide +kernel) ⟨Nat.le_of_ble_eq_true rfl, Nat.le_of_ble_eq_true rfl⟩) hK hP rfl rfl rfl rfl hl.1 rfl (Nat.le_of_ble_eq_true rfl) dX10_least_186 ⟨Nat.zero_le _, Nat.zero_le _⟩ ?_
    refine W.eq (g2 := F0 m 189 ls [.int r3, .int (x3 * 531441)]) rfl ?_
    refine lv_iadd hx hb dX10_least_189 ?_
    exact hR (some (.int ((x3 * 531441) + r3))) (wdX10 cI cZ cB ad w σ2) _ _ _ _ (by rw [← Option.some.inj h]) (by rw [← Option.some.inj h]) rfl dX10_least_190 hP hS
  have n124 : ∀ (n : Nat) (x3 : Int32) (x4 : Int32) (x5 : Int32) (x6 : Int32) (σ : Mem) (H : Heap) (locs : List Loc), va_P D vwCl (wdX10 cI cZ cB ad w σ) H → va_D A (wdX10 cI cZ cB ad w σ) → va_S A s.heap H locs → ∀ (ls : Array Slot), lv_has ls 7 [(0, .ref (ad 0)), (1, .int a1), (2, .int a2), (3, .int x3), (4, .int x4), (5, .int x5), (6, .int x6)] → X10_least_124 a1 a2 n x3 x4 x5 x6 σ = some res → W p l e rmX10_least s m args below meth c H locs 0 0 Q (F0 m 124 ls []) := by
    intro n
    induction n with
    | zero =>
      intro x3 x4 x5 x6 σ H locs hP hD hS ls hl h
      rw [X10_least_124] at h
      cases h
    | succ n_124 ih124 =>
      intro x3 x4 x5 x6 σ H locs hP hD hS ls hl h
      rw [X10_least_124] at h
      refine lv_iload hx hb dX10_least_124 (lv_at hl 6 rfl) ?_
      refine lv_iload hx hb dX10_least_126 (lv_at hl 5 rfl) ?_
      refine lv_icmp_ge (tgt := 153) hx hb dX10_least_128 (by decide) (fun c4 => ?_) (fun c4 => ?_)
      · have h := ite_t c4 h
        refine lv_aload_n hx hb dX10_least_153 rfl (lv_at hl 0 rfl) ?_
        refine va_get (ci := 8) (v := .ref (ad 17)) (C := RX10) (T := TX10) (N := 42) hx hb hts hinX10 hown hK hP 0 rfl rfl 30 (by decide) fl2 (fun _ h9 => h9) rfl dX10_least_154 ?_
        refine lv_iload hx hb dX10_least_157 (lv_at hl 5 rfl) ?_
        refine lv_iload_n hx hb dX10_least_159 rfl (lv_at hl 2 rfl) ?_
        refine lv_iload hx hb dX10_least_160 (lv_at hl 4 rfl) ?_
        refine lv_icmp_le (tgt := 169) hx hb dX10_least_162 (by decide) (fun c5 => ?_) (fun c5 => ?_)
        · have h := ite_t c5 h
          refine lv_iload_n hx hb dX10_least_169 rfl (lv_at hl 1 rfl) ?_
          refine lv_ldc (v := 531441) hx hb hown fl1 dX10_least_170 ?_
          refine lv_irem hx hb dX10_least_172 (by decide) ?_
          refine lv_iload hx hb dX10_least_173 (lv_at hl 5 rfl) ?_
          obtain ⟨r6, hr6, h⟩ := bd_e h
          refine cl_RS (rest := [.int x5, .ref (ad 17)]) ⟨hx, hb, hml, hown, hts⟩ (mX10_letterAt l D cI cZ cB (a1 - a1 / 531441 * 531441) x5 r6 hr6) (va_cwS 2 hts gX10_least_X10_letterAt rfl rfl rfl (by decide +kernel) ⟨Nat.le_of_ble_eq_true rfl, Nat.le_of_ble_eq_true rfl⟩) hK wd0_P rfl hl.1 rfl (Nat.le_of_ble_eq_true rfl) dX10_least_175 ⟨Nat.zero_le _, Nat.zero_le _⟩ ?_
          refine W.eq (g2 := F0 m 178 ls [.int r6, .int x5, .ref (ad 17)]) rfl ?_
          refine lv_iconst (v := 1) hx hb dX10_least_178 (by decide) ?_
          refine lv_iadd hx hb dX10_least_179 ?_
          exact n180 x3 x5 (r6 + 1) σ _ _ hP hD hS _ (lv_sub hl [0, 3] rfl) h
        · have h := ite_f c5 h
          refine lv_iconst (v := 1) hx hb dX10_least_165 (by decide) ?_
          refine lv_goto (tgt := 180) hx hb dX10_least_166 (by decide) ?_
          exact n180 x3 x5 1 σ _ _ hP hD hS _ (lv_sub hl [0, 3] rfl) h
      · have h := ite_f c4 h
        refine lv_aload_n hx hb dX10_least_131 rfl (lv_at hl 0 rfl) ?_
        refine va_get (ci := 8) (v := .ref (ad 17)) (C := RX10) (T := TX10) (N := 42) hx hb hts hinX10 hown hK hP 0 rfl rfl 30 (by decide) fl2 (fun _ h9 => h9) rfl dX10_least_132 ?_
        refine lv_iload hx hb dX10_least_135 (lv_at hl 6 rfl) ?_
        refine lv_iload_n hx hb dX10_least_137 rfl (lv_at hl 1 rfl) ?_
        refine lv_ldc (v := 531441) hx hb hown fl1 dX10_least_138 ?_
        refine lv_irem hx hb dX10_least_140 (by decide) ?_
        refine lv_iload hx hb dX10_least_141 (lv_at hl 6 rfl) ?_
        obtain ⟨r7, hr7, h⟩ := bd_e h
        refine cl_RS (rest := [.int x6, .ref (ad 17)]) ⟨hx, hb, hml, hown, hts⟩ (mX10_letterAt l D cI cZ cB (a1 - a1 / 531441 * 531441) x6 r7 hr7) (va_cwS 2 hts gX10_least_X10_letterAt rfl rfl rfl (by decide +kernel) ⟨Nat.le_of_ble_eq_true rfl, Nat.le_of_ble_eq_true rfl⟩) hK wd0_P rfl hl.1 rfl (Nat.le_of_ble_eq_true rfl) dX10_least_143 ⟨Nat.zero_le _, Nat.zero_le _⟩ ?_
        refine W.eq (g2 := F0 m 146 ls [.int r7, .int x6, .ref (ad 17)]) rfl ?_
        obtain ⟨hin8, h⟩ := gd_e h
        obtain ⟨σ9, eσ9, h⟩ := lt_e h
        refine va_iast hx hb hK hP hD hS 17 0 rfl rfl hin8 dX10_least_146 (fun H locs hP1 hD1 hS => ?_)
        have hP : va_P D vwCl (wdX10 cI cZ cB ad w σ9) H := by rw [eσ9]; exact hP1
        have hD : va_D A (wdX10 cI cZ cB ad w σ9) := D_of (by rfl) hD
        obtain ⟨x6_10, ex6_10, h⟩ := lt_e h
        refine lv_iinc (v := x6_10) (lv' := [(6, .int x6_10), (0, .ref (ad 0)), (1, .int a1), (2, .int a2), (3, .int x3), (4, .int x4), (5, .int x5)]) hx hb dX10_least_147 hl (k := 6) rfl (by rw [ex6_10]; rfl) (by decide) rfl (fun ls hl => ?_)
        refine lv_goto (tgt := 124) hx hb dX10_least_150 (by decide) ?_
        exact ih124 x3 x4 x5 x6_10 σ9 _ _ hP hD hS _ (lv_sub hl [1, 2, 3, 4, 5, 6, 0] rfl) h
  have n116 : ∀ (x3 : Int32) (x4 : Int32) (x5 : Int32) (σ : Mem) (H : Heap) (locs : List Loc), va_P D vwCl (wdX10 cI cZ cB ad w σ) H → va_D A (wdX10 cI cZ cB ad w σ) → va_S A s.heap H locs → ∀ (ls : Array Slot), lv_has ls 7 [(0, .ref (ad 0)), (1, .int a1), (2, .int a2), (3, .int x3), (4, .int x4), (5, .int x5)] → X10_least_116 a1 a2 x3 x4 x5 σ = some res → W p l e rmX10_least s m args below meth c H locs 0 0 Q (F0 m 116 ls []) := by
    intro x3 x4 x5 σ H locs hP hD hS ls hl h
    rw [X10_least_116] at h
    refine lv_iload hx hb dX10_least_116 (lv_at hl 5 rfl) ?_
    refine lv_if_lt (tgt := 191) hx hb dX10_least_118 (by decide) (fun c11 => ?_) (fun c11 => ?_)
    · have h := ite_t c11 h
      refine lv_iload_n hx hb dX10_least_191 rfl (lv_at hl 3 rfl) ?_
      refine lv_sipush (v := 999) hx hb dX10_least_192 (by decide) ?_
      refine lv_icmp_ne (tgt := 202) hx hb dX10_least_195 (by decide) (fun c12 => ?_) (fun c12 => ?_)
      · have h := ite_f c12 h
        refine lv_iload_n hx hb dX10_least_202 rfl (lv_at hl 3 rfl) ?_
        refine lv_iconst (v := 1) hx hb dX10_least_203 (by decide) ?_
        refine lv_iadd hx hb dX10_least_204 ?_
        refine lv_ldc (v := 531441) hx hb hown fl1 dX10_least_205 ?_
        refine lv_imul hx hb dX10_least_207 ?_
        refine lv_aload_n hx hb dX10_least_208 rfl (lv_at hl 0 rfl) ?_
        obtain ⟨r13, hr13, h⟩ := bd_e h
        refine cl_RV (rest := [.int ((x3 + 1) * 531441)]) (ci := 8) (q0 := 0) ⟨hx, hb, hml, hown, hts⟩ (mX10_suffixInHand l D cI cZ cB ad w σ r13 hr13) (cwV 0 hts gX10_least_X10_suffixInHand rfl rfl rfl (by decide +kernel) ⟨Nat.le_of_ble_eq_true rfl, Nat.le_of_ble_eq_true rfl⟩) hK hP rfl rfl rfl rfl hl.1 rfl (Nat.le_of_ble_eq_true rfl) dX10_least_209 ⟨Nat.zero_le _, Nat.zero_le _⟩ ?_
        refine W.eq (g2 := F0 m 212 ls [.int r13, .int ((x3 + 1) * 531441)]) rfl ?_
        refine lv_iadd hx hb dX10_least_212 ?_
        exact hR (some (.int (((x3 + 1) * 531441) + r13))) (wdX10 cI cZ cB ad w σ) _ _ _ _ (by rw [← Option.some.inj h]) (by rw [← Option.some.inj h]) rfl dX10_least_213 hP hS
      · have h := ite_t c12 h
        refine lv_iconst (v := 0) hx hb dX10_least_198 (by decide) ?_
        refine lv_goto (tgt := 213) hx hb dX10_least_199 (by decide) ?_
        exact hR (some (.int 0)) (wdX10 cI cZ cB ad w σ) _ _ _ _ (by rw [← Option.some.inj h]) (by rw [← Option.some.inj h]) rfl dX10_least_213 hP hS
    · have h := ite_f c11 h
      refine lv_iconst (v := 0) hx hb dX10_least_121 (by decide) ?_
      refine lv_istore (lv' := [(6, .int 0), (0, .ref (ad 0)), (1, .int a1), (2, .int a2), (3, .int x3), (4, .int x4), (5, .int x5)]) hx hb dX10_least_122 hl (by decide) rfl (fun ls hl => ?_)
      exact n124 FU x3 x4 x5 0 σ _ _ hP hD hS _ (lv_sub hl [1, 2, 3, 4, 5, 6, 0] rfl) h
  have n106 : ∀ (x3 : Int32) (x4 : Int32) (x5 : Int32) (σ : Mem) (H : Heap) (locs : List Loc), va_P D vwCl (wdX10 cI cZ cB ad w σ) H → va_D A (wdX10 cI cZ cB ad w σ) → va_S A s.heap H locs → ∀ (ls : Array Slot), lv_has ls 7 [(0, .ref (ad 0)), (1, .int a1), (2, .int a2), (3, .int x3), (4, .int x4), (5, .int x5)] → X10_least_106 a1 a2 x3 x4 x5 σ = some res → W p l e rmX10_least s m args below meth c H locs 0 0 Q (F0 m 106 ls []) := by
    intro x3 x4 x5 σ H locs hP hD hS ls hl h
    rw [X10_least_106] at h
    refine lv_iload_n hx hb dX10_least_106 rfl (lv_at hl 2 rfl) ?_
    refine lv_iload hx hb dX10_least_107 (lv_at hl 4 rfl) ?_
    refine lv_icmp_le (tgt := 116) hx hb dX10_least_109 (by decide) (fun c14 => ?_) (fun c14 => ?_)
    · have h := ite_t c14 h
      exact n116 x3 x4 x5 σ _ _ hP hD hS _ (lv_sub hl [0, 1, 2, 3, 4, 5] rfl) h
    · have h := ite_f c14 h
      refine lv_iload hx hb dX10_least_112 (lv_at hl 4 rfl) ?_
      refine lv_istore (lv' := [(5, .int x4), (0, .ref (ad 0)), (1, .int a1), (2, .int a2), (3, .int x3), (4, .int x4)]) hx hb dX10_least_114 hl (by decide) rfl (fun ls hl => ?_)
      exact n116 x3 x4 x4 σ _ _ hP hD hS _ (lv_sub hl [1, 2, 3, 4, 5, 0] rfl) h
  have n71 : ∀ (n : Nat) (x3 : Int32) (x4 : Int32) (x5 : Int32) (x6 : Int32) (σ : Mem) (H : Heap) (locs : List Loc), va_P D vwCl (wdX10 cI cZ cB ad w σ) H → va_D A (wdX10 cI cZ cB ad w σ) → va_S A s.heap H locs → ∀ (ls : Array Slot), lv_has ls 7 [(0, .ref (ad 0)), (1, .int a1), (2, .int a2), (3, .int x3), (4, .int x4), (5, .int x5), (6, .int x6)] → X10_least_71 a1 a2 n x3 x4 x5 x6 σ = some res → W p l e rmX10_least s m args below meth c H locs 0 0 Q (F0 m 71 ls []) := by
    intro n
    induction n with
    | zero =>
      intro x3 x4 x5 x6 σ H locs hP hD hS ls hl h
      rw [X10_least_71] at h
      cases h
    | succ n_71 ih71 =>
      intro x3 x4 x5 x6 σ H locs hP hD hS ls hl h
      rw [X10_least_71] at h
      refine lv_iload hx hb dX10_least_71 (lv_at hl 6 rfl) ?_
      refine lv_iload_n hx hb dX10_least_73 rfl (lv_at hl 2 rfl) ?_
      refine lv_icmp_ge (tgt := 106) hx hb dX10_least_74 (by decide) (fun c15 => ?_) (fun c15 => ?_)
      · have h := ite_t c15 h
        exact n106 x3 x4 x5 σ _ _ hP hD hS _ (lv_sub hl [0, 1, 2, 3, 4, 5] rfl) h
      · have h := ite_f c15 h
        refine lv_iload_n hx hb dX10_least_77 rfl (lv_at hl 1 rfl) ?_
        refine lv_ldc (v := 531441) hx hb hown fl1 dX10_least_78 ?_
        refine lv_irem hx hb dX10_least_80 (by decide) ?_
        refine lv_iload hx hb dX10_least_81 (lv_at hl 6 rfl) ?_
        obtain ⟨r16, hr16, h⟩ := bd_e h
        refine cl_RS (rest := []) ⟨hx, hb, hml, hown, hts⟩ (mX10_letterAt l D cI cZ cB (a1 - a1 / 531441 * 531441) x6 r16 hr16) (va_cwS 2 hts gX10_least_X10_letterAt rfl rfl rfl (by decide +kernel) ⟨Nat.le_of_ble_eq_true rfl, Nat.le_of_ble_eq_true rfl⟩) hK wd0_P rfl hl.1 rfl (Nat.le_of_ble_eq_true rfl) dX10_least_83 ⟨Nat.zero_le _, Nat.zero_le _⟩ ?_
        refine W.eq (g2 := F0 m 86 ls [.int r16]) rfl ?_
        refine lv_bipush (v := 26) hx hb dX10_least_86 (by decide) ?_
        refine lv_icmp_ge (tgt := 96) hx hb dX10_least_88 (by decide) (fun c17 => ?_) (fun c17 => ?_)
        · have h := ite_t c17 h
          refine lv_iload hx hb dX10_least_96 (lv_at hl 5 rfl) ?_
          refine lv_istore (lv' := [(5, .int x5), (0, .ref (ad 0)), (1, .int a1), (2, .int a2), (3, .int x3), (4, .int x4), (6, .int x6)]) hx hb dX10_least_98 hl (by decide) rfl (fun ls hl => ?_)
          obtain ⟨x6_18, ex6_18, h⟩ := lt_e h
          refine lv_iinc (v := x6_18) (lv' := [(6, .int x6_18), (5, .int x5), (0, .ref (ad 0)), (1, .int a1), (2, .int a2), (3, .int x3), (4, .int x4)]) hx hb dX10_least_100 hl (k := 6) rfl (by rw [ex6_18]; rfl) (by decide) rfl (fun ls hl => ?_)
          refine lv_goto (tgt := 71) hx hb dX10_least_103 (by decide) ?_
          exact ih71 x3 x4 x5 x6_18 σ _ _ hP hD hS _ (lv_sub hl [2, 3, 4, 5, 6, 1, 0] rfl) h
        · have h := ite_f c17 h
          refine lv_iload hx hb dX10_least_91 (lv_at hl 6 rfl) ?_
          refine lv_goto (tgt := 98) hx hb dX10_least_93 (by decide) ?_
          refine lv_istore (lv' := [(5, .int x6), (0, .ref (ad 0)), (1, .int a1), (2, .int a2), (3, .int x3), (4, .int x4), (6, .int x6)]) hx hb dX10_least_98 hl (by decide) rfl (fun ls hl => ?_)
          obtain ⟨x6_19, ex6_19, h⟩ := lt_e h
          refine lv_iinc (v := x6_19) (lv' := [(6, .int x6_19), (5, .int x6), (0, .ref (ad 0)), (1, .int a1), (2, .int a2), (3, .int x3), (4, .int x4)]) hx hb dX10_least_100 hl (k := 6) rfl (by rw [ex6_19]; rfl) (by decide) rfl (fun ls hl => ?_)
          refine lv_goto (tgt := 71) hx hb dX10_least_103 (by decide) ?_
          exact ih71 x3 x4 x6 x6_19 σ _ _ hP hD hS _ (lv_sub hl [2, 3, 4, 5, 6, 1, 0] rfl) h
  have n17 : ∀ (n : Nat) (x3 : Int32) (x4 : Int32) (x5 : Int32) (σ : Mem) (H : Heap) (locs : List Loc), va_P D vwCl (wdX10 cI cZ cB ad w σ) H → va_D A (wdX10 cI cZ cB ad w σ) → va_S A s.heap H locs → ∀ (ls : Array Slot), lv_has ls 7 [(0, .ref (ad 0)), (1, .int a1), (2, .int a2), (3, .int x3), (4, .int x4), (5, .int x5)] → X10_least_17 a1 a2 n x3 x4 x5 σ = some res → W p l e rmX10_least s m args below meth c H locs 0 0 Q (F0 m 17 ls []) := by
    intro n
    induction n with
    | zero =>
      intro x3 x4 x5 σ H locs hP hD hS ls hl h
      rw [X10_least_17] at h
      cases h
    | succ n_17 ih17 =>
      have n40 : ∀ (x3 : Int32) (x4 : Int32) (x5 : Int32) (y1 : Int32) (y2 : Int32) (σ : Mem) (H : Heap) (locs : List Loc), va_P D vwCl (wdX10 cI cZ cB ad w σ) H → va_D A (wdX10 cI cZ cB ad w σ) → va_S A s.heap H locs → ∀ (ls : Array Slot), lv_has ls 7 [(0, .ref (ad 0)), (1, .int a1), (2, .int a2), (3, .int x3), (4, .int x4), (5, .int x5)] → X10_least_40 a1 a2 (X10_least_17 a1 a2 n_17) x3 x4 x5 y1 y2 σ = some res → W p l e rmX10_least s m args below meth c H locs 0 0 Q (F0 m 40 ls [.int y2, .int y1, .ref (ad 17)]) := by
        intro x3 x4 x5 y1 y2 σ H locs hP hD hS ls hl h
        rw [X10_least_40] at h
        obtain ⟨hin20, h⟩ := gd_e h
        obtain ⟨σ21, eσ21, h⟩ := lt_e h
        refine va_iast hx hb hK hP hD hS 17 0 rfl rfl hin20 dX10_least_40 (fun H locs hP1 hD1 hS => ?_)
        have hP : va_P D vwCl (wdX10 cI cZ cB ad w σ21) H := by rw [eσ21]; exact hP1
        have hD : va_D A (wdX10 cI cZ cB ad w σ21) := D_of (by rfl) hD
        obtain ⟨x5_22, ex5_22, h⟩ := lt_e h
        refine lv_iinc (v := x5_22) (lv' := [(5, .int x5_22), (0, .ref (ad 0)), (1, .int a1), (2, .int a2), (3, .int x3), (4, .int x4)]) hx hb dX10_least_41 hl (k := 5) rfl (by rw [ex5_22]; rfl) (by decide) rfl (fun ls hl => ?_)
        refine lv_goto (tgt := 17) hx hb dX10_least_44 (by decide) ?_
        exact ih17 x3 x4 x5_22 σ21 _ _ hP hD hS _ (lv_sub hl [1, 2, 3, 4, 5, 0] rfl) h
      intro x3 x4 x5 σ H locs hP hD hS ls hl h
      rw [X10_least_17] at h
      refine lv_iload hx hb dX10_least_17 (lv_at hl 5 rfl) ?_
      refine lv_iconst (v := 4) hx hb dX10_least_19 (by decide) ?_
      refine lv_icmp_ge (tgt := 47) hx hb dX10_least_20 (by decide) (fun c23 => ?_) (fun c23 => ?_)
      · have h := ite_t c23 h
        refine lv_iload_n hx hb dX10_least_47 rfl (lv_at hl 1 rfl) ?_
        refine lv_if_ne (tgt := 59) hx hb dX10_least_48 (by decide) (fun c24 => ?_) (fun c24 => ?_)
        · have h := ite_f c24 h
          refine lv_iconst (v := (-1)) hx hb dX10_least_59 (by decide) ?_
          refine lv_istore (lv' := [(5, .int (-1)), (0, .ref (ad 0)), (1, .int a1), (2, .int a2), (3, .int x3), (4, .int x4)]) hx hb dX10_least_60 hl (by decide) rfl (fun ls hl => ?_)
          refine lv_iload_n hx hb dX10_least_62 rfl (lv_at hl 3 rfl) ?_
          refine lv_iload hx hb dX10_least_63 (lv_at hl 5 rfl) ?_
          refine lv_icmp_gt (tgt := 106) hx hb dX10_least_65 (by decide) (fun c25 => ?_) (fun c25 => ?_)
          · have h := ite_t c25 h
            exact n106 x3 x4 (-1) σ _ _ hP hD hS _ (lv_sub hl [1, 2, 3, 4, 5, 0] rfl) h
          · have h := ite_f c25 h
            refine lv_iconst (v := 0) hx hb dX10_least_68 (by decide) ?_
            refine lv_istore (lv' := [(6, .int 0), (5, .int (-1)), (0, .ref (ad 0)), (1, .int a1), (2, .int a2), (3, .int x3), (4, .int x4)]) hx hb dX10_least_69 hl (by decide) rfl (fun ls hl => ?_)
            exact n71 FU x3 x4 (-1) 0 σ _ _ hP hD hS _ (lv_sub hl [2, 3, 4, 5, 6, 1, 0] rfl) h
        · have h := ite_t c24 h
          refine lv_ldc (v := 531441) hx hb hown fl1 dX10_least_51 ?_
          refine lv_aload_n hx hb dX10_least_53 rfl (lv_at hl 0 rfl) ?_
          obtain ⟨r26, hr26, h⟩ := bd_e h
          refine cl_RV (rest := [.int 531441]) (ci := 8) (q0 := 0) ⟨hx, hb, hml, hown, hts⟩ (mX10_suffixInHand l D cI cZ cB ad w σ r26 hr26) (cwV 0 hts gX10_least_X10_suffixInHand rfl rfl rfl (by decide +kernel) ⟨Nat.le_of_ble_eq_true rfl, Nat.le_of_ble_eq_true rfl⟩) hK hP rfl rfl rfl rfl hl.1 rfl (Nat.le_of_ble_eq_true rfl) dX10_least_54 ⟨Nat.zero_le _, Nat.zero_le _⟩ ?_
          refine W.eq (g2 := F0 m 57 ls [.int r26, .int 531441]) rfl ?_
          refine lv_iadd hx hb dX10_least_57 ?_
          exact hR (some (.int (531441 + r26))) (wdX10 cI cZ cB ad w σ) _ _ _ _ (by rw [← Option.some.inj h]) (by rw [← Option.some.inj h]) rfl dX10_least_58 hP hS
      · have h := ite_f c23 h
        refine lv_aload_n hx hb dX10_least_23 rfl (lv_at hl 0 rfl) ?_
        refine va_get (ci := 8) (v := .ref (ad 17)) (C := RX10) (T := TX10) (N := 42) hx hb hts hinX10 hown hK hP 0 rfl rfl 30 (by decide) fl2 (fun _ h9 => h9) rfl dX10_least_24 ?_
        refine lv_iload hx hb dX10_least_27 (lv_at hl 5 rfl) ?_
        refine lv_iload hx hb dX10_least_29 (lv_at hl 5 rfl) ?_
        refine lv_iload_n hx hb dX10_least_31 rfl (lv_at hl 2 rfl) ?_
        refine lv_icmp_ge (tgt := 39) hx hb dX10_least_32 (by decide) (fun c27 => ?_) (fun c27 => ?_)
        · have h := ite_t c27 h
          refine lv_iconst (v := 0) hx hb dX10_least_39 (by decide) ?_
          exact n40 x3 x4 x5 x5 0 σ _ _ hP hD hS _ (lv_sub hl [0, 1, 2, 3, 4, 5] rfl) h
        · have h := ite_f c27 h
          refine lv_iconst (v := 1) hx hb dX10_least_35 (by decide) ?_
          refine lv_goto (tgt := 40) hx hb dX10_least_36 (by decide) ?_
          exact n40 x3 x4 x5 x5 1 σ _ _ hP hD hS _ (lv_sub hl [0, 1, 2, 3, 4, 5] rfl) h
  rw [X10_least] at h
  have hS := hS
  refine lv_iload_n hx hb dX10_least_0 rfl (lv_at hl 1 rfl) ?_
  refine lv_ldc (v := 531441) hx hb hown fl1 dX10_least_1 ?_
  refine lv_idiv hx hb dX10_least_3 (by decide) ?_
  obtain ⟨x3_28, ex3_28, h⟩ := lt_e h
  refine lv_topE ex3_28 ?_
  refine lv_istore_n (lv' := [(3, .int x3_28), (0, .ref (ad 0)), (1, .int a1), (2, .int a2)]) hx hb dX10_least_4 rfl hl (by decide) rfl (fun ls hl => ?_)
  refine lv_iload_n hx hb dX10_least_5 rfl (lv_at hl 2 rfl) ?_
  refine lv_ldc (v := 531441) hx hb hown fl1 dX10_least_6 ?_
  refine lv_irem hx hb dX10_least_8 (by decide) ?_
  obtain ⟨r29, hr29, h⟩ := bd_e h
  refine cl_RS (rest := []) ⟨hx, hb, hml, hown, hts⟩ (mX10_lettersOf l D cI cZ cB (a1 - a1 / 531441 * 531441) r29 hr29) (va_cwS 1 hts gX10_least_X10_lettersOf rfl rfl rfl (by decide +kernel) ⟨Nat.le_of_ble_eq_true rfl, Nat.le_of_ble_eq_true rfl⟩) hK wd0_P rfl hl.1 rfl (Nat.le_of_ble_eq_true rfl) dX10_least_9 ⟨Nat.zero_le _, Nat.zero_le _⟩ ?_
  refine W.eq (g2 := F0 m 12 ls [.int r29]) rfl ?_
  refine lv_istore (lv' := [(4, .int r29), (3, .int x3_28), (0, .ref (ad 0)), (1, .int a1), (2, .int a2)]) hx hb dX10_least_12 hl (by decide) rfl (fun ls hl => ?_)
  refine lv_iconst (v := 0) hx hb dX10_least_14 (by decide) ?_
  refine lv_istore (lv' := [(5, .int 0), (4, .int r29), (3, .int x3_28), (0, .ref (ad 0)), (1, .int a1), (2, .int a2)]) hx hb dX10_least_15 hl (by decide) rfl (fun ls hl => ?_)
  exact n17 FU x3_28 r29 0 σ _ _ hP hD hS _ (lv_sub hl [3, 4, 5, 2, 1, 0] rfl) h
set_option maxHeartbeats 4000000 in
set_option maxRecDepth 100000 in
theorem mX10_least (l : Launch) (D : va_G) (cI cZ cB : ClassId) (ad : Nat → Nat) (w : Int64) (σ : Mem) (sz : Nat) (a1 : Int32) (a2 : Int32) (res : Int32 × Mem) (h : X10_least a1 a2 σ = some res) : Met l yX10_least wsX10_least rmX10_least (pW D cI cZ cB (wdX10 cI cZ cB ad w σ) sz [.ref (ad 0), .int a1, .int a2]) (qW D (some (.int res.1)) (wdX10 cI cZ cB ad w res.2) (va_A (wdX10 cI cZ cB ad w σ) sz)) 0 0 (va_A (wdX10 cI cZ cB ad w σ) sz) := (bX10_least l D cI cZ cB ad w σ a1 a2 res h).met (by decide +kernel) rfl (Nat.le_of_ble_eq_true rfl)
def rmX10_add : Room := { frames := 3, cells := 0, slots := 0, locals := 70 }
set_option maxHeartbeats 4000000 in
set_option maxRecDepth 100000 in
theorem bX10_add (l : Launch) (D : va_G) (cI cZ cB : ClassId) (ad : Nat → Nat) (w : Int64) (σ : Mem) (a1 : Int32) (a2 : Int32) (res : Int32 × Mem) (h : X10_add a1 a2 σ = some res) : BW l yX10_add wsX10_add rmX10_add cX10_add 9 (some .int) D cI cZ cB (wdX10 cI cZ cB ad w σ) [.ref (ad 0), .int a1, .int a2] (some (.int res.1)) (wdX10 cI cZ cB ad w res.2) := by
  intro p e s m args below meth c ls Q A hx hb hml hts hown hK hA hP hD hS hl0 hR
  have hinX10 : ∀ w ∈ u_ws RX10 TX10 42, w ∈ wsX10_add := (fun _ h => List.mem_cons_of_mem _ (List.mem_append_right _ h))
  have fl1 := hts (.fieldLink RX10 43 "LawNumbererModel" "order" "[I") (by decide +kernel)
  have fl2 := hts (.fieldLink RX10 46 "LawNumbererModel" "struck" "[Z") (by decide +kernel)
  have fl3 := hts (.fieldLink RX10 40 "LawNumbererModel" "came" "[I") (by decide +kernel)
  have fl4 := hts (.fieldLink RX10 166 "LawNumbererModel" "day" "I") (by decide +kernel)
  have fl5 := hts (.fieldLink RX10 157 "LawNumbererModel" "items" "I") (by decide +kernel)
  have fl6 := hts (.constant RX10 173 (531441)) (by decide +kernel)
  have fl7 := hts (.fieldLink RX10 37 "LawNumbererModel" "up" "[I") (by decide +kernel)
  have fl8 := hts (.fieldLink RX10 34 "LawNumbererModel" "level" "[I") (by decide +kernel)
  have fl9 := hts (.fieldLink RX10 86 "LawNumbererModel" "thrown" "I") (by decide +kernel)
  have fl10 := hts (.fieldLink RX10 27 "LawNumbererModel" "levels" "I") (by decide +kernel)
  have hl : lv_has ls 9 [(0, .ref (ad 0)), (1, .int a1), (2, .int a2)] := hl0
  have n352 : ∀ (n : Nat) (x3 : Int32) (x4 : Int32) (x7 : Int32) (x8 : Int32) (σ : Mem) (H : Heap) (locs : List Loc), va_P D vwCl (wdX10 cI cZ cB ad w σ) H → va_D A (wdX10 cI cZ cB ad w σ) → va_S A s.heap H locs → ∀ (ls : Array Slot), lv_has ls 9 [(0, .ref (ad 0)), (3, .int x3), (4, .int x4), (7, .int x7), (8, .int x8)] → X10_add_352 a1 a2 n x3 x4 x7 x8 σ = some res → W p l e rmX10_add s m args below meth c H locs 0 0 Q (F0 m 352 ls []) := by
    intro n
    induction n with
    | zero =>
      intro x3 x4 x7 x8 σ H locs hP hD hS ls hl h
      rw [X10_add_352] at h
      cases h
    | succ n_352 ih352 =>
      intro x3 x4 x7 x8 σ H locs hP hD hS ls hl h
      rw [X10_add_352] at h
      refine lv_iload hx hb dX10_add_352 (lv_at hl 4 rfl) ?_
      refine lv_iload hx hb dX10_add_354 (lv_at hl 2 rfl) ?_
      refine lv_icmp_le (tgt := 381) hx hb dX10_add_356 (by decide) (fun c1 => ?_) (fun c1 => ?_)
      · have h := ite_t c1 h
        refine lv_aload_n hx hb dX10_add_381 rfl (lv_at hl 0 rfl) ?_
        refine va_get (ci := 8) (v := .ref (ad 9)) (C := RX10) (T := TX10) (N := 42) hx hb hts hinX10 hown hK hP 0 rfl rfl 19 (by decide) fl1 (fun _ h9 => h9) rfl dX10_add_382 ?_
        refine lv_iload hx hb dX10_add_385 (lv_at hl 2 rfl) ?_
        refine lv_iload_n hx hb dX10_add_387 rfl (lv_at hl 1 rfl) ?_
        obtain ⟨hin2, h⟩ := gd_e h
        obtain ⟨σ3, eσ3, h⟩ := lt_e h
        refine va_iast hx hb hK hP hD hS 9 0 rfl rfl hin2 dX10_add_388 (fun H locs hP1 hD1 hS => ?_)
        have hP : va_P D vwCl (wdX10 cI cZ cB ad w σ3) H := by rw [eσ3]; exact hP1
        have hD : va_D A (wdX10 cI cZ cB ad w σ3) := D_of (by rfl) hD
        refine lv_aload_n hx hb dX10_add_389 rfl (lv_at hl 0 rfl) ?_
        refine va_get (ci := 8) (v := .ref (ad 10)) (C := RX10) (T := TX10) (N := 42) hx hb hts hinX10 hown hK hP 0 rfl rfl 20 (by decide) fl2 (fun _ h9 => h9) rfl dX10_add_390 ?_
        refine lv_iload_n hx hb dX10_add_393 rfl (lv_at hl 1 rfl) ?_
        refine lv_iconst (v := 0) hx hb dX10_add_394 (by decide) ?_
        obtain ⟨hin4, h⟩ := gd_e h
        obtain ⟨σ5, eσ5, h⟩ := lt_e h
        refine va_zast hx hb hK hP hD hS 10 1 rfl rfl hin4 dX10_add_395 (fun H locs hP1 hD1 hS => ?_)
        have hP : va_P D vwCl (wdX10 cI cZ cB ad w σ5) H := by rw [eσ5]; exact hP1
        have hD : va_D A (wdX10 cI cZ cB ad w σ5) := D_of (by rfl) hD
        refine lv_aload_n hx hb dX10_add_396 rfl (lv_at hl 0 rfl) ?_
        refine va_get (ci := 8) (v := .ref (ad 8)) (C := RX10) (T := TX10) (N := 42) hx hb hts hinX10 hown hK hP 0 rfl rfl 18 (by decide) fl3 (fun _ h9 => h9) rfl dX10_add_397 ?_
        refine lv_iload_n hx hb dX10_add_400 rfl (lv_at hl 1 rfl) ?_
        refine lv_aload_n hx hb dX10_add_401 rfl (lv_at hl 0 rfl) ?_
        refine va_get (ci := 8) (v := .int (σ5 0 11)) (C := RX10) (T := TX10) (N := 42) hx hb hts hinX10 hown hK hP 0 rfl rfl 11 (by decide) fl4 (fun _ h9 => h9) rfl dX10_add_402 ?_
        obtain ⟨hin6, h⟩ := gd_e h
        obtain ⟨σ7, eσ7, h⟩ := lt_e h
        refine va_iast hx hb hK hP hD hS 8 0 rfl rfl hin6 dX10_add_405 (fun H locs hP1 hD1 hS => ?_)
        have hP : va_P D vwCl (wdX10 cI cZ cB ad w σ7) H := by rw [eσ7]; exact hP1
        have hD : va_D A (wdX10 cI cZ cB ad w σ7) := D_of (by rfl) hD
        refine lv_aload_n hx hb dX10_add_406 rfl (lv_at hl 0 rfl) ?_
        refine lv_dup hx hb dX10_add_407 rfl ?_
        refine va_get (ci := 8) (v := .int (σ7 0 21)) (C := RX10) (T := TX10) (N := 42) hx hb hts hinX10 hown hK hP 0 rfl rfl 21 (by decide) fl5 (fun _ h9 => h9) rfl dX10_add_408 ?_
        refine lv_iconst (v := 1) hx hb dX10_add_411 (by decide) ?_
        refine lv_iadd hx hb dX10_add_412 ?_
        obtain ⟨σ8, eσ8, h⟩ := lt_e h
        refine va_put (ci := 8) (v := .int ((σ7 0 21) + 1)) (ty := .int) (C := RX10) (T := TX10) (N := 42) hx hb hts hinX10 tyX10 tyX10_ok nmX10 hown hK hP hD hS 0 rfl rfl 21 (by decide) fl5 (fun _ h9 => h9) rfl (by decide +kernel) rfl rfl (Nat.le_of_ble_eq_true rfl) dX10_add_413 (fun H locs hP1 hD1 hS => ?_)
        have hP : va_P D vwCl (wdX10 cI cZ cB ad w σ8) H := by rw [eσ8]; exact hP1
        have hD : va_D A (wdX10 cI cZ cB ad w σ8) := D_of (by rfl) hD
        refine lv_aload_n hx hb dX10_add_416 rfl (lv_at hl 0 rfl) ?_
        refine lv_iload_n hx hb dX10_add_417 rfl (lv_at hl 1 rfl) ?_
        refine lv_iload hx hb dX10_add_418 (lv_at hl 3 rfl) ?_
        obtain ⟨r9, hr9, h⟩ := bd_e h
        obtain ⟨σ10, eσ10, h⟩ := lt_e h
        refine cl_WVs (rest := []) (wn := (wdX10 cI cZ cB ad w σ10)) (ci := 8) (q0 := 0) ⟨hx, hb, hml, hown, hts⟩ (mX10_change l D cI cZ cB ad w σ8 H.size x3 x7 r9 hr9) (cwV 2 hts gX10_add_X10_change rfl rfl rfl (by decide +kernel) ⟨Nat.le_of_ble_eq_true rfl, Nat.le_of_ble_eq_true rfl⟩) hK hP hD hS hA (by rw [eσ10]) rfl rfl rfl rfl rfl hl.1 rfl (Nat.le_of_ble_eq_true rfl) dX10_add_420 ⟨Nat.zero_le _, Nat.zero_le _⟩ (fun H locs hP hD hS => ?_)
        refine W.eq (g2 := F0 m 423 ls []) rfl ?_
        refine lv_iload_n hx hb dX10_add_423 rfl (lv_at hl 1 rfl) ?_
        exact hR (some (.int x3)) (wdX10 cI cZ cB ad w σ10) _ _ _ _ (by rw [← Option.some.inj h]) (by rw [← Option.some.inj h]) rfl dX10_add_424 hP hS
      · have h := ite_f c1 h
        refine lv_aload_n hx hb dX10_add_359 rfl (lv_at hl 0 rfl) ?_
        refine va_get (ci := 8) (v := .ref (ad 9)) (C := RX10) (T := TX10) (N := 42) hx hb hts hinX10 hown hK hP 0 rfl rfl 19 (by decide) fl1 (fun _ h9 => h9) rfl dX10_add_360 ?_
        refine lv_iload hx hb dX10_add_363 (lv_at hl 4 rfl) ?_
        refine lv_aload_n hx hb dX10_add_365 rfl (lv_at hl 0 rfl) ?_
        refine va_get (ci := 8) (v := .ref (ad 9)) (C := RX10) (T := TX10) (N := 42) hx hb hts hinX10 hown hK hP 0 rfl rfl 19 (by decide) fl1 (fun _ h9 => h9) rfl dX10_add_366 ?_
        refine lv_iload hx hb dX10_add_369 (lv_at hl 4 rfl) ?_
        refine lv_iconst (v := 1) hx hb dX10_add_371 (by decide) ?_
        refine lv_isub hx hb dX10_add_372 ?_
        obtain ⟨hin11, h⟩ := gd_e h
        refine va_iald hx hb hK hP 9 0 rfl rfl hin11 dX10_add_373 ?_
        obtain ⟨hin12, h⟩ := gd_e h
        obtain ⟨σ13, eσ13, h⟩ := lt_e h
        refine va_iast hx hb hK hP hD hS 9 0 rfl rfl hin12 dX10_add_374 (fun H locs hP1 hD1 hS => ?_)
        have hP : va_P D vwCl (wdX10 cI cZ cB ad w σ13) H := by rw [eσ13]; exact hP1
        have hD : va_D A (wdX10 cI cZ cB ad w σ13) := D_of (by rfl) hD
        obtain ⟨x8_14, ex8_14, h⟩ := lt_e h
        refine lv_iinc (v := x8_14) (lv' := [(8, .int x8_14), (0, .ref (ad 0)), (3, .int x3), (4, .int x4), (7, .int x7)]) hx hb dX10_add_375 hl (k := 4) rfl (by rw [ex8_14]; rfl) (by decide) rfl (fun ls hl => ?_)
        refine lv_goto (tgt := 352) hx hb dX10_add_378 (by decide) ?_
        exact ih352 x3 x4 x7 x8_14 σ13 _ _ hP hD hS _ (lv_sub hl [1, 2, 3, 4, 0] rfl) h
  have n332 : ∀ (x3 : Int32) (x4 : Int32) (x7 : Int32) (σ : Mem) (H : Heap) (locs : List Loc), va_P D vwCl (wdX10 cI cZ cB ad w σ) H → va_D A (wdX10 cI cZ cB ad w σ) → va_S A s.heap H locs → ∀ (ls : Array Slot), lv_has ls 9 [(0, .ref (ad 0)), (3, .int x3), (4, .int x4), (7, .int x7)] → X10_add_332 a1 a2 x3 x4 x7 σ = some res → W p l e rmX10_add s m args below meth c H locs 0 0 Q (F0 m 332 ls []) := by
    intro x3 x4 x7 σ H locs hP hD hS ls hl h
    rw [X10_add_332] at h
    refine lv_iload hx hb dX10_add_332 (lv_at hl 3 rfl) ?_
    refine lv_if_ne (tgt := 340) hx hb dX10_add_334 (by decide) (fun c15 => ?_) (fun c15 => ?_)
    · have h := ite_f c15 h
      refine lv_aload_n hx hb dX10_add_340 rfl (lv_at hl 0 rfl) ?_
      refine lv_iconst (v := 0) hx hb dX10_add_341 (by decide) ?_
      refine lv_iload_n hx hb dX10_add_342 rfl (lv_at hl 1 rfl) ?_
      obtain ⟨r16, hr16, h⟩ := bd_e h
      obtain ⟨σ17, eσ17, h⟩ := lt_e h
      refine cl_WVs (rest := []) (wn := (wdX10 cI cZ cB ad w σ17)) (ci := 8) (q0 := 0) ⟨hx, hb, hml, hown, hts⟩ (mX10_act l D cI cZ cB ad w σ H.size 0 x3 r16 hr16) (cwV 2 hts gX10_add_X10_act rfl rfl rfl (by decide +kernel) ⟨Nat.le_of_ble_eq_true rfl, Nat.le_of_ble_eq_true rfl⟩) hK hP hD hS hA (by rw [eσ17]) rfl rfl rfl rfl rfl hl.1 rfl (Nat.le_of_ble_eq_true rfl) dX10_add_343 ⟨Nat.zero_le _, Nat.zero_le _⟩ (fun H locs hP hD hS => ?_)
      refine W.eq (g2 := F0 m 346 ls []) rfl ?_
      refine lv_aload_n hx hb dX10_add_346 rfl (lv_at hl 0 rfl) ?_
      refine va_get (ci := 8) (v := .int (σ17 0 21)) (C := RX10) (T := TX10) (N := 42) hx hb hts hinX10 hown hK hP 0 rfl rfl 21 (by decide) fl5 (fun _ h9 => h9) rfl dX10_add_347 ?_
      obtain ⟨x8_18, ex8_18, h⟩ := lt_e h
      refine lv_topE ex8_18 ?_
      refine lv_istore (lv' := [(8, .int x8_18), (0, .ref (ad 0)), (3, .int x3), (4, .int x4), (7, .int x7)]) hx hb dX10_add_350 hl (by decide) rfl (fun ls hl => ?_)
      exact n352 FU x3 x4 x7 x8_18 σ17 _ _ hP hD hS _ (lv_sub hl [1, 2, 3, 4, 0] rfl) h
    · have h := ite_t c15 h
      refine lv_bipush (v := (-2)) hx hb dX10_add_337 (by decide) ?_
      exact hR (some (.int (-2))) (wdX10 cI cZ cB ad w σ) _ _ _ _ (by rw [← Option.some.inj h]) (by rw [← Option.some.inj h]) rfl dX10_add_339 hP hS
  have n295 : ∀ (n : Nat) (x3 : Int32) (x4 : Int32) (x5 : Int32) (x6 : Int32) (x7 : Int32) (x8 : Int32) (σ : Mem) (H : Heap) (locs : List Loc), va_P D vwCl (wdX10 cI cZ cB ad w σ) H → va_D A (wdX10 cI cZ cB ad w σ) → va_S A s.heap H locs → ∀ (ls : Array Slot), lv_has ls 9 [(0, .ref (ad 0)), (3, .int x3), (4, .int x4), (5, .int x5), (6, .int x6), (7, .int x7), (8, .int x8)] → X10_add_295 a1 a2 n x3 x4 x5 x6 x7 x8 σ = some res → W p l e rmX10_add s m args below meth c H locs 0 0 Q (F0 m 295 ls []) := by
    intro n
    induction n with
    | zero =>
      intro x3 x4 x5 x6 x7 x8 σ H locs hP hD hS ls hl h
      rw [X10_add_295] at h
      cases h
    | succ n_295 ih295 =>
      intro x3 x4 x5 x6 x7 x8 σ H locs hP hD hS ls hl h
      rw [X10_add_295] at h
      refine lv_iload hx hb dX10_add_295 (lv_at hl 6 rfl) ?_
      refine lv_iconst (v := 5) hx hb dX10_add_297 (by decide) ?_
      refine lv_icmp_ge (tgt := 332) hx hb dX10_add_298 (by decide) (fun c19 => ?_) (fun c19 => ?_)
      · have h := ite_t c19 h
        exact n332 x3 x4 x7 σ _ _ hP hD hS _ (lv_sub hl [0, 1, 2, 5] rfl) h
      · have h := ite_f c19 h
        refine lv_iload hx hb dX10_add_301 (lv_at hl 5 rfl) ?_
        refine lv_if_ne (tgt := 332) hx hb dX10_add_303 (by decide) (fun c20 => ?_) (fun c20 => ?_)
        · have h := ite_f c20 h
          exact n332 x3 x4 x7 σ _ _ hP hD hS _ (lv_sub hl [0, 1, 2, 5] rfl) h
        · have h := ite_t c20 h
          refine lv_aload_n hx hb dX10_add_306 rfl (lv_at hl 0 rfl) ?_
          refine lv_iload hx hb dX10_add_307 (lv_at hl 3 rfl) ?_
          refine lv_iload hx hb dX10_add_309 (lv_at hl 6 rfl) ?_
          obtain ⟨r21, hr21, h⟩ := bd_e h
          obtain ⟨σ22, eσ22, h⟩ := lt_e h
          refine cl_WVs (rest := []) (wn := (wdX10 cI cZ cB ad w σ22)) (ci := 8) (q0 := 0) ⟨hx, hb, hml, hown, hts⟩ (mX10_least l D cI cZ cB ad w σ H.size x5 x8 r21 hr21) (cwV 2 hts gX10_add_X10_least rfl rfl rfl (by decide +kernel) ⟨Nat.le_of_ble_eq_true rfl, Nat.le_of_ble_eq_true rfl⟩) hK hP hD hS hA (by rw [eσ22]) rfl rfl rfl rfl rfl hl.1 rfl (Nat.le_of_ble_eq_true rfl) dX10_add_311 ⟨Nat.zero_le _, Nat.zero_le _⟩ (fun H locs hP hD hS => ?_)
          refine W.eq (g2 := F0 m 314 ls [.int r21.1]) rfl ?_
          obtain ⟨x7_23, ex7_23, h⟩ := lt_e h
          refine lv_topE ex7_23 ?_
          refine lv_istore (lv' := [(7, .int x7_23), (0, .ref (ad 0)), (3, .int x3), (4, .int x4), (5, .int x5), (6, .int x6), (8, .int x8)]) hx hb dX10_add_314 hl (by decide) rfl (fun ls hl => ?_)
          refine lv_iload hx hb dX10_add_316 (lv_at hl 0 rfl) ?_
          refine lv_iload hx hb dX10_add_318 (lv_at hl 5 rfl) ?_
          refine lv_icmp_lt (tgt := 326) hx hb dX10_add_320 (by decide) (fun c24 => ?_) (fun c24 => ?_)
          · have h := ite_t c24 h
            obtain ⟨x8_25, ex8_25, h⟩ := lt_e h
            refine lv_iinc (v := x8_25) (lv' := [(8, .int x8_25), (7, .int x7_23), (0, .ref (ad 0)), (3, .int x3), (4, .int x4), (5, .int x5), (6, .int x6)]) hx hb dX10_add_326 hl (k := 6) rfl (by rw [ex8_25]; rfl) (by decide) rfl (fun ls hl => ?_)
            refine lv_goto (tgt := 295) hx hb dX10_add_329 (by decide) ?_
            exact ih295 x3 x4 x5 x6 x7_23 x8_25 σ22 _ _ hP hD hS _ (lv_sub hl [2, 3, 4, 5, 6, 1, 0] rfl) h
          · have h := ite_f c24 h
            refine lv_iconst (v := 0) hx hb dX10_add_323 (by decide) ?_
            refine lv_istore (lv' := [(7, .int 0), (0, .ref (ad 0)), (3, .int x3), (4, .int x4), (5, .int x5), (6, .int x6), (8, .int x8)]) hx hb dX10_add_324 hl (by decide) rfl (fun ls hl => ?_)
            obtain ⟨x8_26, ex8_26, h⟩ := lt_e h
            refine lv_iinc (v := x8_26) (lv' := [(8, .int x8_26), (7, .int 0), (0, .ref (ad 0)), (3, .int x3), (4, .int x4), (5, .int x5), (6, .int x6)]) hx hb dX10_add_326 hl (k := 6) rfl (by rw [ex8_26]; rfl) (by decide) rfl (fun ls hl => ?_)
            refine lv_goto (tgt := 295) hx hb dX10_add_329 (by decide) ?_
            exact ih295 x3 x4 x5 x6 0 x8_26 σ22 _ _ hP hD hS _ (lv_sub hl [2, 3, 4, 5, 6, 1, 0] rfl) h
  have n287 : ∀ (x3 : Int32) (x4 : Int32) (y0 : Int32) (σ : Mem) (H : Heap) (locs : List Loc), va_P D vwCl (wdX10 cI cZ cB ad w σ) H → va_D A (wdX10 cI cZ cB ad w σ) → va_S A s.heap H locs → ∀ (ls : Array Slot), lv_has ls 9 [(0, .ref (ad 0)), (3, .int x3), (4, .int x4)] → X10_add_287 a1 a2 x3 x4 y0 σ = some res → W p l e rmX10_add s m args below meth c H locs 0 0 Q (F0 m 287 ls [.int y0]) := by
    intro x3 x4 y0 σ H locs hP hD hS ls hl h
    rw [X10_add_287] at h
    refine lv_istore (lv' := [(7, .int y0), (0, .ref (ad 0)), (3, .int x3), (4, .int x4)]) hx hb dX10_add_287 hl (by decide) rfl (fun ls hl => ?_)
    refine lv_goto (tgt := 332) hx hb dX10_add_289 (by decide) ?_
    exact n332 x3 x4 y0 σ _ _ hP hD hS _ (lv_sub hl [1, 2, 3, 0] rfl) h
  have n173 : ∀ (n : Nat) (x3 : Int32) (x4 : Int32) (x5 : Int32) (x6 : Int32) (x7 : Int32) (σ : Mem) (H : Heap) (locs : List Loc), va_P D vwCl (wdX10 cI cZ cB ad w σ) H → va_D A (wdX10 cI cZ cB ad w σ) → va_S A s.heap H locs → ∀ (ls : Array Slot), lv_has ls 9 [(0, .ref (ad 0)), (3, .int x3), (4, .int x4), (5, .int x5), (6, .int x6), (7, .int x7)] → X10_add_173 a1 a2 n x3 x4 x5 x6 x7 σ = some res → W p l e rmX10_add s m args below meth c H locs 0 0 Q (F0 m 173 ls []) := by
    intro n
    induction n with
    | zero =>
      intro x3 x4 x5 x6 x7 σ H locs hP hD hS ls hl h
      rw [X10_add_173] at h
      cases h
    | succ n_173 ih173 =>
      intro x3 x4 x5 x6 x7 σ H locs hP hD hS ls hl h
      rw [X10_add_173] at h
      refine lv_iload hx hb dX10_add_173 (lv_at hl 5 rfl) ?_
      refine lv_aload_n hx hb dX10_add_175 rfl (lv_at hl 0 rfl) ?_
      refine va_get (ci := 8) (v := .int (σ 0 21)) (C := RX10) (T := TX10) (N := 42) hx hb hts hinX10 hown hK hP 0 rfl rfl 21 (by decide) fl5 (fun _ h9 => h9) rfl dX10_add_176 ?_
      refine lv_icmp_ge (tgt := 254) hx hb dX10_add_179 (by decide) (fun c27 => ?_) (fun c27 => ?_)
      · have h := ite_t c27 h
        refine lv_iconst (v := 0) hx hb dX10_add_254 (by decide) ?_
        refine lv_istore (lv' := [(7, .int 0), (0, .ref (ad 0)), (3, .int x3), (4, .int x4), (5, .int x5), (6, .int x6)]) hx hb dX10_add_255 hl (by decide) rfl (fun ls hl => ?_)
        refine lv_iload hx hb dX10_add_257 (lv_at hl 5 rfl) ?_
        refine lv_if_ne (tgt := 292) hx hb dX10_add_259 (by decide) (fun c28 => ?_) (fun c28 => ?_)
        · have h := ite_f c28 h
          refine lv_iconst (v := 0) hx hb dX10_add_292 (by decide) ?_
          refine lv_istore (lv' := [(8, .int 0), (7, .int 0), (0, .ref (ad 0)), (3, .int x3), (4, .int x4), (5, .int x5), (6, .int x6)]) hx hb dX10_add_293 hl (by decide) rfl (fun ls hl => ?_)
          exact n295 FU x3 x4 x5 x6 0 0 σ _ _ hP hD hS _ (lv_sub hl [2, 3, 4, 5, 6, 1, 0] rfl) h
        · have h := ite_t c28 h
          refine lv_iload hx hb dX10_add_262 (lv_at hl 4 rfl) ?_
          refine lv_ldc (v := 531441) hx hb hown fl6 dX10_add_264 ?_
          refine lv_idiv hx hb dX10_add_266 (by decide) ?_
          refine lv_sipush (v := 999) hx hb dX10_add_267 (by decide) ?_
          refine lv_icmp_ne (tgt := 277) hx hb dX10_add_270 (by decide) (fun c29 => ?_) (fun c29 => ?_)
          · have h := ite_f c29 h
            refine lv_iload hx hb dX10_add_277 (lv_at hl 4 rfl) ?_
            refine lv_ldc (v := 531441) hx hb hown fl6 dX10_add_279 ?_
            refine lv_idiv hx hb dX10_add_281 (by decide) ?_
            refine lv_iconst (v := 1) hx hb dX10_add_282 (by decide) ?_
            refine lv_iadd hx hb dX10_add_283 ?_
            refine lv_ldc (v := 531441) hx hb hown fl6 dX10_add_284 ?_
            refine lv_imul hx hb dX10_add_286 ?_
            exact n287 x3 x4 (((x5 / 531441) + 1) * 531441) σ _ _ hP hD hS _ (lv_sub hl [1, 2, 3] rfl) h
          · have h := ite_t c29 h
            refine lv_iconst (v := 0) hx hb dX10_add_273 (by decide) ?_
            refine lv_goto (tgt := 287) hx hb dX10_add_274 (by decide) ?_
            exact n287 x3 x4 0 σ _ _ hP hD hS _ (lv_sub hl [1, 2, 3] rfl) h
      · have h := ite_f c27 h
        refine lv_aload_n hx hb dX10_add_182 rfl (lv_at hl 0 rfl) ?_
        refine lv_aload_n hx hb dX10_add_183 rfl (lv_at hl 0 rfl) ?_
        refine va_get (ci := 8) (v := .ref (ad 9)) (C := RX10) (T := TX10) (N := 42) hx hb hts hinX10 hown hK hP 0 rfl rfl 19 (by decide) fl1 (fun _ h9 => h9) rfl dX10_add_184 ?_
        refine lv_iload hx hb dX10_add_187 (lv_at hl 5 rfl) ?_
        obtain ⟨hin30, h⟩ := gd_e h
        refine va_iald hx hb hK hP 9 0 rfl rfl hin30 dX10_add_189 ?_
        refine lv_iload_n hx hb dX10_add_190 rfl (lv_at hl 1 rfl) ?_
        obtain ⟨r31, hr31, h⟩ := bd_e h
        refine cl_RV (rest := []) (ci := 8) (q0 := 0) ⟨hx, hb, hml, hown, hts⟩ (mX10_isInRow l D cI cZ cB ad w σ (σ 9 (Int32.toNatClampNeg x7)) x3 r31 hr31) (cwV 2 hts gX10_add_X10_isInRow rfl rfl rfl (by decide +kernel) ⟨Nat.le_of_ble_eq_true rfl, Nat.le_of_ble_eq_true rfl⟩) hK hP rfl rfl rfl rfl hl.1 rfl (Nat.le_of_ble_eq_true rfl) dX10_add_191 ⟨Nat.zero_le _, Nat.zero_le _⟩ ?_
        refine W.eq (g2 := F0 m 194 ls [.int r31]) rfl ?_
        refine lv_if_ne (tgt := 200) hx hb dX10_add_194 (by decide) (fun c32 => ?_) (fun c32 => ?_)
        · have h := ite_f c32 h
          refine lv_aload_n hx hb dX10_add_200 rfl (lv_at hl 0 rfl) ?_
          refine lv_aload_n hx hb dX10_add_201 rfl (lv_at hl 0 rfl) ?_
          refine va_get (ci := 8) (v := .ref (ad 9)) (C := RX10) (T := TX10) (N := 42) hx hb hts hinX10 hown hK hP 0 rfl rfl 19 (by decide) fl1 (fun _ h9 => h9) rfl dX10_add_202 ?_
          refine lv_iload hx hb dX10_add_205 (lv_at hl 5 rfl) ?_
          obtain ⟨hin33, h⟩ := gd_e h
          refine va_iald hx hb hK hP 9 0 rfl rfl hin33 dX10_add_207 ?_
          refine lv_aload_n hx hb dX10_add_208 rfl (lv_at hl 0 rfl) ?_
          refine va_get (ci := 8) (v := .int (σ 0 11)) (C := RX10) (T := TX10) (N := 42) hx hb hts hinX10 hown hK hP 0 rfl rfl 11 (by decide) fl4 (fun _ h9 => h9) rfl dX10_add_209 ?_
          obtain ⟨r34, hr34, h⟩ := bd_e h
          refine cl_RV (rest := []) (ci := 8) (q0 := 0) ⟨hx, hb, hml, hown, hts⟩ (mX10_labelOf l D cI cZ cB ad w σ (σ 9 (Int32.toNatClampNeg x7)) (σ 0 11) r34 hr34) (cwV 2 hts gX10_add_X10_labelOf rfl rfl rfl (by decide +kernel) ⟨Nat.le_of_ble_eq_true rfl, Nat.le_of_ble_eq_true rfl⟩) hK hP rfl rfl rfl rfl hl.1 rfl (Nat.le_of_ble_eq_true rfl) dX10_add_212 ⟨Nat.zero_le _, Nat.zero_le _⟩ ?_
          refine W.eq (g2 := F0 m 215 ls [.int r34]) rfl ?_
          refine lv_istore (lv' := [(8, .int r34), (0, .ref (ad 0)), (3, .int x3), (4, .int x4), (5, .int x5), (6, .int x6), (7, .int x7)]) hx hb dX10_add_215 hl (by decide) rfl (fun ls hl => ?_)
          refine lv_iload hx hb dX10_add_217 (lv_at hl 0 rfl) ?_
          refine lv_if_ne (tgt := 225) hx hb dX10_add_219 (by decide) (fun c35 => ?_) (fun c35 => ?_)
          · have h := ite_f c35 h
            refine lv_iload hx hb dX10_add_225 (lv_at hl 6 rfl) ?_
            refine lv_iload hx hb dX10_add_227 (lv_at hl 3 rfl) ?_
            refine lv_icmp_ge (tgt := 239) hx hb dX10_add_229 (by decide) (fun c36 => ?_) (fun c36 => ?_)
            · have h := ite_t c36 h
              refine lv_iload hx hb dX10_add_239 (lv_at hl 5 rfl) ?_
              refine lv_if_ne (tgt := 248) hx hb dX10_add_241 (by decide) (fun c37 => ?_) (fun c37 => ?_)
              · have h := ite_f c37 h
                obtain ⟨x7_38, ex7_38, h⟩ := lt_e h
                refine lv_iinc (v := x7_38) (lv' := [(7, .int x7_38), (8, .int r34), (0, .ref (ad 0)), (3, .int x3), (4, .int x4), (5, .int x5), (6, .int x6)]) hx hb dX10_add_248 hl (k := 6) rfl (by rw [ex7_38]; rfl) (by decide) rfl (fun ls hl => ?_)
                refine lv_goto (tgt := 173) hx hb dX10_add_251 (by decide) ?_
                exact ih173 x3 x4 x5 x6 x7_38 σ _ _ hP hD hS _ (lv_sub hl [2, 3, 4, 5, 6, 0] rfl) h
              · have h := ite_t c37 h
                refine lv_iload hx hb dX10_add_244 (lv_at hl 0 rfl) ?_
                refine lv_istore (lv' := [(6, .int r34), (8, .int r34), (0, .ref (ad 0)), (3, .int x3), (4, .int x4), (5, .int x5), (7, .int x7)]) hx hb dX10_add_246 hl (by decide) rfl (fun ls hl => ?_)
                obtain ⟨x7_39, ex7_39, h⟩ := lt_e h
                refine lv_iinc (v := x7_39) (lv' := [(7, .int x7_39), (6, .int r34), (8, .int r34), (0, .ref (ad 0)), (3, .int x3), (4, .int x4), (5, .int x5)]) hx hb dX10_add_248 hl (k := 6) rfl (by rw [ex7_39]; rfl) (by decide) rfl (fun ls hl => ?_)
                refine lv_goto (tgt := 173) hx hb dX10_add_251 (by decide) ?_
                exact ih173 x3 x4 x5 r34 x7_39 σ _ _ hP hD hS _ (lv_sub hl [3, 4, 5, 6, 1, 0] rfl) h
            · have h := ite_f c36 h
              refine lv_iload hx hb dX10_add_232 (lv_at hl 0 rfl) ?_
              refine lv_istore (lv' := [(5, .int r34), (8, .int r34), (0, .ref (ad 0)), (3, .int x3), (4, .int x4), (6, .int x6), (7, .int x7)]) hx hb dX10_add_234 hl (by decide) rfl (fun ls hl => ?_)
              refine lv_goto (tgt := 248) hx hb dX10_add_236 (by decide) ?_
              obtain ⟨x7_40, ex7_40, h⟩ := lt_e h
              refine lv_iinc (v := x7_40) (lv' := [(7, .int x7_40), (5, .int r34), (8, .int r34), (0, .ref (ad 0)), (3, .int x3), (4, .int x4), (6, .int x6)]) hx hb dX10_add_248 hl (k := 6) rfl (by rw [ex7_40]; rfl) (by decide) rfl (fun ls hl => ?_)
              refine lv_goto (tgt := 173) hx hb dX10_add_251 (by decide) ?_
              exact ih173 x3 x4 r34 x6 x7_40 σ _ _ hP hD hS _ (lv_sub hl [3, 4, 5, 1, 6, 0] rfl) h
          · have h := ite_t c35 h
            refine lv_goto (tgt := 248) hx hb dX10_add_222 (by decide) ?_
            obtain ⟨x7_41, ex7_41, h⟩ := lt_e h
            refine lv_iinc (v := x7_41) (lv' := [(7, .int x7_41), (8, .int r34), (0, .ref (ad 0)), (3, .int x3), (4, .int x4), (5, .int x5), (6, .int x6)]) hx hb dX10_add_248 hl (k := 6) rfl (by rw [ex7_41]; rfl) (by decide) rfl (fun ls hl => ?_)
            refine lv_goto (tgt := 173) hx hb dX10_add_251 (by decide) ?_
            exact ih173 x3 x4 x5 x6 x7_41 σ _ _ hP hD hS _ (lv_sub hl [2, 3, 4, 5, 6, 0] rfl) h
        · have h := ite_t c32 h
          refine lv_goto (tgt := 248) hx hb dX10_add_197 (by decide) ?_
          obtain ⟨x7_42, ex7_42, h⟩ := lt_e h
          refine lv_iinc (v := x7_42) (lv' := [(7, .int x7_42), (0, .ref (ad 0)), (3, .int x3), (4, .int x4), (5, .int x5), (6, .int x6)]) hx hb dX10_add_248 hl (k := 5) rfl (by rw [ex7_42]; rfl) (by decide) rfl (fun ls hl => ?_)
          refine lv_goto (tgt := 173) hx hb dX10_add_251 (by decide) ?_
          exact ih173 x3 x4 x5 x6 x7_42 σ _ _ hP hD hS _ (lv_sub hl [1, 2, 3, 4, 5, 0] rfl) h
  have n164 : ∀ (x3 : Int32) (x4 : Int32) (σ : Mem) (H : Heap) (locs : List Loc), va_P D vwCl (wdX10 cI cZ cB ad w σ) H → va_D A (wdX10 cI cZ cB ad w σ) → va_S A s.heap H locs → ∀ (ls : Array Slot), lv_has ls 9 [(0, .ref (ad 0)), (3, .int x3), (4, .int x4)] → X10_add_164 a1 a2 x3 x4 σ = some res → W p l e rmX10_add s m args below meth c H locs 0 0 Q (F0 m 164 ls []) := by
    intro x3 x4 σ H locs hP hD hS ls hl h
    rw [X10_add_164] at h
    refine lv_iconst (v := 0) hx hb dX10_add_164 (by decide) ?_
    refine lv_istore (lv' := [(5, .int 0), (0, .ref (ad 0)), (3, .int x3), (4, .int x4)]) hx hb dX10_add_165 hl (by decide) rfl (fun ls hl => ?_)
    refine lv_iconst (v := 0) hx hb dX10_add_167 (by decide) ?_
    refine lv_istore (lv' := [(6, .int 0), (5, .int 0), (0, .ref (ad 0)), (3, .int x3), (4, .int x4)]) hx hb dX10_add_168 hl (by decide) rfl (fun ls hl => ?_)
    refine lv_iconst (v := 0) hx hb dX10_add_170 (by decide) ?_
    refine lv_istore (lv' := [(7, .int 0), (6, .int 0), (5, .int 0), (0, .ref (ad 0)), (3, .int x3), (4, .int x4)]) hx hb dX10_add_171 hl (by decide) rfl (fun ls hl => ?_)
    exact n173 FU x3 x4 0 0 0 σ _ _ hP hD hS _ (lv_sub hl [3, 4, 5, 2, 1, 0] rfl) h
  have n134 : ∀ (n : Nat) (x3 : Int32) (x4 : Int32) (σ : Mem) (H : Heap) (locs : List Loc), va_P D vwCl (wdX10 cI cZ cB ad w σ) H → va_D A (wdX10 cI cZ cB ad w σ) → va_S A s.heap H locs → ∀ (ls : Array Slot), lv_has ls 9 [(0, .ref (ad 0)), (2, .int a2), (3, .int x3), (4, .int x4)] → X10_add_134 a1 a2 n x3 x4 σ = some res → W p l e rmX10_add s m args below meth c H locs 0 0 Q (F0 m 134 ls []) := by
    intro n
    induction n with
    | zero =>
      intro x3 x4 σ H locs hP hD hS ls hl h
      rw [X10_add_134] at h
      cases h
    | succ n_134 ih134 =>
      intro x3 x4 σ H locs hP hD hS ls hl h
      rw [X10_add_134] at h
      refine lv_iload hx hb dX10_add_134 (lv_at hl 3 rfl) ?_
      refine lv_aload_n hx hb dX10_add_136 rfl (lv_at hl 0 rfl) ?_
      refine va_get (ci := 8) (v := .int (σ 0 21)) (C := RX10) (T := TX10) (N := 42) hx hb hts hinX10 hown hK hP 0 rfl rfl 21 (by decide) fl5 (fun _ h9 => h9) rfl dX10_add_137 ?_
      refine lv_icmp_ge (tgt := 164) hx hb dX10_add_140 (by decide) (fun c43 => ?_) (fun c43 => ?_)
      · have h := ite_t c43 h
        exact n164 x3 x4 σ _ _ hP hD hS _ (lv_sub hl [0, 2, 3] rfl) h
      · have h := ite_f c43 h
        refine lv_aload_n hx hb dX10_add_143 rfl (lv_at hl 0 rfl) ?_
        refine lv_aload_n hx hb dX10_add_144 rfl (lv_at hl 0 rfl) ?_
        refine va_get (ci := 8) (v := .ref (ad 9)) (C := RX10) (T := TX10) (N := 42) hx hb hts hinX10 hown hK hP 0 rfl rfl 19 (by decide) fl1 (fun _ h9 => h9) rfl dX10_add_145 ?_
        refine lv_iload hx hb dX10_add_148 (lv_at hl 3 rfl) ?_
        obtain ⟨hin44, h⟩ := gd_e h
        refine va_iald hx hb hK hP 9 0 rfl rfl hin44 dX10_add_150 ?_
        refine lv_iload_n hx hb dX10_add_151 rfl (lv_at hl 1 rfl) ?_
        obtain ⟨r45, hr45, h⟩ := bd_e h
        refine cl_RV (rest := []) (ci := 8) (q0 := 0) ⟨hx, hb, hml, hown, hts⟩ (mX10_isUnder l D cI cZ cB ad w σ (σ 9 (Int32.toNatClampNeg x4)) a2 r45 hr45) (cwV 2 hts gX10_add_X10_isUnder rfl rfl rfl (by decide +kernel) ⟨Nat.le_of_ble_eq_true rfl, Nat.le_of_ble_eq_true rfl⟩) hK hP rfl rfl rfl rfl hl.1 rfl (Nat.le_of_ble_eq_true rfl) dX10_add_152 ⟨Nat.zero_le _, Nat.zero_le _⟩ ?_
        refine W.eq (g2 := F0 m 155 ls [.int r45]) rfl ?_
        refine lv_if_eq (tgt := 164) hx hb dX10_add_155 (by decide) (fun c46 => ?_) (fun c46 => ?_)
        · have h := ite_t c46 h
          exact n164 x3 x4 σ _ _ hP hD hS _ (lv_sub hl [0, 2, 3] rfl) h
        · have h := ite_f c46 h
          obtain ⟨x4_47, ex4_47, h⟩ := lt_e h
          refine lv_iinc (v := x4_47) (lv' := [(4, .int x4_47), (0, .ref (ad 0)), (2, .int a2), (3, .int x3)]) hx hb dX10_add_158 hl (k := 3) rfl (by rw [ex4_47]; rfl) (by decide) rfl (fun ls hl => ?_)
          refine lv_goto (tgt := 134) hx hb dX10_add_161 (by decide) ?_
          exact ih134 x3 x4_47 σ _ _ hP hD hS _ (lv_sub hl [1, 2, 3, 0] rfl) h
  have n118 : ∀ (x3 : Int32) (y0 : Int32) (σ : Mem) (H : Heap) (locs : List Loc), va_P D vwCl (wdX10 cI cZ cB ad w σ) H → va_D A (wdX10 cI cZ cB ad w σ) → va_S A s.heap H locs → ∀ (ls : Array Slot), lv_has ls 9 [(0, .ref (ad 0)), (2, .int a2), (3, .int x3)] → X10_add_118 a1 a2 x3 y0 σ = some res → W p l e rmX10_add s m args below meth c H locs 0 0 Q (F0 m 118 ls [.int y0]) := by
    intro x3 y0 σ H locs hP hD hS ls hl h
    rw [X10_add_118] at h
    refine lv_istore (lv' := [(4, .int y0), (0, .ref (ad 0)), (2, .int a2), (3, .int x3)]) hx hb dX10_add_118 hl (by decide) rfl (fun ls hl => ?_)
    refine lv_iload_n hx hb dX10_add_120 rfl (lv_at hl 2 rfl) ?_
    refine lv_iconst (v := (-1)) hx hb dX10_add_121 (by decide) ?_
    refine lv_icmp_eq (tgt := 164) hx hb dX10_add_122 (by decide) (fun c48 => ?_) (fun c48 => ?_)
    · have h := ite_t c48 h
      exact n164 x3 y0 σ _ _ hP hD hS _ (lv_sub hl [1, 3, 0] rfl) h
    · have h := ite_f c48 h
      refine lv_aload_n hx hb dX10_add_125 rfl (lv_at hl 1 rfl) ?_
      refine lv_iload_n hx hb dX10_add_126 rfl (lv_at hl 2 rfl) ?_
      obtain ⟨r49, hr49, h⟩ := bd_e h
      refine cl_RV (rest := []) (ci := 8) (q0 := 0) ⟨hx, hb, hml, hown, hts⟩ (mX10_placeOf l D cI cZ cB ad w σ a2 r49 hr49) (cwV 1 hts gX10_add_X10_placeOf rfl rfl rfl (by decide +kernel) ⟨Nat.le_of_ble_eq_true rfl, Nat.le_of_ble_eq_true rfl⟩) hK hP rfl rfl rfl rfl hl.1 rfl (Nat.le_of_ble_eq_true rfl) dX10_add_127 ⟨Nat.zero_le _, Nat.zero_le _⟩ ?_
      refine W.eq (g2 := F0 m 130 ls [.int r49]) rfl ?_
      refine lv_iconst (v := 1) hx hb dX10_add_130 (by decide) ?_
      refine lv_iadd hx hb dX10_add_131 ?_
      obtain ⟨x4_50, ex4_50, h⟩ := lt_e h
      refine lv_topE ex4_50 ?_
      refine lv_istore (lv' := [(4, .int x4_50), (0, .ref (ad 0)), (2, .int a2), (3, .int x3)]) hx hb dX10_add_132 hl (by decide) rfl (fun ls hl => ?_)
      exact n134 FU x3 x4_50 σ _ _ hP hD hS _ (lv_sub hl [1, 2, 3, 0] rfl) h
  have n94 : ∀ (x3 : Int32) (y1 : Int32) (y2 : Int32) (σ : Mem) (H : Heap) (locs : List Loc), va_P D vwCl (wdX10 cI cZ cB ad w σ) H → va_D A (wdX10 cI cZ cB ad w σ) → va_S A s.heap H locs → ∀ (ls : Array Slot), lv_has ls 9 [(0, .ref (ad 0)), (1, .int a1), (2, .int a2), (3, .int x3)] → X10_add_94 a1 a2 x3 y1 y2 σ = some res → W p l e rmX10_add s m args below meth c H locs 0 0 Q (F0 m 94 ls [.int y2, .int y1, .ref (ad 6)]) := by
    intro x3 y1 y2 σ H locs hP hD hS ls hl h
    rw [X10_add_94] at h
    obtain ⟨hin51, h⟩ := gd_e h
    obtain ⟨σ52, eσ52, h⟩ := lt_e h
    refine va_iast hx hb hK hP hD hS 6 0 rfl rfl hin51 dX10_add_94 (fun H locs hP1 hD1 hS => ?_)
    have hP : va_P D vwCl (wdX10 cI cZ cB ad w σ52) H := by rw [eσ52]; exact hP1
    have hD : va_D A (wdX10 cI cZ cB ad w σ52) := D_of (by rfl) hD
    refine lv_aload_n hx hb dX10_add_95 rfl (lv_at hl 0 rfl) ?_
    refine va_get (ci := 8) (v := .ref (ad 7)) (C := RX10) (T := TX10) (N := 42) hx hb hts hinX10 hown hK hP 0 rfl rfl 17 (by decide) fl7 (fun _ h9 => h9) rfl dX10_add_96 ?_
    refine lv_iload_n hx hb dX10_add_99 rfl (lv_at hl 3 rfl) ?_
    refine lv_iload_n hx hb dX10_add_100 rfl (lv_at hl 1 rfl) ?_
    obtain ⟨hin53, h⟩ := gd_e h
    obtain ⟨σ54, eσ54, h⟩ := lt_e h
    refine va_iast hx hb hK hP hD hS 7 0 rfl rfl hin53 dX10_add_101 (fun H locs hP1 hD1 hS => ?_)
    have hP : va_P D vwCl (wdX10 cI cZ cB ad w σ54) H := by rw [eσ54]; exact hP1
    have hD : va_D A (wdX10 cI cZ cB ad w σ54) := D_of (by rfl) hD
    refine lv_iload_n hx hb dX10_add_102 rfl (lv_at hl 1 rfl) ?_
    refine lv_iconst (v := (-1)) hx hb dX10_add_103 (by decide) ?_
    refine lv_icmp_ne (tgt := 111) hx hb dX10_add_104 (by decide) (fun c55 => ?_) (fun c55 => ?_)
    · have h := ite_f c55 h
      refine lv_aload_n hx hb dX10_add_111 rfl (lv_at hl 0 rfl) ?_
      refine lv_iload_n hx hb dX10_add_112 rfl (lv_at hl 1 rfl) ?_
      obtain ⟨r56, hr56, h⟩ := bd_e h
      refine cl_RV (rest := []) (ci := 8) (q0 := 0) ⟨hx, hb, hml, hown, hts⟩ (mX10_placeOf l D cI cZ cB ad w σ54 a1 r56 hr56) (cwV 1 hts gX10_add_X10_placeOf rfl rfl rfl (by decide +kernel) ⟨Nat.le_of_ble_eq_true rfl, Nat.le_of_ble_eq_true rfl⟩) hK hP rfl rfl rfl rfl hl.1 rfl (Nat.le_of_ble_eq_true rfl) dX10_add_113 ⟨Nat.zero_le _, Nat.zero_le _⟩ ?_
      refine W.eq (g2 := F0 m 116 ls [.int r56]) rfl ?_
      refine lv_iconst (v := 1) hx hb dX10_add_116 (by decide) ?_
      refine lv_iadd hx hb dX10_add_117 ?_
      exact n118 x3 (r56 + 1) σ54 _ _ hP hD hS _ (lv_sub hl [0, 2, 3] rfl) h
    · have h := ite_t c55 h
      refine lv_iconst (v := 0) hx hb dX10_add_107 (by decide) ?_
      refine lv_goto (tgt := 118) hx hb dX10_add_108 (by decide) ?_
      exact n118 x3 0 σ54 _ _ hP hD hS _ (lv_sub hl [0, 2, 3] rfl) h
  have n67 : ∀ (σ : Mem) (H : Heap) (locs : List Loc), va_P D vwCl (wdX10 cI cZ cB ad w σ) H → va_D A (wdX10 cI cZ cB ad w σ) → va_S A s.heap H locs → ∀ (ls : Array Slot), lv_has ls 9 [(0, .ref (ad 0)), (1, .int a1), (2, .int a2)] → X10_add_67 a1 a2 σ = some res → W p l e rmX10_add s m args below meth c H locs 0 0 Q (F0 m 67 ls []) := by
    intro σ H locs hP hD hS ls hl h
    rw [X10_add_67] at h
    refine lv_aload_n hx hb dX10_add_67 rfl (lv_at hl 0 rfl) ?_
    refine va_get (ci := 8) (v := .int (σ 0 21)) (C := RX10) (T := TX10) (N := 42) hx hb hts hinX10 hown hK hP 0 rfl rfl 21 (by decide) fl5 (fun _ h9 => h9) rfl dX10_add_68 ?_
    obtain ⟨x3_57, ex3_57, h⟩ := lt_e h
    refine lv_topE ex3_57 ?_
    refine lv_istore_n (lv' := [(3, .int x3_57), (0, .ref (ad 0)), (1, .int a1), (2, .int a2)]) hx hb dX10_add_71 rfl hl (by decide) rfl (fun ls hl => ?_)
    refine lv_aload_n hx hb dX10_add_72 rfl (lv_at hl 1 rfl) ?_
    refine va_get (ci := 8) (v := .ref (ad 6)) (C := RX10) (T := TX10) (N := 42) hx hb hts hinX10 hown hK hP 0 rfl rfl 16 (by decide) fl8 (fun _ h9 => h9) rfl dX10_add_73 ?_
    refine lv_iload_n hx hb dX10_add_76 rfl (lv_at hl 0 rfl) ?_
    refine lv_iload_n hx hb dX10_add_77 rfl (lv_at hl 2 rfl) ?_
    refine lv_iconst (v := (-1)) hx hb dX10_add_78 (by decide) ?_
    refine lv_icmp_ne (tgt := 86) hx hb dX10_add_79 (by decide) (fun c58 => ?_) (fun c58 => ?_)
    · have h := ite_f c58 h
      refine lv_aload_n hx hb dX10_add_86 rfl (lv_at hl 1 rfl) ?_
      refine va_get (ci := 8) (v := .ref (ad 6)) (C := RX10) (T := TX10) (N := 42) hx hb hts hinX10 hown hK hP 0 rfl rfl 16 (by decide) fl8 (fun _ h9 => h9) rfl dX10_add_87 ?_
      refine lv_iload_n hx hb dX10_add_90 rfl (lv_at hl 2 rfl) ?_
      obtain ⟨hin59, h⟩ := gd_e h
      refine va_iald hx hb hK hP 6 0 rfl rfl hin59 dX10_add_91 ?_
      refine lv_iconst (v := 1) hx hb dX10_add_92 (by decide) ?_
      refine lv_iadd hx hb dX10_add_93 ?_
      exact n94 x3_57 x3_57 ((σ 6 (Int32.toNatClampNeg a1)) + 1) σ _ _ hP hD hS _ (lv_sub hl [1, 2, 3, 0] rfl) h
    · have h := ite_t c58 h
      refine lv_iconst (v := 0) hx hb dX10_add_82 (by decide) ?_
      refine lv_goto (tgt := 94) hx hb dX10_add_83 (by decide) ?_
      exact n94 x3_57 x3_57 0 σ _ _ hP hD hS _ (lv_sub hl [1, 2, 3, 0] rfl) h
  have n42 : ∀ (σ : Mem) (H : Heap) (locs : List Loc), va_P D vwCl (wdX10 cI cZ cB ad w σ) H → va_D A (wdX10 cI cZ cB ad w σ) → va_S A s.heap H locs → ∀ (ls : Array Slot), lv_has ls 9 [(0, .ref (ad 0)), (1, .int a1), (2, .int a2)] → X10_add_42 a1 a2 σ = some res → W p l e rmX10_add s m args below meth c H locs 0 0 Q (F0 m 42 ls []) := by
    intro σ H locs hP hD hS ls hl h
    rw [X10_add_42] at h
    refine lv_iload_n hx hb dX10_add_42 rfl (lv_at hl 2 rfl) ?_
    refine lv_iconst (v := (-1)) hx hb dX10_add_43 (by decide) ?_
    refine lv_icmp_eq (tgt := 67) hx hb dX10_add_44 (by decide) (fun c60 => ?_) (fun c60 => ?_)
    · have h := ite_t c60 h
      exact n67 σ _ _ hP hD hS _ (lv_sub hl [0, 1, 2] rfl) h
    · have h := ite_f c60 h
      refine lv_aload_n hx hb dX10_add_47 rfl (lv_at hl 0 rfl) ?_
      refine lv_iload_n hx hb dX10_add_48 rfl (lv_at hl 2 rfl) ?_
      obtain ⟨r61, hr61, h⟩ := bd_e h
      refine cl_RV (rest := []) (ci := 8) (q0 := 0) ⟨hx, hb, hml, hown, hts⟩ (mX10_isItem l D cI cZ cB ad w σ a2 r61 hr61) (cwV 1 hts gX10_add_X10_isItem rfl rfl rfl (by decide +kernel) ⟨Nat.le_of_ble_eq_true rfl, Nat.le_of_ble_eq_true rfl⟩) hK hP rfl rfl rfl rfl hl.1 rfl (Nat.le_of_ble_eq_true rfl) dX10_add_49 ⟨Nat.zero_le _, Nat.zero_le _⟩ ?_
      refine W.eq (g2 := F0 m 52 ls [.int r61]) rfl ?_
      refine lv_if_eq (tgt := 65) hx hb dX10_add_52 (by decide) (fun c62 => ?_) (fun c62 => ?_)
      · have h := ite_t c62 h
        refine lv_iconst (v := (-1)) hx hb dX10_add_65 (by decide) ?_
        exact hR (some (.int (-1))) (wdX10 cI cZ cB ad w σ) _ _ _ _ (by rw [← Option.some.inj h]) (by rw [← Option.some.inj h]) rfl dX10_add_66 hP hS
      · have h := ite_f c62 h
        refine lv_aload_n hx hb dX10_add_55 rfl (lv_at hl 0 rfl) ?_
        refine va_get (ci := 8) (v := .ref (ad 7)) (C := RX10) (T := TX10) (N := 42) hx hb hts hinX10 hown hK hP 0 rfl rfl 17 (by decide) fl7 (fun _ h9 => h9) rfl dX10_add_56 ?_
        refine lv_iload_n hx hb dX10_add_59 rfl (lv_at hl 2 rfl) ?_
        obtain ⟨hin63, h⟩ := gd_e h
        refine va_iald hx hb hK hP 7 0 rfl rfl hin63 dX10_add_60 ?_
        refine lv_iload_n hx hb dX10_add_61 rfl (lv_at hl 1 rfl) ?_
        refine lv_icmp_eq (tgt := 67) hx hb dX10_add_62 (by decide) (fun c64 => ?_) (fun c64 => ?_)
        · have h := ite_t c64 h
          exact n67 σ _ _ hP hD hS _ (lv_sub hl [0, 1, 2] rfl) h
        · have h := ite_f c64 h
          refine lv_iconst (v := (-1)) hx hb dX10_add_65 (by decide) ?_
          exact hR (some (.int (-1))) (wdX10 cI cZ cB ad w σ) _ _ _ _ (by rw [← Option.some.inj h]) (by rw [← Option.some.inj h]) rfl dX10_add_66 hP hS
  rw [X10_add] at h
  have hS := hS
  refine lv_aload_n hx hb dX10_add_0 rfl (lv_at hl 0 rfl) ?_
  refine lv_iconst (v := 0) hx hb dX10_add_1 (by decide) ?_
  obtain ⟨σ65, eσ65, h⟩ := lt_e h
  refine va_put (ci := 8) (v := .int 0) (ty := .int) (C := RX10) (T := TX10) (N := 42) hx hb hts hinX10 tyX10 tyX10_ok nmX10 hown hK hP hD hS 0 rfl rfl 0 (by decide) fl9 (fun _ h9 => h9) rfl (by decide +kernel) rfl rfl (Nat.le_of_ble_eq_true rfl) dX10_add_2 (fun H locs hP1 hD1 hS => ?_)
  have hP : va_P D vwCl (wdX10 cI cZ cB ad w σ65) H := by rw [eσ65]; exact hP1
  have hD : va_D A (wdX10 cI cZ cB ad w σ65) := D_of (by rfl) hD
  refine lv_aload_n hx hb dX10_add_5 rfl (lv_at hl 0 rfl) ?_
  refine va_get (ci := 8) (v := .int (σ65 0 21)) (C := RX10) (T := TX10) (N := 42) hx hb hts hinX10 hown hK hP 0 rfl rfl 21 (by decide) fl5 (fun _ h9 => h9) rfl dX10_add_6 ?_
  refine lv_bipush (v := 80) hx hb dX10_add_9 (by decide) ?_
  refine lv_icmp_eq (tgt := 65) hx hb dX10_add_11 (by decide) (fun c66 => ?_) (fun c66 => ?_)
  · have h := ite_t c66 h
    refine lv_iconst (v := (-1)) hx hb dX10_add_65 (by decide) ?_
    exact hR (some (.int (-1))) (wdX10 cI cZ cB ad w σ65) _ _ _ _ (by rw [← Option.some.inj h]) (by rw [← Option.some.inj h]) rfl dX10_add_66 hP hS
  · have h := ite_f c66 h
    refine lv_iload_n hx hb dX10_add_14 rfl (lv_at hl 1 rfl) ?_
    refine lv_iconst (v := (-1)) hx hb dX10_add_15 (by decide) ?_
    refine lv_icmp_eq (tgt := 42) hx hb dX10_add_16 (by decide) (fun c67 => ?_) (fun c67 => ?_)
    · have h := ite_t c67 h
      exact n42 σ65 _ _ hP hD hS _ (lv_sub hl [0, 1, 2] rfl) h
    · have h := ite_f c67 h
      refine lv_aload_n hx hb dX10_add_19 rfl (lv_at hl 0 rfl) ?_
      refine lv_iload_n hx hb dX10_add_20 rfl (lv_at hl 1 rfl) ?_
      obtain ⟨r68, hr68, h⟩ := bd_e h
      refine cl_RV (rest := []) (ci := 8) (q0 := 0) ⟨hx, hb, hml, hown, hts⟩ (mX10_isItem l D cI cZ cB ad w σ65 a1 r68 hr68) (cwV 1 hts gX10_add_X10_isItem rfl rfl rfl (by decide +kernel) ⟨Nat.le_of_ble_eq_true rfl, Nat.le_of_ble_eq_true rfl⟩) hK hP rfl rfl rfl rfl hl.1 rfl (Nat.le_of_ble_eq_true rfl) dX10_add_21 ⟨Nat.zero_le _, Nat.zero_le _⟩ ?_
      refine W.eq (g2 := F0 m 24 ls [.int r68]) rfl ?_
      refine lv_if_eq (tgt := 65) hx hb dX10_add_24 (by decide) (fun c69 => ?_) (fun c69 => ?_)
      · have h := ite_t c69 h
        refine lv_iconst (v := (-1)) hx hb dX10_add_65 (by decide) ?_
        exact hR (some (.int (-1))) (wdX10 cI cZ cB ad w σ65) _ _ _ _ (by rw [← Option.some.inj h]) (by rw [← Option.some.inj h]) rfl dX10_add_66 hP hS
      · have h := ite_f c69 h
        refine lv_aload_n hx hb dX10_add_27 rfl (lv_at hl 0 rfl) ?_
        refine va_get (ci := 8) (v := .ref (ad 6)) (C := RX10) (T := TX10) (N := 42) hx hb hts hinX10 hown hK hP 0 rfl rfl 16 (by decide) fl8 (fun _ h9 => h9) rfl dX10_add_28 ?_
        refine lv_iload_n hx hb dX10_add_31 rfl (lv_at hl 1 rfl) ?_
        obtain ⟨hin70, h⟩ := gd_e h
        refine va_iald hx hb hK hP 6 0 rfl rfl hin70 dX10_add_32 ?_
        refine lv_aload_n hx hb dX10_add_33 rfl (lv_at hl 0 rfl) ?_
        refine va_get (ci := 8) (v := .int (σ65 0 9)) (C := RX10) (T := TX10) (N := 42) hx hb hts hinX10 hown hK hP 0 rfl rfl 9 (by decide) fl10 (fun _ h9 => h9) rfl dX10_add_34 ?_
        refine lv_iconst (v := 1) hx hb dX10_add_37 (by decide) ?_
        refine lv_isub hx hb dX10_add_38 ?_
        refine lv_icmp_eq (tgt := 65) hx hb dX10_add_39 (by decide) (fun c71 => ?_) (fun c71 => ?_)
        · have h := ite_t c71 h
          refine lv_iconst (v := (-1)) hx hb dX10_add_65 (by decide) ?_
          exact hR (some (.int (-1))) (wdX10 cI cZ cB ad w σ65) _ _ _ _ (by rw [← Option.some.inj h]) (by rw [← Option.some.inj h]) rfl dX10_add_66 hP hS
        · have h := ite_f c71 h
          exact n42 σ65 _ _ hP hD hS _ (lv_sub hl [0, 1, 2] rfl) h
set_option maxHeartbeats 4000000 in
set_option maxRecDepth 100000 in
theorem mX10_add (l : Launch) (D : va_G) (cI cZ cB : ClassId) (ad : Nat → Nat) (w : Int64) (σ : Mem) (sz : Nat) (a1 : Int32) (a2 : Int32) (res : Int32 × Mem) (h : X10_add a1 a2 σ = some res) : Met l yX10_add wsX10_add rmX10_add (pW D cI cZ cB (wdX10 cI cZ cB ad w σ) sz [.ref (ad 0), .int a1, .int a2]) (qW D (some (.int res.1)) (wdX10 cI cZ cB ad w res.2) (va_A (wdX10 cI cZ cB ad w σ) sz)) 0 0 (va_A (wdX10 cI cZ cB ad w σ) sz) := (bX10_add l D cI cZ cB ad w σ a1 a2 res h).met (by decide +kernel) rfl (Nat.le_of_ble_eq_true rfl)
