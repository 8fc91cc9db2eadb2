/-! printed: the walks -/
def rmX9_feed : Room := { frames := 2, cells := 0, slots := 0, locals := 42 }
set_option maxHeartbeats 4000000 in
set_option maxRecDepth 100000 in
theorem bX9_feed (l : Launch) (D : va_G) (cI cZ cB : ClassId) (ad : Nat → Nat) (σ : Mem) (a1 : Int32) (a2 : Int32) (a3 : Int32) (a4 : Int32) (a5 : Int32) (res : Int32 × Mem) (h : X9_feed a1 a2 a3 a4 a5 σ = some res) : BW l yX9_feed wsX9_feed rmX9_feed cX9_feed 6 (some .int) D cI cZ cB (wdX9 cI cZ cB ad σ) [.ref (ad 0), .int a1, .int a2, .int a3, .int a4, .int a5] (some (.int res.1)) (wdX9 cI cZ cB ad res.2) := by
  intro p e s m args below meth c ls Q A hx hb hml hts hown hK hA hP hD hS hl0 hR
  have hinX8 : ∀ w ∈ u_ws RX8 TX8 2, w ∈ wsX9_feed := (fun _ h => List.mem_cons_of_mem _ (List.mem_append_right _ h))
  have hinX9 : ∀ w ∈ u_ws RX9 TX9 15, w ∈ wsX9_feed := (fun _ h => List.mem_cons_of_mem _ (List.mem_append_left _ (List.mem_append_right _ h)))
  have fl1 := hts (.fieldLink RX9 10 "LawNumberer" "tape" "LLawNumberer$Text;") (by decide +kernel)
  have fl2 := hts (.fieldLink RX9 78 "LawNumberer$Text" "length" "I") (by decide +kernel)
  have hl : lv_has ls 6 [(0, .ref (ad 0)), (1, .int a1), (2, .int a2), (3, .int a3), (4, .int a4), (5, .int a5)] := hl0
  rw [X9_feed] at h
  have hS := hS
  refine lv_aload_n hx hb dX9_feed_0 rfl (lv_at hl 0 rfl) ?_
  refine va_get (ci := 7) (v := .ref (ad 1)) (C := RX9) (T := TX9) (N := 15) hx hb hts hinX9 hown hK hP 0 rfl rfl 0 (by decide) fl1 (fun _ h9 => h9) rfl dX9_feed_1 ?_
  refine va_get (ci := 6) (v := .int (σ 1 1)) (C := RX8) (T := TX8) (N := 2) hx hb hts hinX8 hown hK hP 1 rfl rfl 1 (by decide) fl2 (fun _ h9 => h9) rfl dX9_feed_4 ?_
  refine lv_bipush (v := 20) hx hb dX9_feed_7 (by decide) ?_
  refine lv_iadd hx hb dX9_feed_9 ?_
  refine lv_sipush (v := 200) hx hb dX9_feed_10 (by decide) ?_
  refine lv_icmp_le (tgt := 18) hx hb dX9_feed_13 (by decide) (fun c1 => ?_) (fun c1 => ?_)
  · have h := ite_t c1 h
    refine lv_aload_n hx hb dX9_feed_18 rfl (lv_at hl 0 rfl) ?_
    refine va_get (ci := 7) (v := .ref (ad 1)) (C := RX9) (T := TX9) (N := 15) hx hb hts hinX9 hown hK hP 0 rfl rfl 0 (by decide) fl1 (fun _ h9 => h9) rfl dX9_feed_19 ?_
    refine lv_iload_n hx hb dX9_feed_22 rfl (lv_at hl 1 rfl) ?_
    obtain ⟨r2, hr2, h⟩ := bd_e h
    obtain ⟨σ3, eσ3, h⟩ := lt_e h
    refine cl_WV (rest := []) (wn := (wdX9 cI cZ cB ad σ3)) (lp := [1, 2]) (ci := 6) (q0 := 0) ⟨hx, hb, hml, hown, hts⟩ (mX8_putFour l D cI cZ cB (mp ad [1, 2]) (mp σ [1, 2]) s.heap.size a1 r2 hr2) (cwV 1 hts gX9_feed_X8_putFour rfl rfl rfl (by decide +kernel) ⟨Nat.le_of_ble_eq_true rfl, Nat.le_of_ble_eq_true rfl⟩) hK hP hD hS hA rfl rfl rfl (by rw [eσ3]; rfl) rfl rfl rfl rfl rfl hl.1 rfl (Nat.le_of_ble_eq_true rfl) dX9_feed_23 ⟨Nat.zero_le _, Nat.zero_le _⟩ (fun H locs hP hD hS => ?_)
    refine W.eq (g2 := F0 m 26 ls []) rfl ?_
    refine lv_aload_n hx hb dX9_feed_26 rfl (lv_at hl 0 rfl) ?_
    refine va_get (ci := 7) (v := .ref (ad 1)) (C := RX9) (T := TX9) (N := 15) hx hb hts hinX9 hown hK hP 0 rfl rfl 0 (by decide) fl1 (fun _ h9 => h9) rfl dX9_feed_27 ?_
    refine lv_iload_n hx hb dX9_feed_30 rfl (lv_at hl 2 rfl) ?_
    obtain ⟨r4, hr4, h⟩ := bd_e h
    obtain ⟨σ5, eσ5, h⟩ := lt_e h
    refine cl_WV (rest := []) (wn := (wdX9 cI cZ cB ad σ5)) (lp := [1, 2]) (ci := 6) (q0 := 0) ⟨hx, hb, hml, hown, hts⟩ (mX8_putFour l D cI cZ cB (mp ad [1, 2]) (mp σ3 [1, 2]) H.size a2 r4 hr4) (cwV 1 hts gX9_feed_X8_putFour rfl rfl rfl (by decide +kernel) ⟨Nat.le_of_ble_eq_true rfl, Nat.le_of_ble_eq_true rfl⟩) hK hP hD hS hA rfl rfl rfl (by rw [eσ5]; rfl) rfl rfl rfl rfl rfl hl.1 rfl (Nat.le_of_ble_eq_true rfl) dX9_feed_31 ⟨Nat.zero_le _, Nat.zero_le _⟩ (fun H locs hP hD hS => ?_)
    refine W.eq (g2 := F0 m 34 ls []) rfl ?_
    refine lv_aload_n hx hb dX9_feed_34 rfl (lv_at hl 0 rfl) ?_
    refine va_get (ci := 7) (v := .ref (ad 1)) (C := RX9) (T := TX9) (N := 15) hx hb hts hinX9 hown hK hP 0 rfl rfl 0 (by decide) fl1 (fun _ h9 => h9) rfl dX9_feed_35 ?_
    refine lv_iload_n hx hb dX9_feed_38 rfl (lv_at hl 3 rfl) ?_
    obtain ⟨r6, hr6, h⟩ := bd_e h
    obtain ⟨σ7, eσ7, h⟩ := lt_e h
    refine cl_WV (rest := []) (wn := (wdX9 cI cZ cB ad σ7)) (lp := [1, 2]) (ci := 6) (q0 := 0) ⟨hx, hb, hml, hown, hts⟩ (mX8_putFour l D cI cZ cB (mp ad [1, 2]) (mp σ5 [1, 2]) H.size a3 r6 hr6) (cwV 1 hts gX9_feed_X8_putFour rfl rfl rfl (by decide +kernel) ⟨Nat.le_of_ble_eq_true rfl, Nat.le_of_ble_eq_true rfl⟩) hK hP hD hS hA rfl rfl rfl (by rw [eσ7]; rfl) rfl rfl rfl rfl rfl hl.1 rfl (Nat.le_of_ble_eq_true rfl) dX9_feed_39 ⟨Nat.zero_le _, Nat.zero_le _⟩ (fun H locs hP hD hS => ?_)
    refine W.eq (g2 := F0 m 42 ls []) rfl ?_
    refine lv_aload_n hx hb dX9_feed_42 rfl (lv_at hl 0 rfl) ?_
    refine va_get (ci := 7) (v := .ref (ad 1)) (C := RX9) (T := TX9) (N := 15) hx hb hts hinX9 hown hK hP 0 rfl rfl 0 (by decide) fl1 (fun _ h9 => h9) rfl dX9_feed_43 ?_
    refine lv_iload hx hb dX9_feed_46 (lv_at hl 4 rfl) ?_
    obtain ⟨r8, hr8, h⟩ := bd_e h
    obtain ⟨σ9, eσ9, h⟩ := lt_e h
    refine cl_WV (rest := []) (wn := (wdX9 cI cZ cB ad σ9)) (lp := [1, 2]) (ci := 6) (q0 := 0) ⟨hx, hb, hml, hown, hts⟩ (mX8_putFour l D cI cZ cB (mp ad [1, 2]) (mp σ7 [1, 2]) H.size a4 r8 hr8) (cwV 1 hts gX9_feed_X8_putFour rfl rfl rfl (by decide +kernel) ⟨Nat.le_of_ble_eq_true rfl, Nat.le_of_ble_eq_true rfl⟩) hK hP hD hS hA rfl rfl rfl (by rw [eσ9]; rfl) rfl rfl rfl rfl rfl hl.1 rfl (Nat.le_of_ble_eq_true rfl) dX9_feed_48 ⟨Nat.zero_le _, Nat.zero_le _⟩ (fun H locs hP hD hS => ?_)
    refine W.eq (g2 := F0 m 51 ls []) rfl ?_
    refine lv_aload_n hx hb dX9_feed_51 rfl (lv_at hl 0 rfl) ?_
    refine va_get (ci := 7) (v := .ref (ad 1)) (C := RX9) (T := TX9) (N := 15) hx hb hts hinX9 hown hK hP 0 rfl rfl 0 (by decide) fl1 (fun _ h9 => h9) rfl dX9_feed_52 ?_
    refine lv_iload hx hb dX9_feed_55 (lv_at hl 5 rfl) ?_
    obtain ⟨r10, hr10, h⟩ := bd_e h
    obtain ⟨σ11, eσ11, h⟩ := lt_e h
    refine cl_WV (rest := []) (wn := (wdX9 cI cZ cB ad σ11)) (lp := [1, 2]) (ci := 6) (q0 := 0) ⟨hx, hb, hml, hown, hts⟩ (mX8_putFour l D cI cZ cB (mp ad [1, 2]) (mp σ9 [1, 2]) H.size a5 r10 hr10) (cwV 1 hts gX9_feed_X8_putFour rfl rfl rfl (by decide +kernel) ⟨Nat.le_of_ble_eq_true rfl, Nat.le_of_ble_eq_true rfl⟩) hK hP hD hS hA rfl rfl rfl (by rw [eσ11]; rfl) rfl rfl rfl rfl rfl hl.1 rfl (Nat.le_of_ble_eq_true rfl) dX9_feed_57 ⟨Nat.zero_le _, Nat.zero_le _⟩ (fun H locs hP hD hS => ?_)
    refine W.eq (g2 := F0 m 60 ls []) rfl ?_
    refine lv_aload_n hx hb dX9_feed_60 rfl (lv_at hl 0 rfl) ?_
    refine va_get (ci := 7) (v := .ref (ad 1)) (C := RX9) (T := TX9) (N := 15) hx hb hts hinX9 hown hK hP 0 rfl rfl 0 (by decide) fl1 (fun _ h9 => h9) rfl dX9_feed_61 ?_
    refine va_get (ci := 6) (v := .int (σ11 1 1)) (C := RX8) (T := TX8) (N := 2) hx hb hts hinX8 hown hK hP 1 rfl rfl 1 (by decide) fl2 (fun _ h9 => h9) rfl dX9_feed_64 ?_
    exact hR (some (.int (σ11 1 1))) (wdX9 cI cZ cB ad σ11) _ _ _ _ (by rw [← Option.some.inj h]) (by rw [← Option.some.inj h]) rfl dX9_feed_67 hP hS
  · have h := ite_f c1 h
    refine lv_iconst (v := (-1)) hx hb dX9_feed_16 (by decide) ?_
    exact hR (some (.int (-1))) (wdX9 cI cZ cB ad σ) _ _ _ _ (by rw [← Option.some.inj h]) (by rw [← Option.some.inj h]) rfl dX9_feed_17 hP hS
set_option maxHeartbeats 4000000 in
set_option maxRecDepth 100000 in
theorem mX9_feed (l : Launch) (D : va_G) (cI cZ cB : ClassId) (ad : Nat → Nat) (σ : Mem) (sz : Nat) (a1 : Int32) (a2 : Int32) (a3 : Int32) (a4 : Int32) (a5 : Int32) (res : Int32 × Mem) (h : X9_feed a1 a2 a3 a4 a5 σ = some res) : Met l yX9_feed wsX9_feed rmX9_feed (pW D cI cZ cB (wdX9 cI cZ cB ad σ) sz [.ref (ad 0), .int a1, .int a2, .int a3, .int a4, .int a5]) (qW D (some (.int res.1)) (wdX9 cI cZ cB ad res.2) (va_A (wdX9 cI cZ cB ad σ) sz)) 0 0 (va_A (wdX9 cI cZ cB ad σ) sz) := (bX9_feed l D cI cZ cB ad σ a1 a2 a3 a4 a5 res h).met (by decide +kernel) rfl (Nat.le_of_ble_eq_true rfl)
def rmX9_end : Room := { frames := 0, cells := 0, slots := 0, locals := 0 }
set_option maxHeartbeats 4000000 in
set_option maxRecDepth 100000 in
theorem bX9_end (l : Launch) (D : va_G) (cI cZ cB : ClassId) (ad : Nat → Nat) (σ : Mem) (a1 : Int32) (res : Int32 × Mem) (h : X9_end a1 σ = some res) : BW l yX9_end wsX9_end rmX9_end cX9_end 2 (some .boolean) D cI cZ cB (wdX9 cI cZ cB ad σ) [.ref (ad 0), .int a1] (some (.int res.1)) (wdX9 cI cZ cB ad res.2) := by
  intro p e s m args below meth c ls Q A hx hb hml hts hown hK hA hP hD hS hl0 hR
  have hinX8 : ∀ w ∈ u_ws RX8 TX8 2, w ∈ wsX9_end := (fun _ h => List.mem_cons_of_mem _ (List.mem_append_right _ h))
  have hinX9 : ∀ w ∈ u_ws RX9 TX9 15, w ∈ wsX9_end := (fun _ h => List.mem_cons_of_mem _ (List.mem_append_left _ (List.mem_append_right _ h)))
  have fl1 := hts (.fieldLink RX9 10 "LawNumberer" "tape" "LLawNumberer$Text;") (by decide +kernel)
  have fl2 := hts (.fieldLink RX9 78 "LawNumberer$Text" "length" "I") (by decide +kernel)
  have hl : lv_has ls 2 [(0, .ref (ad 0)), (1, .int a1)] := hl0
  rw [X9_end] at h
  have hS := hS
  refine lv_iload_n hx hb dX9_end_0 rfl (lv_at hl 1 rfl) ?_
  refine lv_if_lt (tgt := 15) hx hb dX9_end_1 (by decide) (fun c1 => ?_) (fun c1 => ?_)
  · have h := ite_t c1 h
    refine lv_iconst (v := 0) hx hb dX9_end_15 (by decide) ?_
    exact hR (some (.int 0)) (wdX9 cI cZ cB ad σ) _ _ _ _ (by rw [← Option.some.inj h]) (by rw [← Option.some.inj h]) nb0 dX9_end_16 hP hS
  · have h := ite_f c1 h
    refine lv_iload_n hx hb dX9_end_4 rfl (lv_at hl 1 rfl) ?_
    refine lv_aload_n hx hb dX9_end_5 rfl (lv_at hl 0 rfl) ?_
    refine va_get (ci := 7) (v := .ref (ad 1)) (C := RX9) (T := TX9) (N := 15) hx hb hts hinX9 hown hK hP 0 rfl rfl 0 (by decide) fl1 (fun _ h9 => h9) rfl dX9_end_6 ?_
    refine va_get (ci := 6) (v := .int (σ 1 1)) (C := RX8) (T := TX8) (N := 2) hx hb hts hinX8 hown hK hP 1 rfl rfl 1 (by decide) fl2 (fun _ h9 => h9) rfl dX9_end_9 ?_
    refine lv_icmp_le (tgt := 17) hx hb dX9_end_12 (by decide) (fun c2 => ?_) (fun c2 => ?_)
    · have h := ite_t c2 h
      refine lv_aload_n hx hb dX9_end_17 rfl (lv_at hl 0 rfl) ?_
      refine va_get (ci := 7) (v := .ref (ad 1)) (C := RX9) (T := TX9) (N := 15) hx hb hts hinX9 hown hK hP 0 rfl rfl 0 (by decide) fl1 (fun _ h9 => h9) rfl dX9_end_18 ?_
      refine lv_iload_n hx hb dX9_end_21 rfl (lv_at hl 1 rfl) ?_
      obtain ⟨σ3, eσ3, h⟩ := lt_e h
      refine va_put (ci := 6) (v := .int a1) (ty := .int) (C := RX8) (T := TX8) (N := 2) hx hb hts hinX8 tyX8 tyX8_ok nmX8 hown hK hP hD hS 1 rfl rfl 1 (by decide) fl2 (fun _ h9 => h9) rfl (by decide +kernel) rfl rfl (Nat.le_of_ble_eq_true rfl) dX9_end_22 (fun H locs hP1 hD1 hS => ?_)
      have hP : va_P D vwCl (wdX9 cI cZ cB ad σ3) H := by rw [eσ3]; exact hP1
      have hD : va_D A (wdX9 cI cZ cB ad σ3) := D_of (by rfl) hD
      refine lv_iconst (v := 1) hx hb dX9_end_25 (by decide) ?_
      exact hR (some (.int 1)) (wdX9 cI cZ cB ad σ3) _ _ _ _ (by rw [← Option.some.inj h]) (by rw [← Option.some.inj h]) nb1 dX9_end_26 hP hS
    · have h := ite_f c2 h
      refine lv_iconst (v := 0) hx hb dX9_end_15 (by decide) ?_
      exact hR (some (.int 0)) (wdX9 cI cZ cB ad σ) _ _ _ _ (by rw [← Option.some.inj h]) (by rw [← Option.some.inj h]) nb0 dX9_end_16 hP hS
set_option maxHeartbeats 4000000 in
set_option maxRecDepth 100000 in
theorem mX9_end (l : Launch) (D : va_G) (cI cZ cB : ClassId) (ad : Nat → Nat) (σ : Mem) (sz : Nat) (a1 : Int32) (res : Int32 × Mem) (h : X9_end a1 σ = some res) : Met l yX9_end wsX9_end rmX9_end (pW D cI cZ cB (wdX9 cI cZ cB ad σ) sz [.ref (ad 0), .int a1]) (qW D (some (.int res.1)) (wdX9 cI cZ cB ad res.2) (va_A (wdX9 cI cZ cB ad σ) sz)) 0 0 (va_A (wdX9 cI cZ cB ad σ) sz) := (bX9_end l D cI cZ cB ad σ a1 res h).met (by decide +kernel) rfl (Nat.le_of_ble_eq_true rfl)
def rmX9_levels : Room := { frames := 8, cells := 0, slots := 0, locals := 181 }
set_option maxHeartbeats 4000000 in
set_option maxRecDepth 100000 in
theorem bX9_levels (K : Nat → Nat) (l : Launch) (D : va_G) (cI cZ cB : ClassId) (ad : Nat → Nat) (σ : Mem) (res : Int32 × Mem) (h : X9_levels σ = some res) : BWx K l yX9_levels wsX9_levels rmX9_levels cX9_levels 1 (some .int) D cI cZ cB (wdX9 cI cZ cB ad σ) [.ref (ad 0)] (some (.int res.1)) (wdX9 cI cZ cB ad res.2) := by
  intro p e s m args below meth c ls Q A hx hb hml hts hown hX hK hA hP hD hS hl0 hR
  have hX0 := hX
  obtain ⟨⟨hZtS, hTtS, hZtF, hTtF, hZtG, hTtG⟩, ⟨hC1, hC2, hC3⟩, hR1, hR2, hR3, hR4, hR5⟩ := hX0
  have hinX6 : ∀ w ∈ u_ws RX6 TX6 3, w ∈ wsX9_levels := (fun _ h => List.mem_cons_of_mem _ (List.mem_append_left _ (List.mem_append_left _ (List.mem_append_left _ (List.mem_append_right _ h)))))
  have hinX7 : ∀ w ∈ u_ws RX7 TX7 3, w ∈ wsX9_levels := (fun _ h => List.mem_cons_of_mem _ (List.mem_append_left _ (List.mem_append_left _ (List.mem_append_left _ (List.mem_append_left _ (List.mem_append_right _ h))))))
  have hinX8 : ∀ w ∈ u_ws RX8 TX8 2, w ∈ wsX9_levels := (fun _ h => List.mem_cons_of_mem _ (List.mem_append_left _ (List.mem_append_left _ (List.mem_append_left _ (List.mem_append_left _ (List.mem_append_left _ (List.mem_append_right _ h)))))))
  have hinX9 : ∀ w ∈ u_ws RX9 TX9 15, w ∈ wsX9_levels := (fun _ h => List.mem_cons_of_mem _ (List.mem_append_left _ (List.mem_append_left _ (List.mem_append_left _ (List.mem_append_left _ (List.mem_append_left _ (List.mem_append_left _ (List.mem_append_right _ h))))))))
  have fl1 := hts (.fieldLink RX9 32 "LawNumberer" "levelsReader" "LLawNumberer$LevelsReader;") (by decide +kernel)
  have fl2 := hts (.fieldLink RX9 26 "LawNumberer" "told" "LLawNumberer$Levels;") (by decide +kernel)
  have fl3 := hts (.fieldLink RX9 10 "LawNumberer" "tape" "LLawNumberer$Text;") (by decide +kernel)
  have fl4 := hts (.fieldLink RX9 78 "LawNumberer$Text" "length" "I") (by decide +kernel)
  have fl5 := hts (.fieldLink RX9 89 "LawNumberer$LevelsReader" "fault" "I") (by decide +kernel)
  have fl6 := hts (.fieldLink RX9 92 "LawNumberer" "faultKind" "I") (by decide +kernel)
  have fl7 := hts (.fieldLink RX9 95 "LawNumberer$LevelsReader" "faultPlace" "I") (by decide +kernel)
  have fl8 := hts (.fieldLink RX9 75 "LawNumberer" "faultPlace" "I") (by decide +kernel)
  have fl9 := hts (.fieldLink RX9 22 "LawNumberer" "scheme" "LLawNumberer$Levels;") (by decide +kernel)
  have fl10 := hts (.fieldLink RX9 46 "LawNumberer" "items" "LLawNumberer$Items;") (by decide +kernel)
  have fl11 := hts (.fieldLink RX9 53 "LawNumberer" "history" "LLawNumberer$History;") (by decide +kernel)
  have fl12 := hts (.fieldLink RX9 60 "LawNumberer" "acts" "LLawNumberer$Acts;") (by decide +kernel)
  have fl13 := hts (.fieldLink RX9 105 "LawNumberer" "today" "I") (by decide +kernel)
  have fl14 := hts (.fieldLink RX9 71 "LawNumberer$Levels" "size" "I") (by decide +kernel)
  have hl : lv_has ls 1 [(0, .ref (ad 0))] := hl0
  rw [X9_levels] at h
  have hS := hS
  refine lv_aload_n hx hb dX9_levels_0 rfl (lv_at hl 0 rfl) ?_
  refine va_get (ci := 7) (v := .ref (ad 11)) (C := RX9) (T := TX9) (N := 15) hx hb hts hinX9 hown hK hP 0 rfl rfl 4 (by decide) fl1 (fun _ h9 => h9) rfl dX9_levels_1 ?_
  refine lv_aload_n hx hb dX9_levels_4 rfl (lv_at hl 0 rfl) ?_
  refine va_get (ci := 7) (v := .ref (ad 8)) (C := RX9) (T := TX9) (N := 15) hx hb hts hinX9 hown hK hP 0 rfl rfl 3 (by decide) fl2 (fun _ h9 => h9) rfl dX9_levels_5 ?_
  refine lv_aload_n hx hb dX9_levels_8 rfl (lv_at hl 0 rfl) ?_
  refine va_get (ci := 7) (v := .ref (ad 1)) (C := RX9) (T := TX9) (N := 15) hx hb hts hinX9 hown hK hP 0 rfl rfl 0 (by decide) fl3 (fun _ h9 => h9) rfl dX9_levels_9 ?_
  obtain ⟨r1, hr1, h⟩ := bd_e h
  obtain ⟨σ2, eσ2, h⟩ := lt_e h
  refine cl_WVx (rest := []) (wn := (wdX9 cI cZ cB ad σ2)) (lp := [11, 8, 9, 10, 1, 2]) (ci := 5) (q0 := 0) ⟨hx, hb, hml, hown, hts⟩ (mX7_readInto K l D cI cZ cB (mp ad [11, 8, 9, 10, 1, 2]) (mp σ [11, 8, 9, 10, 1, 2]) s.heap.size r1 hr1) (cwV 2 hts gX9_levels_X7_readInto rfl rfl rfl (by decide +kernel) ⟨Nat.le_of_ble_eq_true rfl, Nat.le_of_ble_eq_true rfl⟩) hX hK hP hD hS hA rfl rfl rfl (by rw [eσ2]; rfl) rfl rfl rfl rfl rfl hl.1 rfl (Nat.le_of_ble_eq_true rfl) dX9_levels_12 ⟨Nat.zero_le _, Nat.zero_le _⟩ (fun H locs hP hD hS => ?_)
  refine W.eq (g2 := F0 m 15 ls []) rfl ?_
  refine lv_aload_n hx hb dX9_levels_15 rfl (lv_at hl 0 rfl) ?_
  refine va_get (ci := 7) (v := .ref (ad 1)) (C := RX9) (T := TX9) (N := 15) hx hb hts hinX9 hown hK hP 0 rfl rfl 0 (by decide) fl3 (fun _ h9 => h9) rfl dX9_levels_16 ?_
  refine lv_iconst (v := 0) hx hb dX9_levels_19 (by decide) ?_
  obtain ⟨σ3, eσ3, h⟩ := lt_e h
  refine va_put (ci := 6) (v := .int 0) (ty := .int) (C := RX8) (T := TX8) (N := 2) hx hb hts hinX8 tyX8 tyX8_ok nmX8 hown hK hP hD hS 1 rfl rfl 1 (by decide) fl4 (fun _ h9 => h9) rfl (by decide +kernel) rfl rfl (Nat.le_of_ble_eq_true rfl) dX9_levels_20 (fun H locs hP1 hD1 hS => ?_)
  have hP : va_P D vwCl (wdX9 cI cZ cB ad σ3) H := by rw [eσ3]; exact hP1
  have hD : va_D A (wdX9 cI cZ cB ad σ3) := D_of (by rfl) hD
  refine lv_aload_n hx hb dX9_levels_23 rfl (lv_at hl 0 rfl) ?_
  refine lv_aload_n hx hb dX9_levels_24 rfl (lv_at hl 0 rfl) ?_
  refine va_get (ci := 7) (v := .ref (ad 11)) (C := RX9) (T := TX9) (N := 15) hx hb hts hinX9 hown hK hP 0 rfl rfl 4 (by decide) fl1 (fun _ h9 => h9) rfl dX9_levels_25 ?_
  refine va_get (ci := 5) (v := .int (σ3 11 0)) (C := RX7) (T := TX7) (N := 3) hx hb hts hinX7 hown hK hP 11 rfl rfl 0 (by decide) fl5 (fun _ h9 => h9) rfl dX9_levels_28 ?_
  obtain ⟨σ4, eσ4, h⟩ := lt_e h
  refine va_put (ci := 7) (v := .int (σ3 11 0)) (ty := .int) (C := RX9) (T := TX9) (N := 15) hx hb hts hinX9 tyX9 tyX9_ok nmX9 hown hK hP hD hS 0 rfl rfl 11 (by decide) fl6 (fun _ h9 => h9) rfl (by decide +kernel) rfl rfl (Nat.le_of_ble_eq_true rfl) dX9_levels_31 (fun H locs hP1 hD1 hS => ?_)
  have hP : va_P D vwCl (wdX9 cI cZ cB ad σ4) H := by rw [eσ4]; exact hP1
  have hD : va_D A (wdX9 cI cZ cB ad σ4) := D_of (by rfl) hD
  refine lv_aload_n hx hb dX9_levels_34 rfl (lv_at hl 0 rfl) ?_
  refine lv_aload_n hx hb dX9_levels_35 rfl (lv_at hl 0 rfl) ?_
  refine va_get (ci := 7) (v := .ref (ad 11)) (C := RX9) (T := TX9) (N := 15) hx hb hts hinX9 hown hK hP 0 rfl rfl 4 (by decide) fl1 (fun _ h9 => h9) rfl dX9_levels_36 ?_
  refine va_get (ci := 5) (v := .int (σ4 11 1)) (C := RX7) (T := TX7) (N := 3) hx hb hts hinX7 hown hK hP 11 rfl rfl 1 (by decide) fl7 (fun _ h9 => h9) rfl dX9_levels_39 ?_
  obtain ⟨σ5, eσ5, h⟩ := lt_e h
  refine va_put (ci := 7) (v := .int (σ4 11 1)) (ty := .int) (C := RX9) (T := TX9) (N := 15) hx hb hts hinX9 tyX9 tyX9_ok nmX9 hown hK hP hD hS 0 rfl rfl 12 (by decide) fl8 (fun _ h9 => h9) rfl (by decide +kernel) rfl rfl (Nat.le_of_ble_eq_true rfl) dX9_levels_42 (fun H locs hP1 hD1 hS => ?_)
  have hP : va_P D vwCl (wdX9 cI cZ cB ad σ5) H := by rw [eσ5]; exact hP1
  have hD : va_D A (wdX9 cI cZ cB ad σ5) := D_of (by rfl) hD
  refine lv_aload_n hx hb dX9_levels_45 rfl (lv_at hl 0 rfl) ?_
  refine va_get (ci := 7) (v := .int (σ5 0 11)) (C := RX9) (T := TX9) (N := 15) hx hb hts hinX9 hown hK hP 0 rfl rfl 11 (by decide) fl6 (fun _ h9 => h9) rfl dX9_levels_46 ?_
  refine lv_if_eq (tgt := 59) hx hb dX9_levels_49 (by decide) (fun c6 => ?_) (fun c6 => ?_)
  · have h := ite_t c6 h
    refine lv_aload_n hx hb dX9_levels_59 rfl (lv_at hl 0 rfl) ?_
    refine va_get (ci := 7) (v := .ref (ad 5)) (C := RX9) (T := TX9) (N := 15) hx hb hts hinX9 hown hK hP 0 rfl rfl 2 (by decide) fl9 (fun _ h9 => h9) rfl dX9_levels_60 ?_
    refine lv_aload_n hx hb dX9_levels_63 rfl (lv_at hl 0 rfl) ?_
    refine va_get (ci := 7) (v := .ref (ad 8)) (C := RX9) (T := TX9) (N := 15) hx hb hts hinX9 hown hK hP 0 rfl rfl 3 (by decide) fl2 (fun _ h9 => h9) rfl dX9_levels_64 ?_
    obtain ⟨r7, hr7, h⟩ := bd_e h
    obtain ⟨σ8, eσ8, h⟩ := lt_e h
    refine cl_WV (rest := []) (wn := (wdX9 cI cZ cB ad σ8)) (lp := [5, 6, 7, 8, 9, 10]) (ci := 4) (q0 := 0) ⟨hx, hb, hml, hown, hts⟩ (mX6_become l D cI cZ cB (mp ad [5, 6, 7, 8, 9, 10]) (mp σ5 [5, 6, 7, 8, 9, 10]) H.size r7 hr7) (cwV 1 hts gX9_levels_X6_become rfl rfl rfl (by decide +kernel) ⟨Nat.le_of_ble_eq_true rfl, Nat.le_of_ble_eq_true rfl⟩) hK hP hD hS hA rfl rfl rfl (by rw [eσ8]; rfl) rfl rfl rfl rfl rfl hl.1 rfl (Nat.le_of_ble_eq_true rfl) dX9_levels_67 ⟨Nat.zero_le _, Nat.zero_le _⟩ (fun H locs hP hD hS => ?_)
    refine W.eq (g2 := F0 m 70 ls []) rfl ?_
    refine lv_aload_n hx hb dX9_levels_70 rfl (lv_at hl 0 rfl) ?_
    refine va_get (ci := 7) (v := .ref (ad 15)) (C := RX9) (T := TX9) (N := 15) hx hb hts hinX9 hown hK hP 0 rfl rfl 6 (by decide) fl10 (fun _ h9 => h9) rfl dX9_levels_71 ?_
    obtain ⟨r9, hr9, h⟩ := bd_e h
    obtain ⟨σ10, eσ10, h⟩ := lt_e h
    refine cl_WV (rest := []) (wn := (wdX9 cI cZ cB ad σ10)) (lp := [15, 16, 17, 18, 19, 20]) (ci := 2) (q0 := 0) ⟨hx, hb, hml, hown, hts⟩ (mX3_clear l D cI cZ cB (mp ad [15, 16, 17, 18, 19, 20]) (mp σ8 [15, 16, 17, 18, 19, 20]) H.size r9 hr9) (cwV 0 hts gX9_levels_X3_clear rfl rfl rfl (by decide +kernel) ⟨Nat.le_of_ble_eq_true rfl, Nat.le_of_ble_eq_true rfl⟩) hK hP hD hS hA rfl rfl rfl (by rw [eσ10]; rfl) rfl rfl rfl rfl rfl hl.1 rfl (Nat.le_of_ble_eq_true rfl) dX9_levels_74 ⟨Nat.zero_le _, Nat.zero_le _⟩ (fun H locs hP hD hS => ?_)
    refine W.eq (g2 := F0 m 77 ls []) rfl ?_
    refine lv_aload_n hx hb dX9_levels_77 rfl (lv_at hl 0 rfl) ?_
    refine va_get (ci := 7) (v := .ref (ad 21)) (C := RX9) (T := TX9) (N := 15) hx hb hts hinX9 hown hK hP 0 rfl rfl 7 (by decide) fl11 (fun _ h9 => h9) rfl dX9_levels_78 ?_
    obtain ⟨r11, hr11, h⟩ := bd_e h
    obtain ⟨σ12, eσ12, h⟩ := lt_e h
    refine cl_WV (rest := []) (wn := (wdX9 cI cZ cB ad σ12)) (lp := [21, 22, 23, 24, 25, 26]) (ci := 1) (q0 := 0) ⟨hx, hb, hml, hown, hts⟩ (mX2_clear l D cI cZ cB (mp ad [21, 22, 23, 24, 25, 26]) (mp σ10 [21, 22, 23, 24, 25, 26, 32]) H.size r11 hr11) (cwV 0 hts gX9_levels_X2_clear rfl rfl rfl (by decide +kernel) ⟨Nat.le_of_ble_eq_true rfl, Nat.le_of_ble_eq_true rfl⟩) hK hP hD hS hA rfl rfl rfl (by rw [eσ12]; rfl) rfl rfl rfl rfl rfl hl.1 rfl (Nat.le_of_ble_eq_true rfl) dX9_levels_81 ⟨Nat.zero_le _, Nat.zero_le _⟩ (fun H locs hP hD hS => ?_)
    refine W.eq (g2 := F0 m 84 ls []) rfl ?_
    refine lv_aload_n hx hb dX9_levels_84 rfl (lv_at hl 0 rfl) ?_
    refine va_get (ci := 7) (v := .ref (ad 27)) (C := RX9) (T := TX9) (N := 15) hx hb hts hinX9 hown hK hP 0 rfl rfl 8 (by decide) fl12 (fun _ h9 => h9) rfl dX9_levels_85 ?_
    obtain ⟨r13, hr13, h⟩ := bd_e h
    obtain ⟨σ14, eσ14, h⟩ := lt_e h
    refine cl_WV (rest := []) (wn := (wdX9 cI cZ cB ad σ14)) (lp := [27, 28, 29, 30]) (ci := 0) (q0 := 0) ⟨hx, hb, hml, hown, hts⟩ (mX0_clear l D cI cZ cB (mp ad [27, 28, 29, 30]) (mp σ12 [27, 28, 29, 30]) H.size r13 hr13) (cwV 0 hts gX9_levels_X0_clear rfl rfl rfl (by decide +kernel) ⟨Nat.le_of_ble_eq_true rfl, Nat.le_of_ble_eq_true rfl⟩) hK hP hD hS hA rfl rfl rfl (by rw [eσ14]; rfl) rfl rfl rfl rfl rfl hl.1 rfl (Nat.le_of_ble_eq_true rfl) dX9_levels_88 ⟨Nat.zero_le _, Nat.zero_le _⟩ (fun H locs hP hD hS => ?_)
    refine W.eq (g2 := F0 m 91 ls []) rfl ?_
    refine lv_aload_n hx hb dX9_levels_91 rfl (lv_at hl 0 rfl) ?_
    refine lv_iconst (v := 0) hx hb dX9_levels_92 (by decide) ?_
    obtain ⟨σ15, eσ15, h⟩ := lt_e h
    refine va_put (ci := 7) (v := .int 0) (ty := .int) (C := RX9) (T := TX9) (N := 15) hx hb hts hinX9 tyX9 tyX9_ok nmX9 hown hK hP hD hS 0 rfl rfl 10 (by decide) fl13 (fun _ h9 => h9) rfl (by decide +kernel) rfl rfl (Nat.le_of_ble_eq_true rfl) dX9_levels_93 (fun H locs hP1 hD1 hS => ?_)
    have hP : va_P D vwCl (wdX9 cI cZ cB ad σ15) H := by rw [eσ15]; exact hP1
    have hD : va_D A (wdX9 cI cZ cB ad σ15) := D_of (by rfl) hD
    refine lv_aload_n hx hb dX9_levels_96 rfl (lv_at hl 0 rfl) ?_
    refine va_get (ci := 7) (v := .ref (ad 5)) (C := RX9) (T := TX9) (N := 15) hx hb hts hinX9 hown hK hP 0 rfl rfl 2 (by decide) fl9 (fun _ h9 => h9) rfl dX9_levels_97 ?_
    refine va_get (ci := 4) (v := .int (σ15 5 2)) (C := RX6) (T := TX6) (N := 3) hx hb hts hinX6 hown hK hP 5 rfl rfl 2 (by decide) fl14 (fun _ h9 => h9) rfl dX9_levels_100 ?_
    exact hR (some (.int (σ15 5 2))) (wdX9 cI cZ cB ad σ15) _ _ _ _ (by rw [← Option.some.inj h]) (by rw [← Option.some.inj h]) rfl dX9_levels_103 hP hS
  · have h := ite_f c6 h
    refine lv_iconst (v := (-1)) hx hb dX9_levels_52 (by decide) ?_
    refine lv_aload_n hx hb dX9_levels_53 rfl (lv_at hl 0 rfl) ?_
    refine va_get (ci := 7) (v := .int (σ5 0 12)) (C := RX9) (T := TX9) (N := 15) hx hb hts hinX9 hown hK hP 0 rfl rfl 12 (by decide) fl8 (fun _ h9 => h9) rfl dX9_levels_54 ?_
    refine lv_isub hx hb dX9_levels_57 ?_
    exact hR (some (.int ((-1) - (σ5 0 12)))) (wdX9 cI cZ cB ad σ5) _ _ _ _ (by rw [← Option.some.inj h]) (by rw [← Option.some.inj h]) rfl dX9_levels_58 hP hS
set_option maxHeartbeats 4000000 in
set_option maxRecDepth 100000 in
theorem mX9_levels (K : Nat → Nat) (l : Launch) (D : va_G) (cI cZ cB : ClassId) (ad : Nat → Nat) (σ : Mem) (sz : Nat) (res : Int32 × Mem) (h : X9_levels σ = some res) : Met l yX9_levels wsX9_levels rmX9_levels (pWx K D cI cZ cB (wdX9 cI cZ cB ad σ) sz [.ref (ad 0)]) (qW D (some (.int res.1)) (wdX9 cI cZ cB ad res.2) (va_A (wdX9 cI cZ cB ad σ) sz)) 0 0 (va_A (wdX9 cI cZ cB ad σ) sz) := (bX9_levels K l D cI cZ cB ad σ res h).met (by decide +kernel) rfl (Nat.le_of_ble_eq_true rfl)
def rmX9_fault : Room := { frames := 0, cells := 0, slots := 0, locals := 0 }
set_option maxHeartbeats 4000000 in
set_option maxRecDepth 100000 in
theorem bX9_fault (l : Launch) (D : va_G) (cI cZ cB : ClassId) (ad : Nat → Nat) (σ : Mem) (res : Int32) (h : X9_fault σ = some res) : BR l yX9_fault wsX9_fault rmX9_fault cX9_fault 1 (some .int) D cI cZ cB (wdX9 cI cZ cB ad σ) [.ref (ad 0)] (some (.int res)) := by
  intro p e s m args below meth c ls Q hx hb hml hts hown hK hP hl0 hR
  have hinX9 : ∀ w ∈ u_ws RX9 TX9 15, w ∈ wsX9_fault := (fun _ h => List.mem_cons_of_mem _ (List.mem_append_right _ h))
  have fl1 := hts (.fieldLink RX9 92 "LawNumberer" "faultKind" "I") (by decide +kernel)
  have hl : lv_has ls 1 [(0, .ref (ad 0))] := hl0
  rw [X9_fault] at h
  refine lv_aload_n hx hb dX9_fault_0 rfl (lv_at hl 0 rfl) ?_
  refine va_get (ci := 7) (v := .int (σ 0 11)) (C := RX9) (T := TX9) (N := 15) hx hb hts hinX9 hown hK hP 0 rfl rfl 11 (by decide) fl1 (fun _ h9 => h9) rfl dX9_fault_1 ?_
  exact hR (some (.int (σ 0 11))) _ _ (by rw [← Option.some.inj h]) rfl dX9_fault_4
set_option maxHeartbeats 4000000 in
set_option maxRecDepth 100000 in
theorem mX9_fault (l : Launch) (D : va_G) (cI cZ cB : ClassId) (ad : Nat → Nat) (σ : Mem) (res : Int32) (h : X9_fault σ = some res) : Met l yX9_fault wsX9_fault rmX9_fault (pR D cI cZ cB (wdX9 cI cZ cB ad σ) [.ref (ad 0)]) (qR (some (.int res))) 0 0 (fun _ => False) := (bX9_fault l D cI cZ cB ad σ res h).met (by decide +kernel) rfl (Nat.le_of_ble_eq_true rfl)
def rmX9_isPlaceTold : Room := { frames := 1, cells := 0, slots := 0, locals := 21 }
set_option maxHeartbeats 4000000 in
set_option maxRecDepth 100000 in
theorem bX9_isPlaceTold (l : Launch) (D : va_G) (cI cZ cB : ClassId) (ad : Nat → Nat) (σ : Mem) (a1 : Int32) (a2 : Int32) (res : Int32) (h : X9_isPlaceTold a1 a2 σ = some res) : BR l yX9_isPlaceTold wsX9_isPlaceTold rmX9_isPlaceTold cX9_isPlaceTold 3 (some .boolean) D cI cZ cB (wdX9 cI cZ cB ad σ) [.ref (ad 0), .int a1, .int a2] (some (.int res)) := by
  intro p e s m args below meth c ls Q hx hb hml hts hown hK hP hl0 hR
  have hinX3 : ∀ w ∈ u_ws RX3 TX3 7, w ∈ wsX9_isPlaceTold := (fun _ h => List.mem_cons_of_mem _ (List.mem_append_left _ (List.mem_append_right _ h)))
  have hinX6 : ∀ w ∈ u_ws RX6 TX6 3, w ∈ wsX9_isPlaceTold := (fun _ h => List.mem_cons_of_mem _ (List.mem_append_right _ h))
  have hinX9 : ∀ w ∈ u_ws RX9 TX9 15, w ∈ wsX9_isPlaceTold := (fun _ h => List.mem_cons_of_mem _ (List.mem_append_left _ (List.mem_append_left _ (List.mem_append_right _ h))))
  have fl1 := hts (.fieldLink RX9 46 "LawNumberer" "items" "LLawNumberer$Items;") (by decide +kernel)
  have fl2 := hts (.fieldLink RX9 162 "LawNumberer$Items" "under" "[I") (by decide +kernel)
  have fl3 := hts (.fieldLink RX9 113 "LawNumberer$Items" "levels" "[I") (by decide +kernel)
  have fl4 := hts (.fieldLink RX9 22 "LawNumberer" "scheme" "LLawNumberer$Levels;") (by decide +kernel)
  have fl5 := hts (.fieldLink RX9 71 "LawNumberer$Levels" "size" "I") (by decide +kernel)
  have hl : lv_has ls 3 [(0, .ref (ad 0)), (1, .int a1), (2, .int a2)] := hl0
  have n39 : ∀ (ls : Array Slot), lv_has ls 3 [(0, .ref (ad 0)), (1, .int a1), (2, .int a2)] → X9_isPlaceTold_39 a1 a2 σ = some res → W p l e rmX9_isPlaceTold s m args below meth c s.heap [] 0 0 Q (F0 m 39 ls []) := by
    intro ls hl h
    rw [X9_isPlaceTold_39] at h
    refine lv_iload_n hx hb dX9_isPlaceTold_39 rfl (lv_at hl 2 rfl) ?_
    refine lv_iconst (v := (-1)) hx hb dX9_isPlaceTold_40 (by decide) ?_
    refine lv_icmp_eq (tgt := 68) hx hb dX9_isPlaceTold_41 (by decide) (fun c1 => ?_) (fun c1 => ?_)
    · have h := ite_t c1 h
      refine lv_iconst (v := 1) hx hb dX9_isPlaceTold_68 (by decide) ?_
      refine lv_goto (tgt := 73) hx hb dX9_isPlaceTold_69 (by decide) ?_
      exact hR (some (.int 1)) _ _ (by rw [← Option.some.inj h]) nb1 dX9_isPlaceTold_73
    · have h := ite_f c1 h
      refine lv_aload_n hx hb dX9_isPlaceTold_44 rfl (lv_at hl 0 rfl) ?_
      refine va_get (ci := 7) (v := .ref (ad 15)) (C := RX9) (T := TX9) (N := 15) hx hb hts hinX9 hown hK hP 0 rfl rfl 6 (by decide) fl1 (fun _ h9 => h9) rfl dX9_isPlaceTold_45 ?_
      refine lv_iload_n hx hb dX9_isPlaceTold_48 rfl (lv_at hl 2 rfl) ?_
      obtain ⟨r2, hr2, h⟩ := bd_e h
      refine cl_RV (rest := []) (ci := 2) (q0 := 0) ⟨hx, hb, hml, hown, hts⟩ (mX3_has l D cI cZ cB (mp ad [15, 16, 17, 18, 19, 20]) (mp σ [15, 16, 17, 18, 19, 20]) a2 r2 hr2) (cwV 1 hts gX9_isPlaceTold_X3_has rfl rfl rfl (by decide +kernel) ⟨Nat.le_of_ble_eq_true rfl, Nat.le_of_ble_eq_true rfl⟩) hK (hP.sub (ws' := wdX3 cI cZ cB (mp ad [15, 16, 17, 18, 19, 20]) (mp σ [15, 16, 17, 18, 19, 20])) [15, 16, 17, 18, 19, 20] rfl) rfl rfl rfl rfl hl.1 rfl (Nat.le_of_ble_eq_true rfl) dX9_isPlaceTold_49 ⟨Nat.zero_le _, Nat.zero_le _⟩ ?_
      refine W.eq (g2 := F0 m 52 ls [.int r2]) rfl ?_
      refine lv_if_eq (tgt := 72) hx hb dX9_isPlaceTold_52 (by decide) (fun c3 => ?_) (fun c3 => ?_)
      · have h := ite_t c3 h
        refine lv_iconst (v := 0) hx hb dX9_isPlaceTold_72 (by decide) ?_
        exact hR (some (.int 0)) _ _ (by rw [← Option.some.inj h]) nb0 dX9_isPlaceTold_73
      · have h := ite_f c3 h
        refine lv_aload_n hx hb dX9_isPlaceTold_55 rfl (lv_at hl 0 rfl) ?_
        refine va_get (ci := 7) (v := .ref (ad 15)) (C := RX9) (T := TX9) (N := 15) hx hb hts hinX9 hown hK hP 0 rfl rfl 6 (by decide) fl1 (fun _ h9 => h9) rfl dX9_isPlaceTold_56 ?_
        refine va_get (ci := 2) (v := .ref (ad 17)) (C := RX3) (T := TX3) (N := 7) hx hb hts hinX3 hown hK hP 15 rfl rfl 1 (by decide) fl2 (fun _ h9 => h9) rfl dX9_isPlaceTold_59 ?_
        refine lv_iload_n hx hb dX9_isPlaceTold_62 rfl (lv_at hl 2 rfl) ?_
        obtain ⟨hin4, h⟩ := gd_e h
        refine va_iald hx hb hK hP 17 0 rfl rfl hin4 dX9_isPlaceTold_63 ?_
        refine lv_iload_n hx hb dX9_isPlaceTold_64 rfl (lv_at hl 1 rfl) ?_
        refine lv_icmp_ne (tgt := 72) hx hb dX9_isPlaceTold_65 (by decide) (fun c5 => ?_) (fun c5 => ?_)
        · have h := ite_f c5 h
          refine lv_iconst (v := 0) hx hb dX9_isPlaceTold_72 (by decide) ?_
          exact hR (some (.int 0)) _ _ (by rw [← Option.some.inj h]) nb0 dX9_isPlaceTold_73
        · have h := ite_t c5 h
          refine lv_iconst (v := 1) hx hb dX9_isPlaceTold_68 (by decide) ?_
          refine lv_goto (tgt := 73) hx hb dX9_isPlaceTold_69 (by decide) ?_
          exact hR (some (.int 1)) _ _ (by rw [← Option.some.inj h]) nb1 dX9_isPlaceTold_73
  rw [X9_isPlaceTold] at h
  refine lv_iload_n hx hb dX9_isPlaceTold_0 rfl (lv_at hl 1 rfl) ?_
  refine lv_iconst (v := (-1)) hx hb dX9_isPlaceTold_1 (by decide) ?_
  refine lv_icmp_eq (tgt := 39) hx hb dX9_isPlaceTold_2 (by decide) (fun c6 => ?_) (fun c6 => ?_)
  · have h := ite_t c6 h
    exact n39 _ (lv_sub hl [0, 1, 2] rfl) h
  · have h := ite_f c6 h
    refine lv_aload_n hx hb dX9_isPlaceTold_5 rfl (lv_at hl 0 rfl) ?_
    refine va_get (ci := 7) (v := .ref (ad 15)) (C := RX9) (T := TX9) (N := 15) hx hb hts hinX9 hown hK hP 0 rfl rfl 6 (by decide) fl1 (fun _ h9 => h9) rfl dX9_isPlaceTold_6 ?_
    refine lv_iload_n hx hb dX9_isPlaceTold_9 rfl (lv_at hl 1 rfl) ?_
    obtain ⟨r7, hr7, h⟩ := bd_e h
    refine cl_RV (rest := []) (ci := 2) (q0 := 0) ⟨hx, hb, hml, hown, hts⟩ (mX3_has l D cI cZ cB (mp ad [15, 16, 17, 18, 19, 20]) (mp σ [15, 16, 17, 18, 19, 20]) a1 r7 hr7) (cwV 1 hts gX9_isPlaceTold_X3_has rfl rfl rfl (by decide +kernel) ⟨Nat.le_of_ble_eq_true rfl, Nat.le_of_ble_eq_true rfl⟩) hK (hP.sub (ws' := wdX3 cI cZ cB (mp ad [15, 16, 17, 18, 19, 20]) (mp σ [15, 16, 17, 18, 19, 20])) [15, 16, 17, 18, 19, 20] rfl) rfl rfl rfl rfl hl.1 rfl (Nat.le_of_ble_eq_true rfl) dX9_isPlaceTold_10 ⟨Nat.zero_le _, Nat.zero_le _⟩ ?_
    refine W.eq (g2 := F0 m 13 ls [.int r7]) rfl ?_
    refine lv_if_eq (tgt := 37) hx hb dX9_isPlaceTold_13 (by decide) (fun c8 => ?_) (fun c8 => ?_)
    · have h := ite_t c8 h
      refine lv_iconst (v := 0) hx hb dX9_isPlaceTold_37 (by decide) ?_
      exact hR (some (.int 0)) _ _ (by rw [← Option.some.inj h]) nb0 dX9_isPlaceTold_38
    · have h := ite_f c8 h
      refine lv_aload_n hx hb dX9_isPlaceTold_16 rfl (lv_at hl 0 rfl) ?_
      refine va_get (ci := 7) (v := .ref (ad 15)) (C := RX9) (T := TX9) (N := 15) hx hb hts hinX9 hown hK hP 0 rfl rfl 6 (by decide) fl1 (fun _ h9 => h9) rfl dX9_isPlaceTold_17 ?_
      refine va_get (ci := 2) (v := .ref (ad 16)) (C := RX3) (T := TX3) (N := 7) hx hb hts hinX3 hown hK hP 15 rfl rfl 0 (by decide) fl3 (fun _ h9 => h9) rfl dX9_isPlaceTold_20 ?_
      refine lv_iload_n hx hb dX9_isPlaceTold_23 rfl (lv_at hl 1 rfl) ?_
      obtain ⟨hin9, h⟩ := gd_e h
      refine va_iald hx hb hK hP 16 0 rfl rfl hin9 dX9_isPlaceTold_24 ?_
      refine lv_iconst (v := 1) hx hb dX9_isPlaceTold_25 (by decide) ?_
      refine lv_iadd hx hb dX9_isPlaceTold_26 ?_
      refine lv_aload_n hx hb dX9_isPlaceTold_27 rfl (lv_at hl 0 rfl) ?_
      refine va_get (ci := 7) (v := .ref (ad 5)) (C := RX9) (T := TX9) (N := 15) hx hb hts hinX9 hown hK hP 0 rfl rfl 2 (by decide) fl4 (fun _ h9 => h9) rfl dX9_isPlaceTold_28 ?_
      refine va_get (ci := 4) (v := .int (σ 5 2)) (C := RX6) (T := TX6) (N := 3) hx hb hts hinX6 hown hK hP 5 rfl rfl 2 (by decide) fl5 (fun _ h9 => h9) rfl dX9_isPlaceTold_31 ?_
      refine lv_icmp_lt (tgt := 39) hx hb dX9_isPlaceTold_34 (by decide) (fun c10 => ?_) (fun c10 => ?_)
      · have h := ite_t c10 h
        exact n39 _ (lv_sub hl [0, 1, 2] rfl) h
      · have h := ite_f c10 h
        refine lv_iconst (v := 0) hx hb dX9_isPlaceTold_37 (by decide) ?_
        exact hR (some (.int 0)) _ _ (by rw [← Option.some.inj h]) nb0 dX9_isPlaceTold_38
set_option maxHeartbeats 4000000 in
set_option maxRecDepth 100000 in
theorem mX9_isPlaceTold (l : Launch) (D : va_G) (cI cZ cB : ClassId) (ad : Nat → Nat) (σ : Mem) (a1 : Int32) (a2 : Int32) (res : Int32) (h : X9_isPlaceTold a1 a2 σ = some res) : Met l yX9_isPlaceTold wsX9_isPlaceTold rmX9_isPlaceTold (pR D cI cZ cB (wdX9 cI cZ cB ad σ) [.ref (ad 0), .int a1, .int a2]) (qR (some (.int res))) 0 0 (fun _ => False) := (bX9_isPlaceTold l D cI cZ cB ad σ a1 a2 res h).met (by decide +kernel) rfl (Nat.le_of_ble_eq_true rfl)
def rmX9_placeOfNew : Room := { frames := 2, cells := 0, slots := 0, locals := 44 }
set_option maxHeartbeats 4000000 in
set_option maxRecDepth 100000 in
theorem bX9_placeOfNew (l : Launch) (D : va_G) (cI cZ cB : ClassId) (ad : Nat → Nat) (σ : Mem) (a1 : Int32) (a2 : Int32) (res : Int32) (h : X9_placeOfNew a1 a2 σ = some res) : BR l yX9_placeOfNew wsX9_placeOfNew rmX9_placeOfNew cX9_placeOfNew 3 (some .int) D cI cZ cB (wdX9 cI cZ cB ad σ) [.ref (ad 0), .int a1, .int a2] (some (.int res)) := by
  intro p e s m args below meth c ls Q hx hb hml hts hown hK hP hl0 hR
  have hinX9 : ∀ w ∈ u_ws RX9 TX9 15, w ∈ wsX9_placeOfNew := (fun _ h => List.mem_cons_of_mem _ (List.mem_append_left _ (List.mem_append_right _ h)))
  have fl1 := hts (.fieldLink RX9 46 "LawNumberer" "items" "LLawNumberer$Items;") (by decide +kernel)
  have hl : lv_has ls 3 [(0, .ref (ad 0)), (1, .int a1), (2, .int a2)] := hl0
  rw [X9_placeOfNew] at h
  refine lv_iload_n hx hb dX9_placeOfNew_0 rfl (lv_at hl 2 rfl) ?_
  refine lv_iconst (v := (-1)) hx hb dX9_placeOfNew_1 (by decide) ?_
  refine lv_icmp_eq (tgt := 14) hx hb dX9_placeOfNew_2 (by decide) (fun c1 => ?_) (fun c1 => ?_)
  · have h := ite_t c1 h
    refine lv_iload_n hx hb dX9_placeOfNew_14 rfl (lv_at hl 1 rfl) ?_
    refine lv_iconst (v := (-1)) hx hb dX9_placeOfNew_15 (by decide) ?_
    refine lv_icmp_ne (tgt := 23) hx hb dX9_placeOfNew_16 (by decide) (fun c2 => ?_) (fun c2 => ?_)
    · have h := ite_f c2 h
      refine lv_aload_n hx hb dX9_placeOfNew_23 rfl (lv_at hl 0 rfl) ?_
      refine va_get (ci := 7) (v := .ref (ad 15)) (C := RX9) (T := TX9) (N := 15) hx hb hts hinX9 hown hK hP 0 rfl rfl 6 (by decide) fl1 (fun _ h9 => h9) rfl dX9_placeOfNew_24 ?_
      refine lv_iload_n hx hb dX9_placeOfNew_27 rfl (lv_at hl 1 rfl) ?_
      obtain ⟨r3, hr3, h⟩ := bd_e h
      refine cl_RV (rest := []) (ci := 2) (q0 := 0) ⟨hx, hb, hml, hown, hts⟩ (mX3_placeOf l D cI cZ cB (mp ad [15, 16, 17, 18, 19, 20]) (mp σ [15, 16, 17, 18, 19, 20]) a1 r3 hr3) (cwV 1 hts gX9_placeOfNew_X3_placeOf rfl rfl rfl (by decide +kernel) ⟨Nat.le_of_ble_eq_true rfl, Nat.le_of_ble_eq_true rfl⟩) hK (hP.sub (ws' := wdX3 cI cZ cB (mp ad [15, 16, 17, 18, 19, 20]) (mp σ [15, 16, 17, 18, 19, 20])) [15, 16, 17, 18, 19, 20] rfl) rfl rfl rfl rfl hl.1 rfl (Nat.le_of_ble_eq_true rfl) dX9_placeOfNew_28 ⟨Nat.zero_le _, Nat.zero_le _⟩ ?_
      refine W.eq (g2 := F0 m 31 ls [.int r3]) rfl ?_
      refine lv_iconst (v := 1) hx hb dX9_placeOfNew_31 (by decide) ?_
      refine lv_iadd hx hb dX9_placeOfNew_32 ?_
      exact hR (some (.int (r3 + 1))) _ _ (by rw [← Option.some.inj h]) rfl dX9_placeOfNew_33
    · have h := ite_t c2 h
      refine lv_iconst (v := 0) hx hb dX9_placeOfNew_19 (by decide) ?_
      refine lv_goto (tgt := 33) hx hb dX9_placeOfNew_20 (by decide) ?_
      exact hR (some (.int 0)) _ _ (by rw [← Option.some.inj h]) rfl dX9_placeOfNew_33
  · have h := ite_f c1 h
    refine lv_aload_n hx hb dX9_placeOfNew_5 rfl (lv_at hl 0 rfl) ?_
    refine va_get (ci := 7) (v := .ref (ad 15)) (C := RX9) (T := TX9) (N := 15) hx hb hts hinX9 hown hK hP 0 rfl rfl 6 (by decide) fl1 (fun _ h9 => h9) rfl dX9_placeOfNew_6 ?_
    refine lv_iload_n hx hb dX9_placeOfNew_9 rfl (lv_at hl 2 rfl) ?_
    obtain ⟨r4, hr4, h⟩ := bd_e h
    refine cl_RV (rest := []) (ci := 2) (q0 := 0) ⟨hx, hb, hml, hown, hts⟩ (mX3_placeBehind l D cI cZ cB (mp ad [15, 16, 17, 18, 19, 20]) (mp σ [15, 16, 17, 18, 19, 20]) a2 r4 hr4) (cwV 1 hts gX9_placeOfNew_X3_placeBehind rfl rfl rfl (by decide +kernel) ⟨Nat.le_of_ble_eq_true rfl, Nat.le_of_ble_eq_true rfl⟩) hK (hP.sub (ws' := wdX3 cI cZ cB (mp ad [15, 16, 17, 18, 19, 20]) (mp σ [15, 16, 17, 18, 19, 20])) [15, 16, 17, 18, 19, 20] rfl) rfl rfl rfl rfl hl.1 rfl (Nat.le_of_ble_eq_true rfl) dX9_placeOfNew_10 ⟨Nat.zero_le _, Nat.zero_le _⟩ ?_
    refine W.eq (g2 := F0 m 13 ls [.int r4]) rfl ?_
    exact hR (some (.int r4)) _ _ (by rw [← Option.some.inj h]) rfl dX9_placeOfNew_13
set_option maxHeartbeats 4000000 in
set_option maxRecDepth 100000 in
theorem mX9_placeOfNew (l : Launch) (D : va_G) (cI cZ cB : ClassId) (ad : Nat → Nat) (σ : Mem) (a1 : Int32) (a2 : Int32) (res : Int32) (h : X9_placeOfNew a1 a2 σ = some res) : Met l yX9_placeOfNew wsX9_placeOfNew rmX9_placeOfNew (pR D cI cZ cB (wdX9 cI cZ cB ad σ) [.ref (ad 0), .int a1, .int a2]) (qR (some (.int res))) 0 0 (fun _ => False) := (bX9_placeOfNew l D cI cZ cB ad σ a1 a2 res h).met (by decide +kernel) rfl (Nat.le_of_ble_eq_true rfl)
def rmX9_labelAhead : Room := { frames := 2, cells := 0, slots := 0, locals := 45 }
set_option maxHeartbeats 4000000 in
set_option maxRecDepth 100000 in
theorem bX9_labelAhead (l : Launch) (D : va_G) (cI cZ cB : ClassId) (ad : Nat → Nat) (σ : Mem) (a1 : Int32) (a2 : Int32) (a3 : Int32) (a4 : Int32) (res : Int32) (h : X9_labelAhead a1 a2 a3 a4 σ = some res) : BR l yX9_labelAhead wsX9_labelAhead rmX9_labelAhead cX9_labelAhead 7 (some .int) D cI cZ cB (wdX9 cI cZ cB ad σ) [.ref (ad 0), .int a1, .int a2, .int a3, .int a4] (some (.int res)) := by
  intro p e s m args below meth c ls Q hx hb hml hts hown hK hP hl0 hR
  have hinX3 : ∀ w ∈ u_ws RX3 TX3 7, w ∈ wsX9_labelAhead := (fun _ h => List.mem_cons_of_mem _ (List.mem_append_left _ (List.mem_append_right _ h)))
  have hinX9 : ∀ w ∈ u_ws RX9 TX9 15, w ∈ wsX9_labelAhead := (fun _ h => List.mem_cons_of_mem _ (List.mem_append_left _ (List.mem_append_left _ (List.mem_append_right _ h))))
  have fl1 := hts (.fieldLink RX9 46 "LawNumberer" "items" "LLawNumberer$Items;") (by decide +kernel)
  have fl2 := hts (.fieldLink RX9 159 "LawNumberer$Items" "order" "[I") (by decide +kernel)
  have fl3 := hts (.fieldLink RX9 53 "LawNumberer" "history" "LLawNumberer$History;") (by decide +kernel)
  have hl : lv_has ls 7 [(0, .ref (ad 0)), (1, .int a1), (2, .int a2), (3, .int a3), (4, .int a4)] := hl0
  have n5 : ∀ (n : Nat) (x5 : Int32) (ls : Array Slot), lv_has ls 7 [(0, .ref (ad 0)), (2, .int a2), (3, .int a3), (4, .int a4), (5, .int x5)] → X9_labelAhead_5 a1 a2 a3 a4 σ n x5 = some res → W p l e rmX9_labelAhead s m args below meth c s.heap [] 0 0 Q (F0 m 5 ls []) := by
    intro n
    induction n with
    | zero =>
      intro x5 ls hl h
      rw [X9_labelAhead_5] at h
      cases h
    | succ n_5 ih5 =>
      intro x5 ls hl h
      rw [X9_labelAhead_5] at h
      refine lv_iload hx hb dX9_labelAhead_5 (lv_at hl 4 rfl) ?_
      refine lv_if_lt (tgt := 66) hx hb dX9_labelAhead_7 (by decide) (fun c1 => ?_) (fun c1 => ?_)
      · have h := ite_t c1 h
        refine lv_iconst (v := 0) hx hb dX9_labelAhead_66 (by decide) ?_
        exact hR (some (.int 0)) _ _ (by rw [← Option.some.inj h]) rfl dX9_labelAhead_67
      · have h := ite_f c1 h
        refine lv_aload_n hx hb dX9_labelAhead_10 rfl (lv_at hl 0 rfl) ?_
        refine va_get (ci := 7) (v := .ref (ad 15)) (C := RX9) (T := TX9) (N := 15) hx hb hts hinX9 hown hK hP 0 rfl rfl 6 (by decide) fl1 (fun _ h9 => h9) rfl dX9_labelAhead_11 ?_
        refine va_get (ci := 2) (v := .ref (ad 20)) (C := RX3) (T := TX3) (N := 7) hx hb hts hinX3 hown hK hP 15 rfl rfl 4 (by decide) fl2 (fun _ h9 => h9) rfl dX9_labelAhead_14 ?_
        refine lv_iload hx hb dX9_labelAhead_17 (lv_at hl 4 rfl) ?_
        obtain ⟨hin2, h⟩ := gd_e h
        refine va_iald hx hb hK hP 20 0 rfl rfl hin2 dX9_labelAhead_19 ?_
        obtain ⟨x6_3, ex6_3, h⟩ := lt_e h
        refine lv_topE ex6_3 ?_
        refine lv_istore (lv' := [(6, .int x6_3), (0, .ref (ad 0)), (2, .int a2), (3, .int a3), (4, .int a4), (5, .int x5)]) hx hb dX9_labelAhead_20 hl (by decide) rfl (fun ls hl => ?_)
        refine lv_aload_n hx hb dX9_labelAhead_22 rfl (lv_at hl 1 rfl) ?_
        refine va_get (ci := 7) (v := .ref (ad 15)) (C := RX9) (T := TX9) (N := 15) hx hb hts hinX9 hown hK hP 0 rfl rfl 6 (by decide) fl1 (fun _ h9 => h9) rfl dX9_labelAhead_23 ?_
        refine lv_iload hx hb dX9_labelAhead_26 (lv_at hl 0 rfl) ?_
        refine lv_iload_n hx hb dX9_labelAhead_28 rfl (lv_at hl 2 rfl) ?_
        refine lv_iload_n hx hb dX9_labelAhead_29 rfl (lv_at hl 3 rfl) ?_
        refine lv_iload hx hb dX9_labelAhead_30 (lv_at hl 4 rfl) ?_
        obtain ⟨r4, hr4, h⟩ := bd_e h
        refine cl_RV (rest := []) (ci := 2) (q0 := 0) ⟨hx, hb, hml, hown, hts⟩ (mX3_isInRow l D cI cZ cB (mp ad [15, 16, 17, 18, 19, 20]) (mp σ [15, 16, 17, 18, 19, 20]) x6_3 a2 a3 a4 r4 hr4) (cwV 4 hts gX9_labelAhead_X3_isInRow rfl rfl rfl (by decide +kernel) ⟨Nat.le_of_ble_eq_true rfl, Nat.le_of_ble_eq_true rfl⟩) hK (hP.sub (ws' := wdX3 cI cZ cB (mp ad [15, 16, 17, 18, 19, 20]) (mp σ [15, 16, 17, 18, 19, 20])) [15, 16, 17, 18, 19, 20] rfl) rfl rfl rfl rfl hl.1 rfl (Nat.le_of_ble_eq_true rfl) dX9_labelAhead_32 ⟨Nat.zero_le _, Nat.zero_le _⟩ ?_
        refine W.eq (g2 := F0 m 35 ls [.int r4]) rfl ?_
        refine lv_if_eq (tgt := 60) hx hb dX9_labelAhead_35 (by decide) (fun c5 => ?_) (fun c5 => ?_)
        · have h := ite_t c5 h
          obtain ⟨x5_6, ex5_6, h⟩ := lt_e h
          refine lv_iinc (v := x5_6) (lv' := [(5, .int x5_6), (6, .int x6_3), (0, .ref (ad 0)), (2, .int a2), (3, .int a3), (4, .int a4)]) hx hb dX9_labelAhead_60 hl (k := 5) rfl (by rw [ex5_6]; rfl) (by decide) rfl (fun ls hl => ?_)
          refine lv_goto (tgt := 5) hx hb dX9_labelAhead_63 (by decide) ?_
          exact ih5 x5_6 _ (lv_sub hl [2, 3, 4, 5, 0] rfl) h
        · have h := ite_f c5 h
          refine lv_aload_n hx hb dX9_labelAhead_38 rfl (lv_at hl 1 rfl) ?_
          refine va_get (ci := 7) (v := .ref (ad 21)) (C := RX9) (T := TX9) (N := 15) hx hb hts hinX9 hown hK hP 0 rfl rfl 7 (by decide) fl3 (fun _ h9 => h9) rfl dX9_labelAhead_39 ?_
          refine lv_iload hx hb dX9_labelAhead_42 (lv_at hl 0 rfl) ?_
          obtain ⟨r7, hr7, h⟩ := bd_e h
          refine cl_RV (rest := []) (ci := 1) (q0 := 0) ⟨hx, hb, hml, hown, hts⟩ (mX2_latest l D cI cZ cB (mp ad [21, 22, 23, 24, 25, 26]) (mp σ [21, 22, 23, 24, 25, 26, 32]) x6_3 r7 hr7) (cwV 1 hts gX9_labelAhead_X2_latest rfl rfl rfl (by decide +kernel) ⟨Nat.le_of_ble_eq_true rfl, Nat.le_of_ble_eq_true rfl⟩) hK (hP.sub (ws' := wdX2 cI cZ cB (mp ad [21, 22, 23, 24, 25, 26]) (mp σ [21, 22, 23, 24, 25, 26, 32])) [21, 22, 23, 24, 25, 26] rfl) rfl rfl rfl rfl hl.1 rfl (Nat.le_of_ble_eq_true rfl) dX9_labelAhead_44 ⟨Nat.zero_le _, Nat.zero_le _⟩ ?_
          refine W.eq (g2 := F0 m 47 ls [.int r7]) rfl ?_
          refine lv_if_eq (tgt := 60) hx hb dX9_labelAhead_47 (by decide) (fun c8 => ?_) (fun c8 => ?_)
          · have h := ite_t c8 h
            obtain ⟨x5_9, ex5_9, h⟩ := lt_e h
            refine lv_iinc (v := x5_9) (lv' := [(5, .int x5_9), (6, .int x6_3), (0, .ref (ad 0)), (2, .int a2), (3, .int a3), (4, .int a4)]) hx hb dX9_labelAhead_60 hl (k := 5) rfl (by rw [ex5_9]; rfl) (by decide) rfl (fun ls hl => ?_)
            refine lv_goto (tgt := 5) hx hb dX9_labelAhead_63 (by decide) ?_
            exact ih5 x5_9 _ (lv_sub hl [2, 3, 4, 5, 0] rfl) h
          · have h := ite_f c8 h
            refine lv_aload_n hx hb dX9_labelAhead_50 rfl (lv_at hl 1 rfl) ?_
            refine va_get (ci := 7) (v := .ref (ad 21)) (C := RX9) (T := TX9) (N := 15) hx hb hts hinX9 hown hK hP 0 rfl rfl 7 (by decide) fl3 (fun _ h9 => h9) rfl dX9_labelAhead_51 ?_
            refine lv_iload hx hb dX9_labelAhead_54 (lv_at hl 0 rfl) ?_
            obtain ⟨r10, hr10, h⟩ := bd_e h
            refine cl_RV (rest := []) (ci := 1) (q0 := 0) ⟨hx, hb, hml, hown, hts⟩ (mX2_latest l D cI cZ cB (mp ad [21, 22, 23, 24, 25, 26]) (mp σ [21, 22, 23, 24, 25, 26, 32]) x6_3 r10 hr10) (cwV 1 hts gX9_labelAhead_X2_latest rfl rfl rfl (by decide +kernel) ⟨Nat.le_of_ble_eq_true rfl, Nat.le_of_ble_eq_true rfl⟩) hK (hP.sub (ws' := wdX2 cI cZ cB (mp ad [21, 22, 23, 24, 25, 26]) (mp σ [21, 22, 23, 24, 25, 26, 32])) [21, 22, 23, 24, 25, 26] rfl) rfl rfl rfl rfl hl.1 rfl (Nat.le_of_ble_eq_true rfl) dX9_labelAhead_56 ⟨Nat.zero_le _, Nat.zero_le _⟩ ?_
            refine W.eq (g2 := F0 m 59 ls [.int r10]) rfl ?_
            exact hR (some (.int r10)) _ _ (by rw [← Option.some.inj h]) rfl dX9_labelAhead_59
  rw [X9_labelAhead] at h
  refine lv_iload_n hx hb dX9_labelAhead_0 rfl (lv_at hl 1 rfl) ?_
  refine lv_iconst (v := 1) hx hb dX9_labelAhead_1 (by decide) ?_
  refine lv_isub hx hb dX9_labelAhead_2 ?_
  obtain ⟨x5_11, ex5_11, h⟩ := lt_e h
  refine lv_topE ex5_11 ?_
  refine lv_istore (lv' := [(5, .int x5_11), (0, .ref (ad 0)), (1, .int a1), (2, .int a2), (3, .int a3), (4, .int a4)]) hx hb dX9_labelAhead_3 hl (by decide) rfl (fun ls hl => ?_)
  exact n5 FU x5_11 _ (lv_sub hl [1, 3, 4, 5, 0] rfl) h
set_option maxHeartbeats 4000000 in
set_option maxRecDepth 100000 in
theorem mX9_labelAhead (l : Launch) (D : va_G) (cI cZ cB : ClassId) (ad : Nat → Nat) (σ : Mem) (a1 : Int32) (a2 : Int32) (a3 : Int32) (a4 : Int32) (res : Int32) (h : X9_labelAhead a1 a2 a3 a4 σ = some res) : Met l yX9_labelAhead wsX9_labelAhead rmX9_labelAhead (pR D cI cZ cB (wdX9 cI cZ cB ad σ) [.ref (ad 0), .int a1, .int a2, .int a3, .int a4]) (qR (some (.int res))) 0 0 (fun _ => False) := (bX9_labelAhead l D cI cZ cB ad σ a1 a2 a3 a4 res h).met (by decide +kernel) rfl (Nat.le_of_ble_eq_true rfl)
def rmX9_labelFrom : Room := { frames := 2, cells := 0, slots := 0, locals := 45 }
set_option maxHeartbeats 4000000 in
set_option maxRecDepth 100000 in
theorem bX9_labelFrom (l : Launch) (D : va_G) (cI cZ cB : ClassId) (ad : Nat → Nat) (σ : Mem) (a1 : Int32) (a2 : Int32) (a3 : Int32) (a4 : Int32) (res : Int32) (h : X9_labelFrom a1 a2 a3 a4 σ = some res) : BR l yX9_labelFrom wsX9_labelFrom rmX9_labelFrom cX9_labelFrom 7 (some .int) D cI cZ cB (wdX9 cI cZ cB ad σ) [.ref (ad 0), .int a1, .int a2, .int a3, .int a4] (some (.int res)) := by
  intro p e s m args below meth c ls Q hx hb hml hts hown hK hP hl0 hR
  have hinX3 : ∀ w ∈ u_ws RX3 TX3 7, w ∈ wsX9_labelFrom := (fun _ h => List.mem_cons_of_mem _ (List.mem_append_left _ (List.mem_append_right _ h)))
  have hinX9 : ∀ w ∈ u_ws RX9 TX9 15, w ∈ wsX9_labelFrom := (fun _ h => List.mem_cons_of_mem _ (List.mem_append_left _ (List.mem_append_left _ (List.mem_append_right _ h))))
  have fl1 := hts (.fieldLink RX9 46 "LawNumberer" "items" "LLawNumberer$Items;") (by decide +kernel)
  have fl2 := hts (.fieldLink RX9 108 "LawNumberer$Items" "size" "I") (by decide +kernel)
  have fl3 := hts (.fieldLink RX9 159 "LawNumberer$Items" "order" "[I") (by decide +kernel)
  have fl4 := hts (.fieldLink RX9 53 "LawNumberer" "history" "LLawNumberer$History;") (by decide +kernel)
  have hl : lv_has ls 7 [(0, .ref (ad 0)), (1, .int a1), (2, .int a2), (3, .int a3), (4, .int a4)] := hl0
  have n3 : ∀ (n : Nat) (x5 : Int32) (ls : Array Slot), lv_has ls 7 [(0, .ref (ad 0)), (2, .int a2), (3, .int a3), (4, .int a4), (5, .int x5)] → X9_labelFrom_3 a1 a2 a3 a4 σ n x5 = some res → W p l e rmX9_labelFrom s m args below meth c s.heap [] 0 0 Q (F0 m 3 ls []) := by
    intro n
    induction n with
    | zero =>
      intro x5 ls hl h
      rw [X9_labelFrom_3] at h
      cases h
    | succ n_3 ih3 =>
      intro x5 ls hl h
      rw [X9_labelFrom_3] at h
      refine lv_iload hx hb dX9_labelFrom_3 (lv_at hl 4 rfl) ?_
      refine lv_aload_n hx hb dX9_labelFrom_5 rfl (lv_at hl 0 rfl) ?_
      refine va_get (ci := 7) (v := .ref (ad 15)) (C := RX9) (T := TX9) (N := 15) hx hb hts hinX9 hown hK hP 0 rfl rfl 6 (by decide) fl1 (fun _ h9 => h9) rfl dX9_labelFrom_6 ?_
      refine va_get (ci := 2) (v := .int (σ 15 5)) (C := RX3) (T := TX3) (N := 7) hx hb hts hinX3 hown hK hP 15 rfl rfl 5 (by decide) fl2 (fun _ h9 => h9) rfl dX9_labelFrom_9 ?_
      refine lv_icmp_ge (tgt := 71) hx hb dX9_labelFrom_12 (by decide) (fun c1 => ?_) (fun c1 => ?_)
      · have h := ite_t c1 h
        refine lv_iconst (v := 0) hx hb dX9_labelFrom_71 (by decide) ?_
        exact hR (some (.int 0)) _ _ (by rw [← Option.some.inj h]) rfl dX9_labelFrom_72
      · have h := ite_f c1 h
        refine lv_aload_n hx hb dX9_labelFrom_15 rfl (lv_at hl 0 rfl) ?_
        refine va_get (ci := 7) (v := .ref (ad 15)) (C := RX9) (T := TX9) (N := 15) hx hb hts hinX9 hown hK hP 0 rfl rfl 6 (by decide) fl1 (fun _ h9 => h9) rfl dX9_labelFrom_16 ?_
        refine va_get (ci := 2) (v := .ref (ad 20)) (C := RX3) (T := TX3) (N := 7) hx hb hts hinX3 hown hK hP 15 rfl rfl 4 (by decide) fl3 (fun _ h9 => h9) rfl dX9_labelFrom_19 ?_
        refine lv_iload hx hb dX9_labelFrom_22 (lv_at hl 4 rfl) ?_
        obtain ⟨hin2, h⟩ := gd_e h
        refine va_iald hx hb hK hP 20 0 rfl rfl hin2 dX9_labelFrom_24 ?_
        obtain ⟨x6_3, ex6_3, h⟩ := lt_e h
        refine lv_topE ex6_3 ?_
        refine lv_istore (lv' := [(6, .int x6_3), (0, .ref (ad 0)), (2, .int a2), (3, .int a3), (4, .int a4), (5, .int x5)]) hx hb dX9_labelFrom_25 hl (by decide) rfl (fun ls hl => ?_)
        refine lv_aload_n hx hb dX9_labelFrom_27 rfl (lv_at hl 1 rfl) ?_
        refine va_get (ci := 7) (v := .ref (ad 15)) (C := RX9) (T := TX9) (N := 15) hx hb hts hinX9 hown hK hP 0 rfl rfl 6 (by decide) fl1 (fun _ h9 => h9) rfl dX9_labelFrom_28 ?_
        refine lv_iload hx hb dX9_labelFrom_31 (lv_at hl 0 rfl) ?_
        refine lv_iload_n hx hb dX9_labelFrom_33 rfl (lv_at hl 2 rfl) ?_
        refine lv_iload_n hx hb dX9_labelFrom_34 rfl (lv_at hl 3 rfl) ?_
        refine lv_iload hx hb dX9_labelFrom_35 (lv_at hl 4 rfl) ?_
        obtain ⟨r4, hr4, h⟩ := bd_e h
        refine cl_RV (rest := []) (ci := 2) (q0 := 0) ⟨hx, hb, hml, hown, hts⟩ (mX3_isInRow l D cI cZ cB (mp ad [15, 16, 17, 18, 19, 20]) (mp σ [15, 16, 17, 18, 19, 20]) x6_3 a2 a3 a4 r4 hr4) (cwV 4 hts gX9_labelFrom_X3_isInRow rfl rfl rfl (by decide +kernel) ⟨Nat.le_of_ble_eq_true rfl, Nat.le_of_ble_eq_true rfl⟩) hK (hP.sub (ws' := wdX3 cI cZ cB (mp ad [15, 16, 17, 18, 19, 20]) (mp σ [15, 16, 17, 18, 19, 20])) [15, 16, 17, 18, 19, 20] rfl) rfl rfl rfl rfl hl.1 rfl (Nat.le_of_ble_eq_true rfl) dX9_labelFrom_37 ⟨Nat.zero_le _, Nat.zero_le _⟩ ?_
        refine W.eq (g2 := F0 m 40 ls [.int r4]) rfl ?_
        refine lv_if_eq (tgt := 65) hx hb dX9_labelFrom_40 (by decide) (fun c5 => ?_) (fun c5 => ?_)
        · have h := ite_t c5 h
          obtain ⟨x5_6, ex5_6, h⟩ := lt_e h
          refine lv_iinc (v := x5_6) (lv' := [(5, .int x5_6), (6, .int x6_3), (0, .ref (ad 0)), (2, .int a2), (3, .int a3), (4, .int a4)]) hx hb dX9_labelFrom_65 hl (k := 5) rfl (by rw [ex5_6]; rfl) (by decide) rfl (fun ls hl => ?_)
          refine lv_goto (tgt := 3) hx hb dX9_labelFrom_68 (by decide) ?_
          exact ih3 x5_6 _ (lv_sub hl [2, 3, 4, 5, 0] rfl) h
        · have h := ite_f c5 h
          refine lv_aload_n hx hb dX9_labelFrom_43 rfl (lv_at hl 1 rfl) ?_
          refine va_get (ci := 7) (v := .ref (ad 21)) (C := RX9) (T := TX9) (N := 15) hx hb hts hinX9 hown hK hP 0 rfl rfl 7 (by decide) fl4 (fun _ h9 => h9) rfl dX9_labelFrom_44 ?_
          refine lv_iload hx hb dX9_labelFrom_47 (lv_at hl 0 rfl) ?_
          obtain ⟨r7, hr7, h⟩ := bd_e h
          refine cl_RV (rest := []) (ci := 1) (q0 := 0) ⟨hx, hb, hml, hown, hts⟩ (mX2_latest l D cI cZ cB (mp ad [21, 22, 23, 24, 25, 26]) (mp σ [21, 22, 23, 24, 25, 26, 32]) x6_3 r7 hr7) (cwV 1 hts gX9_labelFrom_X2_latest rfl rfl rfl (by decide +kernel) ⟨Nat.le_of_ble_eq_true rfl, Nat.le_of_ble_eq_true rfl⟩) hK (hP.sub (ws' := wdX2 cI cZ cB (mp ad [21, 22, 23, 24, 25, 26]) (mp σ [21, 22, 23, 24, 25, 26, 32])) [21, 22, 23, 24, 25, 26] rfl) rfl rfl rfl rfl hl.1 rfl (Nat.le_of_ble_eq_true rfl) dX9_labelFrom_49 ⟨Nat.zero_le _, Nat.zero_le _⟩ ?_
          refine W.eq (g2 := F0 m 52 ls [.int r7]) rfl ?_
          refine lv_if_eq (tgt := 65) hx hb dX9_labelFrom_52 (by decide) (fun c8 => ?_) (fun c8 => ?_)
          · have h := ite_t c8 h
            obtain ⟨x5_9, ex5_9, h⟩ := lt_e h
            refine lv_iinc (v := x5_9) (lv' := [(5, .int x5_9), (6, .int x6_3), (0, .ref (ad 0)), (2, .int a2), (3, .int a3), (4, .int a4)]) hx hb dX9_labelFrom_65 hl (k := 5) rfl (by rw [ex5_9]; rfl) (by decide) rfl (fun ls hl => ?_)
            refine lv_goto (tgt := 3) hx hb dX9_labelFrom_68 (by decide) ?_
            exact ih3 x5_9 _ (lv_sub hl [2, 3, 4, 5, 0] rfl) h
          · have h := ite_f c8 h
            refine lv_aload_n hx hb dX9_labelFrom_55 rfl (lv_at hl 1 rfl) ?_
            refine va_get (ci := 7) (v := .ref (ad 21)) (C := RX9) (T := TX9) (N := 15) hx hb hts hinX9 hown hK hP 0 rfl rfl 7 (by decide) fl4 (fun _ h9 => h9) rfl dX9_labelFrom_56 ?_
            refine lv_iload hx hb dX9_labelFrom_59 (lv_at hl 0 rfl) ?_
            obtain ⟨r10, hr10, h⟩ := bd_e h
            refine cl_RV (rest := []) (ci := 1) (q0 := 0) ⟨hx, hb, hml, hown, hts⟩ (mX2_latest l D cI cZ cB (mp ad [21, 22, 23, 24, 25, 26]) (mp σ [21, 22, 23, 24, 25, 26, 32]) x6_3 r10 hr10) (cwV 1 hts gX9_labelFrom_X2_latest rfl rfl rfl (by decide +kernel) ⟨Nat.le_of_ble_eq_true rfl, Nat.le_of_ble_eq_true rfl⟩) hK (hP.sub (ws' := wdX2 cI cZ cB (mp ad [21, 22, 23, 24, 25, 26]) (mp σ [21, 22, 23, 24, 25, 26, 32])) [21, 22, 23, 24, 25, 26] rfl) rfl rfl rfl rfl hl.1 rfl (Nat.le_of_ble_eq_true rfl) dX9_labelFrom_61 ⟨Nat.zero_le _, Nat.zero_le _⟩ ?_
            refine W.eq (g2 := F0 m 64 ls [.int r10]) rfl ?_
            exact hR (some (.int r10)) _ _ (by rw [← Option.some.inj h]) rfl dX9_labelFrom_64
  rw [X9_labelFrom] at h
  refine lv_iload_n hx hb dX9_labelFrom_0 rfl (lv_at hl 1 rfl) ?_
  refine lv_istore (lv' := [(5, .int a1), (0, .ref (ad 0)), (1, .int a1), (2, .int a2), (3, .int a3), (4, .int a4)]) hx hb dX9_labelFrom_1 hl (by decide) rfl (fun ls hl => ?_)
  exact n3 FU a1 _ (lv_sub hl [1, 3, 4, 5, 0] rfl) h
set_option maxHeartbeats 4000000 in
set_option maxRecDepth 100000 in
theorem mX9_labelFrom (l : Launch) (D : va_G) (cI cZ cB : ClassId) (ad : Nat → Nat) (σ : Mem) (a1 : Int32) (a2 : Int32) (a3 : Int32) (a4 : Int32) (res : Int32) (h : X9_labelFrom a1 a2 a3 a4 σ = some res) : Met l yX9_labelFrom wsX9_labelFrom rmX9_labelFrom (pR D cI cZ cB (wdX9 cI cZ cB ad σ) [.ref (ad 0), .int a1, .int a2, .int a3, .int a4]) (qR (some (.int res))) 0 0 (fun _ => False) := (bX9_labelFrom l D cI cZ cB ad σ a1 a2 a3 a4 res h).met (by decide +kernel) rfl (Nat.le_of_ble_eq_true rfl)
def rmX9_add (κ : Nat) : Room := { frames := 4, cells := κ, slots := κ, locals := 134 }
set_option maxHeartbeats 4000000 in
set_option maxRecDepth 100000 in
theorem bX9_add (l : Launch) (D : va_G) (cI cZ cB : ClassId) (ad : Nat → Nat) (σ : Mem) (a1 : Int32) (a2 : Int32) (res : (Int32 × Mem) × Nat) (h : X9_add a1 a2 σ = some res) : BG l yX9_add wsX9_add rmX9_add cX9_add 10 (some .int) D cI cZ cB (wdX9 cI cZ cB ad σ) [.ref (ad 0), .int a1, .int a2] (some (.int res.1.1)) (fun adv => (wdX9 cI cZ cB (mg ad LH9 adv) res.1.2)) res.2 := by
  intro p e s m args below meth c ls Q A hx hb hml hts hown hK hA hP hD hS hl0 hR
  have hP : va_P D vwCl (wdX9 cI cZ cB (mg ad LH9 (mp ad LH9)) σ) s.heap := hP
  have hD : va_D A (wdX9 cI cZ cB (mg ad LH9 (mp ad LH9)) σ) := hD
  have hrf : res.1 = res.1 := rfl
  have hc : 0 + res.2 ≤ res.2 := by omega
  have hinX2 : ∀ w ∈ u_ws RX2 TX2 6, w ∈ wsX9_add := (fun _ h => List.mem_cons_of_mem _ (List.mem_append_left _ (List.mem_append_left _ (List.mem_append_right _ h))))
  have hinX3 : ∀ w ∈ u_ws RX3 TX3 7, w ∈ wsX9_add := (fun _ h => List.mem_cons_of_mem _ (List.mem_append_left _ (List.mem_append_left _ (List.mem_append_left _ (List.mem_append_right _ h)))))
  have hinX9 : ∀ w ∈ u_ws RX9 TX9 15, w ∈ wsX9_add := (fun _ h => List.mem_cons_of_mem _ (List.mem_append_left _ (List.mem_append_left _ (List.mem_append_left _ (List.mem_append_left _ (List.mem_append_right _ h))))))
  have fl1 := hts (.fieldLink RX9 22 "LawNumberer" "scheme" "LLawNumberer$Levels;") (by decide +kernel)
  have fl2 := hts (.fieldLink RX9 46 "LawNumberer" "items" "LLawNumberer$Items;") (by decide +kernel)
  have fl3 := hts (.fieldLink RX9 108 "LawNumberer$Items" "size" "I") (by decide +kernel)
  have fl4 := hts (.fieldLink RX9 60 "LawNumberer" "acts" "LLawNumberer$Acts;") (by decide +kernel)
  have fl5 := hts (.fieldLink RX9 53 "LawNumberer" "history" "LLawNumberer$History;") (by decide +kernel)
  have fl6 := hts (.fieldLink RX9 136 "LawNumberer$History" "size" "I") (by decide +kernel)
  have fl7 := hts (.fieldLink RX9 105 "LawNumberer" "today" "I") (by decide +kernel)
  have fl8 := hts (.fieldLink RX9 113 "LawNumberer$Items" "levels" "[I") (by decide +kernel)
  have hl : lv_has ls 10 [(0, .ref (ad 0)), (1, .int a1), (2, .int a2)] := hl0
  have n43 : ∀ (y0 : Int32) (σ : Mem) (adv : Nat → Nat) (kc : Nat) (rr : (Int32 × Mem) × Nat) (H : Heap) (locs : List Loc), va_P D vwCl (wdX9 cI cZ cB (mg ad LH9 adv) σ) H → va_D A (wdX9 cI cZ cB (mg ad LH9 adv) σ) → va_S A s.heap H locs → ∀ (ls : Array Slot), lv_has ls 10 [(0, .ref (ad 0)), (1, .int a1), (2, .int a2)] → X9_add_43 a1 a2 y0 σ = some rr → rr.1 = res.1 → kc + rr.2 ≤ res.2 → W p l e (rmX9_add res.2) s m args below meth c H locs kc kc Q (F0 m 43 ls [.int y0]) := by
    intro y0 σ adv kc rr H locs hP hD hS ls hl h hrf hc
    rw [X9_add_43] at h
    refine lv_istore_n (lv' := [(3, .int y0), (0, .ref (ad 0)), (1, .int a1), (2, .int a2)]) hx hb dX9_add_43 rfl hl (by decide) rfl (fun ls hl => ?_)
    refine lv_aload_n hx hb dX9_add_44 rfl (lv_at hl 1 rfl) ?_
    refine lv_iload_n hx hb dX9_add_45 rfl (lv_at hl 2 rfl) ?_
    refine lv_iload_n hx hb dX9_add_46 rfl (lv_at hl 3 rfl) ?_
    obtain ⟨r1, hr1, h⟩ := bd_e h
    refine cl_RV (rest := []) (ci := 7) (q0 := 0) ⟨hx, hb, hml, hown, hts⟩ (mX9_placeOfNew l D cI cZ cB (mg ad LH9 adv) σ a1 a2 r1 hr1) (cwV 2 hts gX9_add_X9_placeOfNew rfl rfl rfl (by decide +kernel) ⟨Nat.le_of_ble_eq_true rfl, Nat.le_of_ble_eq_true rfl⟩) hK hP rfl rfl rfl rfl hl.1 rfl (Nat.le_of_ble_eq_true rfl) dX9_add_47 ⟨by show _ ≤ res.2; omega, by show _ ≤ res.2; omega⟩ ?_
    refine W.eq (g2 := F0 m 50 ls [.int r1]) rfl ?_
    refine lv_istore (lv' := [(4, .int r1), (3, .int y0), (0, .ref (ad 0)), (1, .int a1), (2, .int a2)]) hx hb dX9_add_50 hl (by decide) rfl (fun ls hl => ?_)
    refine lv_aload_n hx hb dX9_add_52 rfl (lv_at hl 2 rfl) ?_
    refine va_get (ci := 7) (v := .ref (ad 5)) (C := RX9) (T := TX9) (N := 15) hx hb hts hinX9 hown hK hP 0 rfl rfl 2 (by decide) fl1 (fun _ h9 => h9) rfl dX9_add_53 ?_
    refine lv_iload_n hx hb dX9_add_56 rfl (lv_at hl 1 rfl) ?_
    obtain ⟨r2, hr2, h⟩ := bd_e h
    refine cl_RV (rest := []) (ci := 4) (q0 := 0) ⟨hx, hb, hml, hown, hts⟩ (mX6_isThrough l D cI cZ cB (mp (mg ad LH9 adv) [5, 6, 7]) (mp σ [5, 6, 7]) y0 r2 hr2) (cwV 1 hts gX9_add_X6_isThrough rfl rfl rfl (by decide +kernel) ⟨Nat.le_of_ble_eq_true rfl, Nat.le_of_ble_eq_true rfl⟩) hK (hP.sub (ws' := wdX6 cI cZ cB (mp (mg ad LH9 adv) [5, 6, 7]) (mp σ [5, 6, 7])) [5, 6, 7] rfl) rfl rfl rfl rfl hl.1 rfl (Nat.le_of_ble_eq_true rfl) dX9_add_57 ⟨by show _ ≤ res.2; omega, by show _ ≤ res.2; omega⟩ ?_
    refine W.eq (g2 := F0 m 60 ls [.int r2]) rfl ?_
    refine lv_istore (lv' := [(5, .int r2), (4, .int r1), (3, .int y0), (0, .ref (ad 0)), (1, .int a1), (2, .int a2)]) hx hb dX9_add_60 hl (by decide) rfl (fun ls hl => ?_)
    refine lv_aload_n hx hb dX9_add_62 rfl (lv_at hl 3 rfl) ?_
    refine lv_iload hx hb dX9_add_63 (lv_at hl 1 rfl) ?_
    refine lv_iload_n hx hb dX9_add_65 rfl (lv_at hl 2 rfl) ?_
    refine lv_iload_n hx hb dX9_add_66 rfl (lv_at hl 4 rfl) ?_
    refine lv_iload hx hb dX9_add_67 (lv_at hl 0 rfl) ?_
    obtain ⟨r3, hr3, h⟩ := bd_e h
    refine cl_RV (rest := []) (ci := 7) (q0 := 0) ⟨hx, hb, hml, hown, hts⟩ (mX9_labelAhead l D cI cZ cB (mg ad LH9 adv) σ r1 y0 a1 r2 r3 hr3) (cwV 4 hts gX9_add_X9_labelAhead rfl rfl rfl (by decide +kernel) ⟨Nat.le_of_ble_eq_true rfl, Nat.le_of_ble_eq_true rfl⟩) hK hP rfl rfl rfl rfl hl.1 rfl (Nat.le_of_ble_eq_true rfl) dX9_add_69 ⟨by show _ ≤ res.2; omega, by show _ ≤ res.2; omega⟩ ?_
    refine W.eq (g2 := F0 m 72 ls [.int r3]) rfl ?_
    refine lv_istore (lv' := [(6, .int r3), (5, .int r2), (4, .int r1), (3, .int y0), (0, .ref (ad 0)), (1, .int a1), (2, .int a2)]) hx hb dX9_add_72 hl (by decide) rfl (fun ls hl => ?_)
    refine lv_aload_n hx hb dX9_add_74 rfl (lv_at hl 4 rfl) ?_
    refine lv_iload hx hb dX9_add_75 (lv_at hl 2 rfl) ?_
    refine lv_iload_n hx hb dX9_add_77 rfl (lv_at hl 3 rfl) ?_
    refine lv_iload_n hx hb dX9_add_78 rfl (lv_at hl 5 rfl) ?_
    refine lv_iload hx hb dX9_add_79 (lv_at hl 1 rfl) ?_
    obtain ⟨r4, hr4, h⟩ := bd_e h
    refine cl_RV (rest := []) (ci := 7) (q0 := 0) ⟨hx, hb, hml, hown, hts⟩ (mX9_labelFrom l D cI cZ cB (mg ad LH9 adv) σ r1 y0 a1 r2 r4 hr4) (cwV 4 hts gX9_add_X9_labelFrom rfl rfl rfl (by decide +kernel) ⟨Nat.le_of_ble_eq_true rfl, Nat.le_of_ble_eq_true rfl⟩) hK hP rfl rfl rfl rfl hl.1 rfl (Nat.le_of_ble_eq_true rfl) dX9_add_81 ⟨by show _ ≤ res.2; omega, by show _ ≤ res.2; omega⟩ ?_
    refine W.eq (g2 := F0 m 84 ls [.int r4]) rfl ?_
    refine lv_istore (lv' := [(7, .int r4), (6, .int r3), (5, .int r2), (4, .int r1), (3, .int y0), (0, .ref (ad 0)), (1, .int a1), (2, .int a2)]) hx hb dX9_add_84 hl (by decide) rfl (fun ls hl => ?_)
    refine lv_iload hx hb dX9_add_86 (lv_at hl 1 rfl) ?_
    refine lv_iload hx hb dX9_add_88 (lv_at hl 0 rfl) ?_
    obtain ⟨r5, hr5, h⟩ := bd_e h
    refine cl_RS (rest := []) ⟨hx, hb, hml, hown, hts⟩ (mX5_between l D cI cZ cB r3 r4 r5 hr5) (va_cwS 2 hts gX9_add_X5_between rfl rfl rfl (by decide +kernel) ⟨Nat.le_of_ble_eq_true rfl, Nat.le_of_ble_eq_true rfl⟩) hK wd0_P rfl hl.1 rfl (Nat.le_of_ble_eq_true rfl) dX9_add_90 ⟨by show _ ≤ res.2; omega, by show _ ≤ res.2; omega⟩ ?_
    refine W.eq (g2 := F0 m 93 ls [.int r5]) rfl ?_
    refine lv_istore (lv' := [(8, .int r5), (7, .int r4), (6, .int r3), (5, .int r2), (4, .int r1), (3, .int y0), (0, .ref (ad 0)), (1, .int a1), (2, .int a2)]) hx hb dX9_add_93 hl (by decide) rfl (fun ls hl => ?_)
    refine lv_iload hx hb dX9_add_95 (lv_at hl 0 rfl) ?_
    refine lv_if_ne (tgt := 103) hx hb dX9_add_97 (by decide) (fun c6 => ?_) (fun c6 => ?_)
    · have h := ite_f c6 h
      refine lv_aload_n hx hb dX9_add_103 rfl (lv_at hl 6 rfl) ?_
      refine va_get (ci := 7) (v := .ref (ad 15)) (C := RX9) (T := TX9) (N := 15) hx hb hts hinX9 hown hK hP 0 rfl rfl 6 (by decide) fl2 (fun _ h9 => h9) rfl dX9_add_104 ?_
      refine va_get (ci := 2) (v := .int (σ 15 5)) (C := RX3) (T := TX3) (N := 7) hx hb hts hinX3 hown hK hP 15 rfl rfl 5 (by decide) fl3 (fun _ h9 => h9) rfl dX9_add_107 ?_
      obtain ⟨x9_7, ex9_7, h⟩ := lt_e h
      refine lv_topE ex9_7 ?_
      refine lv_istore (lv' := [(9, .int x9_7), (8, .int r5), (7, .int r4), (6, .int r3), (5, .int r2), (4, .int r1), (3, .int y0), (0, .ref (ad 0)), (1, .int a1), (2, .int a2)]) hx hb dX9_add_110 hl (by decide) rfl (fun ls hl => ?_)
      refine lv_aload_n hx hb dX9_add_112 rfl (lv_at hl 7 rfl) ?_
      refine va_get (ci := 7) (v := .ref (ad 27)) (C := RX9) (T := TX9) (N := 15) hx hb hts hinX9 hown hK hP 0 rfl rfl 8 (by decide) fl4 (fun _ h9 => h9) rfl dX9_add_113 ?_
      refine lv_iconst (v := 1) hx hb dX9_add_116 (by decide) ?_
      refine lv_iload hx hb dX9_add_117 (lv_at hl 0 rfl) ?_
      refine lv_aload_n hx hb dX9_add_119 rfl (lv_at hl 7 rfl) ?_
      refine va_get (ci := 7) (v := .ref (ad 21)) (C := RX9) (T := TX9) (N := 15) hx hb hts hinX9 hown hK hP 0 rfl rfl 7 (by decide) fl5 (fun _ h9 => h9) rfl dX9_add_120 ?_
      refine va_get (ci := 1) (v := .int (σ 21 5)) (C := RX2) (T := TX2) (N := 6) hx hb hts hinX2 hown hK hP 21 rfl rfl 5 (by decide) fl6 (fun _ h9 => h9) rfl dX9_add_123 ?_
      obtain ⟨r8, hr8, h⟩ := bd_e h
      obtain ⟨σ9, eσ9, h⟩ := lt_e h
      refine cl_WV (rest := []) (wn := (wdX9 cI cZ cB (mg ad LH9 adv) σ9)) (lp := [27, 28, 29, 30]) (ci := 0) (q0 := 0) ⟨hx, hb, hml, hown, hts⟩ (mX0_open l D cI cZ cB (mp (mg ad LH9 adv) [27, 28, 29, 30]) (mp σ [27, 28, 29, 30]) H.size 1 x9_7 (σ 21 5) r8 hr8) (cwV 3 hts gX9_add_X0_open rfl rfl rfl (by decide +kernel) ⟨Nat.le_of_ble_eq_true rfl, Nat.le_of_ble_eq_true rfl⟩) hK hP hD hS hA rfl rfl rfl (by rw [eσ9]; rfl) rfl rfl rfl rfl rfl hl.1 rfl (Nat.le_of_ble_eq_true rfl) dX9_add_126 ⟨by show _ ≤ res.2; omega, by show _ ≤ res.2; omega⟩ (fun H locs hP hD hS => ?_)
      refine W.eq (g2 := F0 m 129 ls []) rfl ?_
      refine lv_aload_n hx hb dX9_add_129 rfl (lv_at hl 7 rfl) ?_
      refine va_get (ci := 7) (v := .ref (ad 15)) (C := RX9) (T := TX9) (N := 15) hx hb hts hinX9 hown hK hP 0 rfl rfl 6 (by decide) fl2 (fun _ h9 => h9) rfl dX9_add_130 ?_
      refine lv_iload hx hb dX9_add_133 (lv_at hl 5 rfl) ?_
      refine lv_iload_n hx hb dX9_add_135 rfl (lv_at hl 6 rfl) ?_
      refine lv_iload_n hx hb dX9_add_136 rfl (lv_at hl 8 rfl) ?_
      refine lv_aload_n hx hb dX9_add_137 rfl (lv_at hl 7 rfl) ?_
      refine va_get (ci := 7) (v := .int (σ9 0 10)) (C := RX9) (T := TX9) (N := 15) hx hb hts hinX9 hown hK hP 0 rfl rfl 10 (by decide) fl7 (fun _ h9 => h9) rfl dX9_add_138 ?_
      obtain ⟨r10, hr10, h⟩ := bd_e h
      obtain ⟨σ11, eσ11, h⟩ := lt_e h
      refine cl_WV (rest := []) (wn := (wdX9 cI cZ cB (mg ad LH9 adv) σ11)) (lp := [15, 16, 17, 18, 19, 20]) (ci := 2) (q0 := 0) ⟨hx, hb, hml, hown, hts⟩ (mX3_insert l D cI cZ cB (mp (mg ad LH9 adv) [15, 16, 17, 18, 19, 20]) (mp σ9 [15, 16, 17, 18, 19, 20]) H.size r1 y0 a1 (σ9 0 10) r10 hr10) (cwV 4 hts gX9_add_X3_insert rfl rfl rfl (by decide +kernel) ⟨Nat.le_of_ble_eq_true rfl, Nat.le_of_ble_eq_true rfl⟩) hK hP hD hS hA rfl rfl rfl (by rw [eσ11]; rfl) rfl rfl rfl rfl rfl hl.1 rfl (Nat.le_of_ble_eq_true rfl) dX9_add_141 ⟨by show _ ≤ res.2; omega, by show _ ≤ res.2; omega⟩ (fun H locs hP hD hS => ?_)
      refine W.eq (g2 := F0 m 144 ls []) rfl ?_
      refine lv_aload_n hx hb dX9_add_144 rfl (lv_at hl 7 rfl) ?_
      refine va_get (ci := 7) (v := .ref (ad 21)) (C := RX9) (T := TX9) (N := 15) hx hb hts hinX9 hown hK hP 0 rfl rfl 7 (by decide) fl5 (fun _ h9 => h9) rfl dX9_add_145 ?_
      refine lv_iload hx hb dX9_add_148 (lv_at hl 0 rfl) ?_
      refine lv_aload_n hx hb dX9_add_150 rfl (lv_at hl 7 rfl) ?_
      refine va_get (ci := 7) (v := .int (σ11 0 10)) (C := RX9) (T := TX9) (N := 15) hx hb hts hinX9 hown hK hP 0 rfl rfl 10 (by decide) fl7 (fun _ h9 => h9) rfl dX9_add_151 ?_
      refine lv_iload hx hb dX9_add_154 (lv_at hl 1 rfl) ?_
      obtain ⟨r12, hr12, h⟩ := bd_e h
      obtain ⟨rr14, h, hfrr14, hkrr14⟩ := kad_e h
      have hrf := hfrr14.symm.trans hrf
      have hc : kc + r12.2 + rr14.2 ≤ res.2 := by omega
      obtain ⟨σ13, eσ13, h⟩ := lt_e h
      refine cl_GV (rest := []) (wn := (fun adv => (wdX9 cI cZ cB (mg ad LH9 adv) σ13))) (lp := [21, 22, 23, 24, 25, 26]) (ci := 1) (q0 := 0) ⟨hx, hb, hml, hown, hts⟩ (mX2_give l D cI cZ cB (mp (mg ad LH9 adv) [21, 22, 23, 24, 25, 26]) (mp σ11 [21, 22, 23, 24, 25, 26, 32]) H.size x9_7 (σ11 0 10) r5 r12 hr12) (cwV 3 hts gX9_add_X2_give rfl rfl rfl (by decide +kernel) ⟨Nat.le_of_ble_eq_true rfl, Nat.le_of_ble_eq_true rfl⟩) hK hP hD hS hA rfl rfl (fun _ => rfl) (fun _ => by rw [eσ13]; rfl) rfl rfl rfl rfl hl.1 rfl (Nat.le_of_ble_eq_true rfl) dX9_add_156 ⟨by show _ ≤ res.2; omega, by show _ ≤ res.2; omega⟩ (fun adv15 H locs hP hD hS => ?_)
      have hP : va_P D vwCl (wdX9 cI cZ cB (mg ad LH9 adv15) σ13) H := hP
      have hD : va_D A (wdX9 cI cZ cB (mg ad LH9 adv15) σ13) := hD
      refine W.eq (g2 := F0 m 159 ls []) rfl ?_
      refine lv_iload hx hb dX9_add_159 (lv_at hl 0 rfl) ?_
      have hfin : (x9_7, σ13) = res.1 := (congrArg Prod.fst (Option.some.inj h)).trans hrf
      exact hR (some (.int x9_7)) adv15 _ _ _ _ _ _ (by rw [← hfin]) (by first | (rw [← hfin]; done) | (rw [← hfin]; rfl)) rfl dX9_add_161 hP hD hS (by omega)
    · have h := ite_t c6 h
      refine lv_bipush (v := (-2)) hx hb dX9_add_100 (by decide) ?_
      have hfin : ((-2), σ) = res.1 := (congrArg Prod.fst (Option.some.inj h)).trans hrf
      exact hR (some (.int (-2))) adv _ _ _ _ _ _ (by rw [← hfin]) (by first | (rw [← hfin]; done) | (rw [← hfin]; rfl)) rfl dX9_add_102 hP hD hS (by omega)
  rw [X9_add] at h
  have hS := hS
  refine lv_aload_n hx hb dX9_add_0 rfl (lv_at hl 0 rfl) ?_
  refine va_get (ci := 7) (v := .ref (ad 15)) (C := RX9) (T := TX9) (N := 15) hx hb hts hinX9 hown hK hP 0 rfl rfl 6 (by decide) fl2 (fun _ h9 => h9) rfl dX9_add_1 ?_
  refine va_get (ci := 2) (v := .int (σ 15 5)) (C := RX3) (T := TX3) (N := 7) hx hb hts hinX3 hown hK hP 15 rfl rfl 5 (by decide) fl3 (fun _ h9 => h9) rfl dX9_add_4 ?_
  refine lv_bipush (v := 80) hx hb dX9_add_7 (by decide) ?_
  refine lv_icmp_ge (tgt := 21) hx hb dX9_add_9 (by decide) (fun c16 => ?_) (fun c16 => ?_)
  · have h := ite_t c16 h
    refine lv_iconst (v := (-1)) hx hb dX9_add_21 (by decide) ?_
    have hfin : ((-1), σ) = res.1 := (congrArg Prod.fst (Option.some.inj h)).trans hrf
    exact hR (some (.int (-1))) (mp ad LH9) _ _ _ _ _ _ (by rw [← hfin]) (by first | (rw [← hfin]; done) | (rw [← hfin]; rfl)) rfl dX9_add_22 hP hD hS (by omega)
  · have h := ite_f c16 h
    refine lv_aload_n hx hb dX9_add_12 rfl (lv_at hl 0 rfl) ?_
    refine lv_iload_n hx hb dX9_add_13 rfl (lv_at hl 1 rfl) ?_
    refine lv_iload_n hx hb dX9_add_14 rfl (lv_at hl 2 rfl) ?_
    obtain ⟨r17, hr17, h⟩ := bd_e h
    refine cl_RV (rest := []) (ci := 7) (q0 := 0) ⟨hx, hb, hml, hown, hts⟩ (mX9_isPlaceTold l D cI cZ cB (mg ad LH9 (mp ad LH9)) σ a1 a2 r17 hr17) (cwV 2 hts gX9_add_X9_isPlaceTold rfl rfl rfl (by decide +kernel) ⟨Nat.le_of_ble_eq_true rfl, Nat.le_of_ble_eq_true rfl⟩) hK hP rfl rfl rfl rfl hl.1 rfl (Nat.le_of_ble_eq_true rfl) dX9_add_15 ⟨by show _ ≤ res.2; omega, by show _ ≤ res.2; omega⟩ ?_
    refine W.eq (g2 := F0 m 18 ls [.int r17]) rfl ?_
    refine lv_if_ne (tgt := 23) hx hb dX9_add_18 (by decide) (fun c18 => ?_) (fun c18 => ?_)
    · have h := ite_f c18 h
      refine lv_iload_n hx hb dX9_add_23 rfl (lv_at hl 1 rfl) ?_
      refine lv_iconst (v := (-1)) hx hb dX9_add_24 (by decide) ?_
      refine lv_icmp_ne (tgt := 32) hx hb dX9_add_25 (by decide) (fun c19 => ?_) (fun c19 => ?_)
      · have h := ite_f c19 h
        refine lv_aload_n hx hb dX9_add_32 rfl (lv_at hl 0 rfl) ?_
        refine va_get (ci := 7) (v := .ref (ad 15)) (C := RX9) (T := TX9) (N := 15) hx hb hts hinX9 hown hK hP 0 rfl rfl 6 (by decide) fl2 (fun _ h9 => h9) rfl dX9_add_33 ?_
        refine va_get (ci := 2) (v := .ref (ad 16)) (C := RX3) (T := TX3) (N := 7) hx hb hts hinX3 hown hK hP 15 rfl rfl 0 (by decide) fl8 (fun _ h9 => h9) rfl dX9_add_36 ?_
        refine lv_iload_n hx hb dX9_add_39 rfl (lv_at hl 1 rfl) ?_
        obtain ⟨hin20, h⟩ := gd_e h
        refine va_iald hx hb hK hP 16 0 rfl rfl hin20 dX9_add_40 ?_
        refine lv_iconst (v := 1) hx hb dX9_add_41 (by decide) ?_
        refine lv_iadd hx hb dX9_add_42 ?_
        exact n43 ((σ 16 (Int32.toNatClampNeg a1)) + 1) σ (mp ad LH9) 0 res _ _ hP hD hS _ (lv_sub hl [0, 1, 2] rfl) h hrf hc
      · have h := ite_t c19 h
        refine lv_iconst (v := 0) hx hb dX9_add_28 (by decide) ?_
        refine lv_goto (tgt := 43) hx hb dX9_add_29 (by decide) ?_
        exact n43 0 σ (mp ad LH9) 0 res _ _ hP hD hS _ (lv_sub hl [0, 1, 2] rfl) h hrf hc
    · have h := ite_t c18 h
      refine lv_iconst (v := (-1)) hx hb dX9_add_21 (by decide) ?_
      have hfin : ((-1), σ) = res.1 := (congrArg Prod.fst (Option.some.inj h)).trans hrf
      exact hR (some (.int (-1))) (mp ad LH9) _ _ _ _ _ _ (by rw [← hfin]) (by first | (rw [← hfin]; done) | (rw [← hfin]; rfl)) rfl dX9_add_22 hP hD hS (by omega)
set_option maxHeartbeats 4000000 in
set_option maxRecDepth 100000 in
theorem mX9_add (l : Launch) (D : va_G) (cI cZ cB : ClassId) (ad : Nat → Nat) (σ : Mem) (sz : Nat) (a1 : Int32) (a2 : Int32) (res : (Int32 × Mem) × Nat) (h : X9_add a1 a2 σ = some res) : Met l yX9_add wsX9_add (rmX9_add res.2) (pW D cI cZ cB (wdX9 cI cZ cB ad σ) sz [.ref (ad 0), .int a1, .int a2]) (qG D (some (.int res.1.1)) (fun adv => (wdX9 cI cZ cB (mg ad LH9 adv) res.1.2)) (va_A (wdX9 cI cZ cB ad σ) sz)) res.2 res.2 (va_A (wdX9 cI cZ cB ad σ) sz) := (bX9_add l D cI cZ cB ad σ a1 a2 res h).met (by decide +kernel) rfl (Nat.le_of_ble_eq_true rfl)
def rmX9_strike : Room := { frames := 2, cells := 0, slots := 0, locals := 45 }
set_option maxHeartbeats 4000000 in
set_option maxRecDepth 100000 in
theorem bX9_strike (l : Launch) (D : va_G) (cI cZ cB : ClassId) (ad : Nat → Nat) (σ : Mem) (a1 : Int32) (res : Int32 × Mem) (h : X9_strike a1 σ = some res) : BW l yX9_strike wsX9_strike rmX9_strike cX9_strike 2 (some .boolean) D cI cZ cB (wdX9 cI cZ cB ad σ) [.ref (ad 0), .int a1] (some (.int res.1)) (wdX9 cI cZ cB ad res.2) := by
  intro p e s m args below meth c ls Q A hx hb hml hts hown hK hA hP hD hS hl0 hR
  have hinX2 : ∀ w ∈ u_ws RX2 TX2 6, w ∈ wsX9_strike := (fun _ h => List.mem_cons_of_mem _ (List.mem_append_left _ (List.mem_append_right _ h)))
  have hinX3 : ∀ w ∈ u_ws RX3 TX3 7, w ∈ wsX9_strike := (fun _ h => List.mem_cons_of_mem _ (List.mem_append_left _ (List.mem_append_left _ (List.mem_append_right _ h))))
  have hinX9 : ∀ w ∈ u_ws RX9 TX9 15, w ∈ wsX9_strike := (fun _ h => List.mem_cons_of_mem _ (List.mem_append_left _ (List.mem_append_left _ (List.mem_append_left _ (List.mem_append_right _ h)))))
  have fl1 := hts (.fieldLink RX9 46 "LawNumberer" "items" "LLawNumberer$Items;") (by decide +kernel)
  have fl2 := hts (.fieldLink RX9 151 "LawNumberer$Items" "struck" "[Z") (by decide +kernel)
  have fl3 := hts (.fieldLink RX9 60 "LawNumberer" "acts" "LLawNumberer$Acts;") (by decide +kernel)
  have fl4 := hts (.fieldLink RX9 53 "LawNumberer" "history" "LLawNumberer$History;") (by decide +kernel)
  have fl5 := hts (.fieldLink RX9 136 "LawNumberer$History" "size" "I") (by decide +kernel)
  have hl : lv_has ls 2 [(0, .ref (ad 0)), (1, .int a1)] := hl0
  rw [X9_strike] at h
  have hS := hS
  refine lv_aload_n hx hb dX9_strike_0 rfl (lv_at hl 0 rfl) ?_
  refine va_get (ci := 7) (v := .ref (ad 15)) (C := RX9) (T := TX9) (N := 15) hx hb hts hinX9 hown hK hP 0 rfl rfl 6 (by decide) fl1 (fun _ h9 => h9) rfl dX9_strike_1 ?_
  refine lv_iload_n hx hb dX9_strike_4 rfl (lv_at hl 1 rfl) ?_
  obtain ⟨r1, hr1, h⟩ := bd_e h
  refine cl_RV (rest := []) (ci := 2) (q0 := 0) ⟨hx, hb, hml, hown, hts⟩ (mX3_has l D cI cZ cB (mp ad [15, 16, 17, 18, 19, 20]) (mp σ [15, 16, 17, 18, 19, 20]) a1 r1 hr1) (cwV 1 hts gX9_strike_X3_has rfl rfl rfl (by decide +kernel) ⟨Nat.le_of_ble_eq_true rfl, Nat.le_of_ble_eq_true rfl⟩) hK (hP.sub (ws' := wdX3 cI cZ cB (mp ad [15, 16, 17, 18, 19, 20]) (mp σ [15, 16, 17, 18, 19, 20])) [15, 16, 17, 18, 19, 20] rfl) rfl rfl rfl rfl hl.1 rfl (Nat.le_of_ble_eq_true rfl) dX9_strike_5 ⟨Nat.zero_le _, Nat.zero_le _⟩ ?_
  refine W.eq (g2 := F0 m 8 ls [.int r1]) rfl ?_
  refine lv_if_eq (tgt := 23) hx hb dX9_strike_8 (by decide) (fun c2 => ?_) (fun c2 => ?_)
  · have h := ite_t c2 h
    refine lv_iconst (v := 0) hx hb dX9_strike_23 (by decide) ?_
    exact hR (some (.int 0)) (wdX9 cI cZ cB ad σ) _ _ _ _ (by rw [← Option.some.inj h]) (by rw [← Option.some.inj h]) nb0 dX9_strike_24 hP hS
  · have h := ite_f c2 h
    refine lv_aload_n hx hb dX9_strike_11 rfl (lv_at hl 0 rfl) ?_
    refine va_get (ci := 7) (v := .ref (ad 15)) (C := RX9) (T := TX9) (N := 15) hx hb hts hinX9 hown hK hP 0 rfl rfl 6 (by decide) fl1 (fun _ h9 => h9) rfl dX9_strike_12 ?_
    refine va_get (ci := 2) (v := .ref (ad 19)) (C := RX3) (T := TX3) (N := 7) hx hb hts hinX3 hown hK hP 15 rfl rfl 3 (by decide) fl2 (fun _ h9 => h9) rfl dX9_strike_15 ?_
    refine lv_iload_n hx hb dX9_strike_18 rfl (lv_at hl 1 rfl) ?_
    obtain ⟨hin3, h⟩ := gd_e h
    refine va_zald hx hb hK hP 19 1 rfl rfl hin3 dX9_strike_19 ?_
    refine lv_if_eq (tgt := 25) hx hb dX9_strike_20 (by decide) (fun c4 => ?_) (fun c4 => ?_)
    · have h := ite_t c4 h
      refine lv_aload_n hx hb dX9_strike_25 rfl (lv_at hl 0 rfl) ?_
      refine va_get (ci := 7) (v := .ref (ad 27)) (C := RX9) (T := TX9) (N := 15) hx hb hts hinX9 hown hK hP 0 rfl rfl 8 (by decide) fl3 (fun _ h9 => h9) rfl dX9_strike_26 ?_
      refine lv_iconst (v := 2) hx hb dX9_strike_29 (by decide) ?_
      refine lv_iload_n hx hb dX9_strike_30 rfl (lv_at hl 1 rfl) ?_
      refine lv_aload_n hx hb dX9_strike_31 rfl (lv_at hl 0 rfl) ?_
      refine va_get (ci := 7) (v := .ref (ad 21)) (C := RX9) (T := TX9) (N := 15) hx hb hts hinX9 hown hK hP 0 rfl rfl 7 (by decide) fl4 (fun _ h9 => h9) rfl dX9_strike_32 ?_
      refine va_get (ci := 1) (v := .int (σ 21 5)) (C := RX2) (T := TX2) (N := 6) hx hb hts hinX2 hown hK hP 21 rfl rfl 5 (by decide) fl5 (fun _ h9 => h9) rfl dX9_strike_35 ?_
      obtain ⟨r5, hr5, h⟩ := bd_e h
      obtain ⟨σ6, eσ6, h⟩ := lt_e h
      refine cl_WV (rest := []) (wn := (wdX9 cI cZ cB ad σ6)) (lp := [27, 28, 29, 30]) (ci := 0) (q0 := 0) ⟨hx, hb, hml, hown, hts⟩ (mX0_open l D cI cZ cB (mp ad [27, 28, 29, 30]) (mp σ [27, 28, 29, 30]) s.heap.size 2 a1 (σ 21 5) r5 hr5) (cwV 3 hts gX9_strike_X0_open rfl rfl rfl (by decide +kernel) ⟨Nat.le_of_ble_eq_true rfl, Nat.le_of_ble_eq_true rfl⟩) hK hP hD hS hA rfl rfl rfl (by rw [eσ6]; rfl) rfl rfl rfl rfl rfl hl.1 rfl (Nat.le_of_ble_eq_true rfl) dX9_strike_38 ⟨Nat.zero_le _, Nat.zero_le _⟩ (fun H locs hP hD hS => ?_)
      refine W.eq (g2 := F0 m 41 ls []) rfl ?_
      refine lv_aload_n hx hb dX9_strike_41 rfl (lv_at hl 0 rfl) ?_
      refine va_get (ci := 7) (v := .ref (ad 15)) (C := RX9) (T := TX9) (N := 15) hx hb hts hinX9 hown hK hP 0 rfl rfl 6 (by decide) fl1 (fun _ h9 => h9) rfl dX9_strike_42 ?_
      refine lv_iload_n hx hb dX9_strike_45 rfl (lv_at hl 1 rfl) ?_
      refine lv_iconst (v := 1) hx hb dX9_strike_46 (by decide) ?_
      obtain ⟨r7, hr7, h⟩ := bd_e h
      obtain ⟨σ8, eσ8, h⟩ := lt_e h
      refine cl_WV (rest := []) (wn := (wdX9 cI cZ cB ad σ8)) (lp := [15, 16, 17, 18, 19, 20]) (ci := 2) (q0 := 0) ⟨hx, hb, hml, hown, hts⟩ (mX3_setStruck l D cI cZ cB (mp ad [15, 16, 17, 18, 19, 20]) (mp σ6 [15, 16, 17, 18, 19, 20]) H.size a1 1 r7 hr7) (cwV 2 hts gX9_strike_X3_setStruck rfl rfl rfl (by decide +kernel) ⟨Nat.le_of_ble_eq_true rfl, Nat.le_of_ble_eq_true rfl⟩) hK hP hD hS hA rfl rfl rfl (by rw [eσ8]; rfl) rfl rfl rfl rfl rfl hl.1 rfl (Nat.le_of_ble_eq_true rfl) dX9_strike_47 ⟨Nat.zero_le _, Nat.zero_le _⟩ (fun H locs hP hD hS => ?_)
      refine W.eq (g2 := F0 m 50 ls []) rfl ?_
      refine lv_iconst (v := 1) hx hb dX9_strike_50 (by decide) ?_
      exact hR (some (.int 1)) (wdX9 cI cZ cB ad σ8) _ _ _ _ (by rw [← Option.some.inj h]) (by rw [← Option.some.inj h]) nb1 dX9_strike_51 hP hS
    · have h := ite_f c4 h
      refine lv_iconst (v := 0) hx hb dX9_strike_23 (by decide) ?_
      exact hR (some (.int 0)) (wdX9 cI cZ cB ad σ) _ _ _ _ (by rw [← Option.some.inj h]) (by rw [← Option.some.inj h]) nb0 dX9_strike_24 hP hS
set_option maxHeartbeats 4000000 in
set_option maxRecDepth 100000 in
theorem mX9_strike (l : Launch) (D : va_G) (cI cZ cB : ClassId) (ad : Nat → Nat) (σ : Mem) (sz : Nat) (a1 : Int32) (res : Int32 × Mem) (h : X9_strike a1 σ = some res) : Met l yX9_strike wsX9_strike rmX9_strike (pW D cI cZ cB (wdX9 cI cZ cB ad σ) sz [.ref (ad 0), .int a1]) (qW D (some (.int res.1)) (wdX9 cI cZ cB ad res.2) (va_A (wdX9 cI cZ cB ad σ) sz)) 0 0 (va_A (wdX9 cI cZ cB ad σ) sz) := (bX9_strike l D cI cZ cB ad σ a1 res h).met (by decide +kernel) rfl (Nat.le_of_ble_eq_true rfl)
def rmX9_renumber (κ : Nat) : Room := { frames := 4, cells := κ, slots := κ, locals := 134 }
set_option maxHeartbeats 4000000 in
set_option maxRecDepth 100000 in
theorem bX9_renumber (l : Launch) (D : va_G) (cI cZ cB : ClassId) (ad : Nat → Nat) (σ : Mem) (a1 : Int32) (res : (Int32 × Mem) × Nat) (h : X9_renumber a1 σ = some res) : BG l yX9_renumber wsX9_renumber rmX9_renumber cX9_renumber 6 (some .boolean) D cI cZ cB (wdX9 cI cZ cB ad σ) [.ref (ad 0), .int a1] (some (.int res.1.1)) (fun adv => (wdX9 cI cZ cB (mg ad LH9 adv) res.1.2)) res.2 := by
  intro p e s m args below meth c ls Q A hx hb hml hts hown hK hA hP hD hS hl0 hR
  have hP : va_P D vwCl (wdX9 cI cZ cB (mg ad LH9 (mp ad LH9)) σ) s.heap := hP
  have hD : va_D A (wdX9 cI cZ cB (mg ad LH9 (mp ad LH9)) σ) := hD
  have hrf : res.1 = res.1 := rfl
  have hc : 0 + res.2 ≤ res.2 := by omega
  have hinX2 : ∀ w ∈ u_ws RX2 TX2 6, w ∈ wsX9_renumber := (fun _ h => List.mem_cons_of_mem _ (List.mem_append_left _ (List.mem_append_left _ (List.mem_append_left _ (List.mem_append_right _ h)))))
  have hinX3 : ∀ w ∈ u_ws RX3 TX3 7, w ∈ wsX9_renumber := (fun _ h => List.mem_cons_of_mem _ (List.mem_append_left _ (List.mem_append_left _ (List.mem_append_right _ h))))
  have hinX9 : ∀ w ∈ u_ws RX9 TX9 15, w ∈ wsX9_renumber := (fun _ h => List.mem_cons_of_mem _ (List.mem_append_left _ (List.mem_append_left _ (List.mem_append_left _ (List.mem_append_left _ (List.mem_append_right _ h))))))
  have fl1 := hts (.fieldLink RX9 46 "LawNumberer" "items" "LLawNumberer$Items;") (by decide +kernel)
  have fl2 := hts (.fieldLink RX9 108 "LawNumberer$Items" "size" "I") (by decide +kernel)
  have fl3 := hts (.fieldLink RX9 159 "LawNumberer$Items" "order" "[I") (by decide +kernel)
  have fl4 := hts (.fieldLink RX9 113 "LawNumberer$Items" "levels" "[I") (by decide +kernel)
  have fl5 := hts (.fieldLink RX9 162 "LawNumberer$Items" "under" "[I") (by decide +kernel)
  have fl6 := hts (.fieldLink RX9 151 "LawNumberer$Items" "struck" "[Z") (by decide +kernel)
  have fl7 := hts (.fieldLink RX9 53 "LawNumberer" "history" "LLawNumberer$History;") (by decide +kernel)
  have fl8 := hts (.fieldLink RX9 105 "LawNumberer" "today" "I") (by decide +kernel)
  have fl9 := hts (.fieldLink RX9 60 "LawNumberer" "acts" "LLawNumberer$Acts;") (by decide +kernel)
  have fl10 := hts (.fieldLink RX9 136 "LawNumberer$History" "size" "I") (by decide +kernel)
  have fl11 := hts (.fieldLink RX9 22 "LawNumberer" "scheme" "LLawNumberer$Levels;") (by decide +kernel)
  have hl : lv_has ls 6 [(0, .ref (ad 0)), (1, .int a1)] := hl0
  have n51 : ∀ (n : Nat) (x2 : Int32) (x3 : Int32) (x4 : Int32) (σ : Mem) (adv : Nat → Nat) (kc : Nat) (rr : (Int32 × Mem) × Nat) (H : Heap) (locs : List Loc), va_P D vwCl (wdX9 cI cZ cB (mg ad LH9 adv) σ) H → va_D A (wdX9 cI cZ cB (mg ad LH9 adv) σ) → va_S A s.heap H locs → ∀ (ls : Array Slot), lv_has ls 6 [(0, .ref (ad 0)), (1, .int a1), (2, .int x2), (3, .int x3), (4, .int x4)] → X9_renumber_51 a1 n x2 x3 x4 σ = some rr → rr.1 = res.1 → kc + rr.2 ≤ res.2 → W p l e (rmX9_renumber res.2) s m args below meth c H locs kc kc Q (F0 m 51 ls []) := by
    intro n
    induction n with
    | zero =>
      intro x2 x3 x4 σ adv kc rr H locs hP hD hS ls hl h hrf hc
      rw [X9_renumber_51] at h
      cases h
    | succ n_51 ih51 =>
      intro x2 x3 x4 σ adv kc rr H locs hP hD hS ls hl h hrf hc
      rw [X9_renumber_51] at h
      refine lv_iload hx hb dX9_renumber_51 (lv_at hl 4 rfl) ?_
      refine lv_aload_n hx hb dX9_renumber_53 rfl (lv_at hl 0 rfl) ?_
      refine va_get (ci := 7) (v := .ref (ad 15)) (C := RX9) (T := TX9) (N := 15) hx hb hts hinX9 hown hK hP 0 rfl rfl 6 (by decide) fl1 (fun _ h9 => h9) rfl dX9_renumber_54 ?_
      refine va_get (ci := 2) (v := .int (σ 15 5)) (C := RX3) (T := TX3) (N := 7) hx hb hts hinX3 hown hK hP 15 rfl rfl 5 (by decide) fl2 (fun _ h9 => h9) rfl dX9_renumber_57 ?_
      refine lv_icmp_ge (tgt := 165) hx hb dX9_renumber_60 (by decide) (fun c1 => ?_) (fun c1 => ?_)
      · have h := ite_t c1 h
        refine lv_iconst (v := 1) hx hb dX9_renumber_165 (by decide) ?_
        have hfin : (1, σ) = res.1 := (congrArg Prod.fst (Option.some.inj h)).trans hrf
        exact hR (some (.int 1)) adv _ _ _ _ _ _ (by rw [← hfin]) (by first | (rw [← hfin]; done) | (rw [← hfin]; rfl)) nb1 dX9_renumber_166 hP hD hS (by omega)
      · have h := ite_f c1 h
        refine lv_aload_n hx hb dX9_renumber_63 rfl (lv_at hl 0 rfl) ?_
        refine va_get (ci := 7) (v := .ref (ad 15)) (C := RX9) (T := TX9) (N := 15) hx hb hts hinX9 hown hK hP 0 rfl rfl 6 (by decide) fl1 (fun _ h9 => h9) rfl dX9_renumber_64 ?_
        refine va_get (ci := 2) (v := .ref (ad 20)) (C := RX3) (T := TX3) (N := 7) hx hb hts hinX3 hown hK hP 15 rfl rfl 4 (by decide) fl3 (fun _ h9 => h9) rfl dX9_renumber_67 ?_
        refine lv_iload hx hb dX9_renumber_70 (lv_at hl 4 rfl) ?_
        obtain ⟨hin2, h⟩ := gd_e h
        refine va_iald hx hb hK hP 20 0 rfl rfl hin2 dX9_renumber_72 ?_
        obtain ⟨x5_3, ex5_3, h⟩ := lt_e h
        refine lv_topE ex5_3 ?_
        refine lv_istore (lv' := [(5, .int x5_3), (0, .ref (ad 0)), (1, .int a1), (2, .int x2), (3, .int x3), (4, .int x4)]) hx hb dX9_renumber_73 hl (by decide) rfl (fun ls hl => ?_)
        refine lv_aload_n hx hb dX9_renumber_75 rfl (lv_at hl 1 rfl) ?_
        refine va_get (ci := 7) (v := .ref (ad 15)) (C := RX9) (T := TX9) (N := 15) hx hb hts hinX9 hown hK hP 0 rfl rfl 6 (by decide) fl1 (fun _ h9 => h9) rfl dX9_renumber_76 ?_
        refine lv_iload hx hb dX9_renumber_79 (lv_at hl 0 rfl) ?_
        refine lv_aload_n hx hb dX9_renumber_81 rfl (lv_at hl 1 rfl) ?_
        refine va_get (ci := 7) (v := .ref (ad 15)) (C := RX9) (T := TX9) (N := 15) hx hb hts hinX9 hown hK hP 0 rfl rfl 6 (by decide) fl1 (fun _ h9 => h9) rfl dX9_renumber_82 ?_
        refine va_get (ci := 2) (v := .ref (ad 16)) (C := RX3) (T := TX3) (N := 7) hx hb hts hinX3 hown hK hP 15 rfl rfl 0 (by decide) fl4 (fun _ h9 => h9) rfl dX9_renumber_85 ?_
        refine lv_iload_n hx hb dX9_renumber_88 rfl (lv_at hl 2 rfl) ?_
        obtain ⟨hin4, h⟩ := gd_e h
        refine va_iald hx hb hK hP 16 0 rfl rfl hin4 dX9_renumber_89 ?_
        refine lv_aload_n hx hb dX9_renumber_90 rfl (lv_at hl 1 rfl) ?_
        refine va_get (ci := 7) (v := .ref (ad 15)) (C := RX9) (T := TX9) (N := 15) hx hb hts hinX9 hown hK hP 0 rfl rfl 6 (by decide) fl1 (fun _ h9 => h9) rfl dX9_renumber_91 ?_
        refine va_get (ci := 2) (v := .ref (ad 17)) (C := RX3) (T := TX3) (N := 7) hx hb hts hinX3 hown hK hP 15 rfl rfl 1 (by decide) fl5 (fun _ h9 => h9) rfl dX9_renumber_94 ?_
        refine lv_iload_n hx hb dX9_renumber_97 rfl (lv_at hl 2 rfl) ?_
        obtain ⟨hin5, h⟩ := gd_e h
        refine va_iald hx hb hK hP 17 0 rfl rfl hin5 dX9_renumber_98 ?_
        refine lv_iload_n hx hb dX9_renumber_99 rfl (lv_at hl 3 rfl) ?_
        obtain ⟨r6, hr6, h⟩ := bd_e h
        refine cl_RV (rest := []) (ci := 2) (q0 := 0) ⟨hx, hb, hml, hown, hts⟩ (mX3_isInRow l D cI cZ cB (mp (mg ad LH9 adv) [15, 16, 17, 18, 19, 20]) (mp σ [15, 16, 17, 18, 19, 20]) x5_3 (σ 16 (Int32.toNatClampNeg a1)) (σ 17 (Int32.toNatClampNeg a1)) x2 r6 hr6) (cwV 4 hts gX9_renumber_X3_isInRow rfl rfl rfl (by decide +kernel) ⟨Nat.le_of_ble_eq_true rfl, Nat.le_of_ble_eq_true rfl⟩) hK (hP.sub (ws' := wdX3 cI cZ cB (mp (mg ad LH9 adv) [15, 16, 17, 18, 19, 20]) (mp σ [15, 16, 17, 18, 19, 20])) [15, 16, 17, 18, 19, 20] rfl) rfl rfl rfl rfl hl.1 rfl (Nat.le_of_ble_eq_true rfl) dX9_renumber_100 ⟨by show _ ≤ res.2; omega, by show _ ≤ res.2; omega⟩ ?_
        refine W.eq (g2 := F0 m 103 ls [.int r6]) rfl ?_
        refine lv_if_ne (tgt := 109) hx hb dX9_renumber_103 (by decide) (fun c7 => ?_) (fun c7 => ?_)
        · have h := ite_f c7 h
          refine lv_aload_n hx hb dX9_renumber_109 rfl (lv_at hl 1 rfl) ?_
          refine va_get (ci := 7) (v := .ref (ad 15)) (C := RX9) (T := TX9) (N := 15) hx hb hts hinX9 hown hK hP 0 rfl rfl 6 (by decide) fl1 (fun _ h9 => h9) rfl dX9_renumber_110 ?_
          refine va_get (ci := 2) (v := .ref (ad 19)) (C := RX3) (T := TX3) (N := 7) hx hb hts hinX3 hown hK hP 15 rfl rfl 3 (by decide) fl6 (fun _ h9 => h9) rfl dX9_renumber_113 ?_
          refine lv_iload hx hb dX9_renumber_116 (lv_at hl 0 rfl) ?_
          obtain ⟨hin8, h⟩ := gd_e h
          refine va_zald hx hb hK hP 19 1 rfl rfl hin8 dX9_renumber_118 ?_
          refine lv_if_eq (tgt := 139) hx hb dX9_renumber_119 (by decide) (fun c9 => ?_) (fun c9 => ?_)
          · have h := ite_t c9 h
            obtain ⟨x3_10, ex3_10, h⟩ := lt_e h
            refine lv_iinc (v := x3_10) (lv' := [(3, .int x3_10), (5, .int x5_3), (0, .ref (ad 0)), (1, .int a1), (2, .int x2), (4, .int x4)]) hx hb dX9_renumber_139 hl (k := 4) rfl (by rw [ex3_10]; rfl) (by decide) rfl (fun ls hl => ?_)
            refine lv_aload_n hx hb dX9_renumber_142 rfl (lv_at hl 2 rfl) ?_
            refine va_get (ci := 7) (v := .ref (ad 21)) (C := RX9) (T := TX9) (N := 15) hx hb hts hinX9 hown hK hP 0 rfl rfl 7 (by decide) fl7 (fun _ h9 => h9) rfl dX9_renumber_143 ?_
            refine lv_iload hx hb dX9_renumber_146 (lv_at hl 1 rfl) ?_
            refine lv_aload_n hx hb dX9_renumber_148 rfl (lv_at hl 2 rfl) ?_
            refine va_get (ci := 7) (v := .int (σ 0 10)) (C := RX9) (T := TX9) (N := 15) hx hb hts hinX9 hown hK hP 0 rfl rfl 10 (by decide) fl8 (fun _ h9 => h9) rfl dX9_renumber_149 ?_
            refine lv_iload_n hx hb dX9_renumber_152 rfl (lv_at hl 0 rfl) ?_
            obtain ⟨r11, hr11, h⟩ := bd_e h
            refine cl_RS (rest := [.int (σ 0 10), .int x5_3, .ref (ad 21)]) ⟨hx, hb, hml, hown, hts⟩ (mX5_plain l D cI cZ cB x3_10 r11 hr11) (va_cwS 1 hts gX9_renumber_X5_plain rfl rfl rfl (by decide +kernel) ⟨Nat.le_of_ble_eq_true rfl, Nat.le_of_ble_eq_true rfl⟩) hK wd0_P rfl hl.1 rfl (Nat.le_of_ble_eq_true rfl) dX9_renumber_153 ⟨by show _ ≤ res.2; omega, by show _ ≤ res.2; omega⟩ ?_
            refine W.eq (g2 := F0 m 156 ls [.int r11, .int (σ 0 10), .int x5_3, .ref (ad 21)]) rfl ?_
            obtain ⟨r12, hr12, h⟩ := bd_e h
            obtain ⟨rr14, h, hfrr14, hkrr14⟩ := kad_e h
            have hrf := hfrr14.symm.trans hrf
            have hc : kc + r12.2 + rr14.2 ≤ res.2 := by omega
            obtain ⟨σ13, eσ13, h⟩ := lt_e h
            refine cl_GV (rest := []) (wn := (fun adv => (wdX9 cI cZ cB (mg ad LH9 adv) σ13))) (lp := [21, 22, 23, 24, 25, 26]) (ci := 1) (q0 := 0) ⟨hx, hb, hml, hown, hts⟩ (mX2_give l D cI cZ cB (mp (mg ad LH9 adv) [21, 22, 23, 24, 25, 26]) (mp σ [21, 22, 23, 24, 25, 26, 32]) H.size x5_3 (σ 0 10) r11 r12 hr12) (cwV 3 hts gX9_renumber_X2_give rfl rfl rfl (by decide +kernel) ⟨Nat.le_of_ble_eq_true rfl, Nat.le_of_ble_eq_true rfl⟩) hK hP hD hS hA rfl rfl (fun _ => rfl) (fun _ => by rw [eσ13]; rfl) rfl rfl rfl rfl hl.1 rfl (Nat.le_of_ble_eq_true rfl) dX9_renumber_156 ⟨by show _ ≤ res.2; omega, by show _ ≤ res.2; omega⟩ (fun adv15 H locs hP hD hS => ?_)
            have hP : va_P D vwCl (wdX9 cI cZ cB (mg ad LH9 adv15) σ13) H := hP
            have hD : va_D A (wdX9 cI cZ cB (mg ad LH9 adv15) σ13) := hD
            refine W.eq (g2 := F0 m 159 ls []) rfl ?_
            obtain ⟨x4_16, ex4_16, h⟩ := lt_e h
            refine lv_iinc (v := x4_16) (lv' := [(4, .int x4_16), (3, .int x3_10), (5, .int x5_3), (0, .ref (ad 0)), (1, .int a1), (2, .int x2)]) hx hb dX9_renumber_159 hl (k := 5) rfl (by rw [ex4_16]; rfl) (by decide) rfl (fun ls hl => ?_)
            refine lv_goto (tgt := 51) hx hb dX9_renumber_162 (by decide) ?_
            exact ih51 x2 x3_10 x4_16 σ13 adv15 (kc + r12.2) rr14 _ _ hP hD hS _ (lv_sub hl [3, 4, 5, 1, 0] rfl) h hrf hc
          · have h := ite_f c9 h
            refine lv_aload_n hx hb dX9_renumber_122 rfl (lv_at hl 1 rfl) ?_
            refine va_get (ci := 7) (v := .ref (ad 21)) (C := RX9) (T := TX9) (N := 15) hx hb hts hinX9 hown hK hP 0 rfl rfl 7 (by decide) fl7 (fun _ h9 => h9) rfl dX9_renumber_123 ?_
            refine lv_iload hx hb dX9_renumber_126 (lv_at hl 0 rfl) ?_
            refine lv_aload_n hx hb dX9_renumber_128 rfl (lv_at hl 1 rfl) ?_
            refine va_get (ci := 7) (v := .int (σ 0 10)) (C := RX9) (T := TX9) (N := 15) hx hb hts hinX9 hown hK hP 0 rfl rfl 10 (by decide) fl8 (fun _ h9 => h9) rfl dX9_renumber_129 ?_
            refine lv_iconst (v := 0) hx hb dX9_renumber_132 (by decide) ?_
            obtain ⟨r17, hr17, h⟩ := bd_e h
            obtain ⟨rr19, h, hfrr19, hkrr19⟩ := kad_e h
            have hrf := hfrr19.symm.trans hrf
            have hc : kc + r17.2 + rr19.2 ≤ res.2 := by omega
            obtain ⟨σ18, eσ18, h⟩ := lt_e h
            refine cl_GV (rest := []) (wn := (fun adv => (wdX9 cI cZ cB (mg ad LH9 adv) σ18))) (lp := [21, 22, 23, 24, 25, 26]) (ci := 1) (q0 := 0) ⟨hx, hb, hml, hown, hts⟩ (mX2_give l D cI cZ cB (mp (mg ad LH9 adv) [21, 22, 23, 24, 25, 26]) (mp σ [21, 22, 23, 24, 25, 26, 32]) H.size x5_3 (σ 0 10) 0 r17 hr17) (cwV 3 hts gX9_renumber_X2_give rfl rfl rfl (by decide +kernel) ⟨Nat.le_of_ble_eq_true rfl, Nat.le_of_ble_eq_true rfl⟩) hK hP hD hS hA rfl rfl (fun _ => rfl) (fun _ => by rw [eσ18]; rfl) rfl rfl rfl rfl hl.1 rfl (Nat.le_of_ble_eq_true rfl) dX9_renumber_133 ⟨by show _ ≤ res.2; omega, by show _ ≤ res.2; omega⟩ (fun adv20 H locs hP hD hS => ?_)
            have hP : va_P D vwCl (wdX9 cI cZ cB (mg ad LH9 adv20) σ18) H := hP
            have hD : va_D A (wdX9 cI cZ cB (mg ad LH9 adv20) σ18) := hD
            refine W.eq (g2 := F0 m 136 ls []) rfl ?_
            refine lv_goto (tgt := 159) hx hb dX9_renumber_136 (by decide) ?_
            obtain ⟨x4_21, ex4_21, h⟩ := lt_e h
            refine lv_iinc (v := x4_21) (lv' := [(4, .int x4_21), (5, .int x5_3), (0, .ref (ad 0)), (1, .int a1), (2, .int x2), (3, .int x3)]) hx hb dX9_renumber_159 hl (k := 5) rfl (by rw [ex4_21]; rfl) (by decide) rfl (fun ls hl => ?_)
            refine lv_goto (tgt := 51) hx hb dX9_renumber_162 (by decide) ?_
            exact ih51 x2 x3 x4_21 σ18 adv20 (kc + r17.2) rr19 _ _ hP hD hS _ (lv_sub hl [2, 3, 4, 5, 0] rfl) h hrf hc
        · have h := ite_t c7 h
          refine lv_goto (tgt := 159) hx hb dX9_renumber_106 (by decide) ?_
          obtain ⟨x4_22, ex4_22, h⟩ := lt_e h
          refine lv_iinc (v := x4_22) (lv' := [(4, .int x4_22), (5, .int x5_3), (0, .ref (ad 0)), (1, .int a1), (2, .int x2), (3, .int x3)]) hx hb dX9_renumber_159 hl (k := 5) rfl (by rw [ex4_22]; rfl) (by decide) rfl (fun ls hl => ?_)
          refine lv_goto (tgt := 51) hx hb dX9_renumber_162 (by decide) ?_
          exact ih51 x2 x3 x4_22 σ adv kc rr _ _ hP hD hS _ (lv_sub hl [2, 3, 4, 5, 0] rfl) h hrf hc
  rw [X9_renumber] at h
  have hS := hS
  refine lv_aload_n hx hb dX9_renumber_0 rfl (lv_at hl 0 rfl) ?_
  refine va_get (ci := 7) (v := .ref (ad 15)) (C := RX9) (T := TX9) (N := 15) hx hb hts hinX9 hown hK hP 0 rfl rfl 6 (by decide) fl1 (fun _ h9 => h9) rfl dX9_renumber_1 ?_
  refine lv_iload_n hx hb dX9_renumber_4 rfl (lv_at hl 1 rfl) ?_
  obtain ⟨r23, hr23, h⟩ := bd_e h
  refine cl_RV (rest := []) (ci := 2) (q0 := 0) ⟨hx, hb, hml, hown, hts⟩ (mX3_has l D cI cZ cB (mp (mg ad LH9 (mp ad LH9)) [15, 16, 17, 18, 19, 20]) (mp σ [15, 16, 17, 18, 19, 20]) a1 r23 hr23) (cwV 1 hts gX9_renumber_X3_has rfl rfl rfl (by decide +kernel) ⟨Nat.le_of_ble_eq_true rfl, Nat.le_of_ble_eq_true rfl⟩) hK (hP.sub (ws' := wdX3 cI cZ cB (mp (mg ad LH9 (mp ad LH9)) [15, 16, 17, 18, 19, 20]) (mp σ [15, 16, 17, 18, 19, 20])) [15, 16, 17, 18, 19, 20] rfl) rfl rfl rfl rfl hl.1 rfl (Nat.le_of_ble_eq_true rfl) dX9_renumber_5 ⟨by show _ ≤ res.2; omega, by show _ ≤ res.2; omega⟩ ?_
  refine W.eq (g2 := F0 m 8 ls [.int r23]) rfl ?_
  refine lv_if_ne (tgt := 13) hx hb dX9_renumber_8 (by decide) (fun c24 => ?_) (fun c24 => ?_)
  · have h := ite_f c24 h
    refine lv_aload_n hx hb dX9_renumber_13 rfl (lv_at hl 0 rfl) ?_
    refine va_get (ci := 7) (v := .ref (ad 27)) (C := RX9) (T := TX9) (N := 15) hx hb hts hinX9 hown hK hP 0 rfl rfl 8 (by decide) fl9 (fun _ h9 => h9) rfl dX9_renumber_14 ?_
    refine lv_iconst (v := 3) hx hb dX9_renumber_17 (by decide) ?_
    refine lv_iload_n hx hb dX9_renumber_18 rfl (lv_at hl 1 rfl) ?_
    refine lv_aload_n hx hb dX9_renumber_19 rfl (lv_at hl 0 rfl) ?_
    refine va_get (ci := 7) (v := .ref (ad 21)) (C := RX9) (T := TX9) (N := 15) hx hb hts hinX9 hown hK hP 0 rfl rfl 7 (by decide) fl7 (fun _ h9 => h9) rfl dX9_renumber_20 ?_
    refine va_get (ci := 1) (v := .int (σ 21 5)) (C := RX2) (T := TX2) (N := 6) hx hb hts hinX2 hown hK hP 21 rfl rfl 5 (by decide) fl10 (fun _ h9 => h9) rfl dX9_renumber_23 ?_
    obtain ⟨r25, hr25, h⟩ := bd_e h
    obtain ⟨σ26, eσ26, h⟩ := lt_e h
    refine cl_WV (rest := []) (wn := (wdX9 cI cZ cB (mg ad LH9 (mp ad LH9)) σ26)) (lp := [27, 28, 29, 30]) (ci := 0) (q0 := 0) ⟨hx, hb, hml, hown, hts⟩ (mX0_open l D cI cZ cB (mp (mg ad LH9 (mp ad LH9)) [27, 28, 29, 30]) (mp σ [27, 28, 29, 30]) s.heap.size 3 a1 (σ 21 5) r25 hr25) (cwV 3 hts gX9_renumber_X0_open rfl rfl rfl (by decide +kernel) ⟨Nat.le_of_ble_eq_true rfl, Nat.le_of_ble_eq_true rfl⟩) hK hP hD hS hA rfl rfl rfl (by rw [eσ26]; rfl) rfl rfl rfl rfl rfl hl.1 rfl (Nat.le_of_ble_eq_true rfl) dX9_renumber_26 ⟨by show _ ≤ res.2; omega, by show _ ≤ res.2; omega⟩ (fun H locs hP hD hS => ?_)
    refine W.eq (g2 := F0 m 29 ls []) rfl ?_
    refine lv_aload_n hx hb dX9_renumber_29 rfl (lv_at hl 0 rfl) ?_
    refine va_get (ci := 7) (v := .ref (ad 5)) (C := RX9) (T := TX9) (N := 15) hx hb hts hinX9 hown hK hP 0 rfl rfl 2 (by decide) fl11 (fun _ h9 => h9) rfl dX9_renumber_30 ?_
    refine lv_aload_n hx hb dX9_renumber_33 rfl (lv_at hl 0 rfl) ?_
    refine va_get (ci := 7) (v := .ref (ad 15)) (C := RX9) (T := TX9) (N := 15) hx hb hts hinX9 hown hK hP 0 rfl rfl 6 (by decide) fl1 (fun _ h9 => h9) rfl dX9_renumber_34 ?_
    refine va_get (ci := 2) (v := .ref (ad 16)) (C := RX3) (T := TX3) (N := 7) hx hb hts hinX3 hown hK hP 15 rfl rfl 0 (by decide) fl4 (fun _ h9 => h9) rfl dX9_renumber_37 ?_
    refine lv_iload_n hx hb dX9_renumber_40 rfl (lv_at hl 1 rfl) ?_
    obtain ⟨hin27, h⟩ := gd_e h
    refine va_iald hx hb hK hP 16 0 rfl rfl hin27 dX9_renumber_41 ?_
    obtain ⟨r28, hr28, h⟩ := bd_e h
    refine cl_RV (rest := []) (ci := 4) (q0 := 0) ⟨hx, hb, hml, hown, hts⟩ (mX6_isThrough l D cI cZ cB (mp (mg ad LH9 (mp ad LH9)) [5, 6, 7]) (mp σ26 [5, 6, 7]) (σ26 16 (Int32.toNatClampNeg a1)) r28 hr28) (cwV 1 hts gX9_renumber_X6_isThrough rfl rfl rfl (by decide +kernel) ⟨Nat.le_of_ble_eq_true rfl, Nat.le_of_ble_eq_true rfl⟩) hK (hP.sub (ws' := wdX6 cI cZ cB (mp (mg ad LH9 (mp ad LH9)) [5, 6, 7]) (mp σ26 [5, 6, 7])) [5, 6, 7] rfl) rfl rfl rfl rfl hl.1 rfl (Nat.le_of_ble_eq_true rfl) dX9_renumber_42 ⟨by show _ ≤ res.2; omega, by show _ ≤ res.2; omega⟩ ?_
    refine W.eq (g2 := F0 m 45 ls [.int r28]) rfl ?_
    refine lv_istore_n (lv' := [(2, .int r28), (0, .ref (ad 0)), (1, .int a1)]) hx hb dX9_renumber_45 rfl hl (by decide) rfl (fun ls hl => ?_)
    refine lv_iconst (v := 0) hx hb dX9_renumber_46 (by decide) ?_
    refine lv_istore_n (lv' := [(3, .int 0), (2, .int r28), (0, .ref (ad 0)), (1, .int a1)]) hx hb dX9_renumber_47 rfl hl (by decide) rfl (fun ls hl => ?_)
    refine lv_iconst (v := 0) hx hb dX9_renumber_48 (by decide) ?_
    refine lv_istore (lv' := [(4, .int 0), (3, .int 0), (2, .int r28), (0, .ref (ad 0)), (1, .int a1)]) hx hb dX9_renumber_49 hl (by decide) rfl (fun ls hl => ?_)
    exact n51 FU r28 0 0 σ26 (mp ad LH9) 0 res _ _ hP hD hS _ (lv_sub hl [3, 4, 2, 1, 0] rfl) h hrf hc
  · have h := ite_t c24 h
    refine lv_iconst (v := 0) hx hb dX9_renumber_11 (by decide) ?_
    have hfin : (0, σ) = res.1 := (congrArg Prod.fst (Option.some.inj h)).trans hrf
    exact hR (some (.int 0)) (mp ad LH9) _ _ _ _ _ _ (by rw [← hfin]) (by first | (rw [← hfin]; done) | (rw [← hfin]; rfl)) nb0 dX9_renumber_12 hP hD hS (by omega)
set_option maxHeartbeats 4000000 in
set_option maxRecDepth 100000 in
theorem mX9_renumber (l : Launch) (D : va_G) (cI cZ cB : ClassId) (ad : Nat → Nat) (σ : Mem) (sz : Nat) (a1 : Int32) (res : (Int32 × Mem) × Nat) (h : X9_renumber a1 σ = some res) : Met l yX9_renumber wsX9_renumber (rmX9_renumber res.2) (pW D cI cZ cB (wdX9 cI cZ cB ad σ) sz [.ref (ad 0), .int a1]) (qG D (some (.int res.1.1)) (fun adv => (wdX9 cI cZ cB (mg ad LH9 adv) res.1.2)) (va_A (wdX9 cI cZ cB ad σ) sz)) res.2 res.2 (va_A (wdX9 cI cZ cB ad σ) sz) := (bX9_renumber l D cI cZ cB ad σ a1 res h).met (by decide +kernel) rfl (Nat.le_of_ble_eq_true rfl)
def rmX9_error (κ : Nat) : Room := { frames := 4, cells := κ, slots := κ, locals := 134 }
set_option maxHeartbeats 4000000 in
set_option maxRecDepth 100000 in
theorem bX9_error (l : Launch) (D : va_G) (cI cZ cB : ClassId) (ad : Nat → Nat) (σ : Mem) (a1 : Int32) (a2 : Int32) (a3 : Int32) (res : (Int32 × Mem) × Nat) (h : X9_error a1 a2 a3 σ = some res) : BG l yX9_error wsX9_error rmX9_error cX9_error 5 (some .boolean) D cI cZ cB (wdX9 cI cZ cB ad σ) [.ref (ad 0), .int a1, .int a2, .int a3] (some (.int res.1.1)) (fun adv => (wdX9 cI cZ cB (mg ad LH9 adv) res.1.2)) res.2 := by
  intro p e s m args below meth c ls Q A hx hb hml hts hown hK hA hP hD hS hl0 hR
  have hP : va_P D vwCl (wdX9 cI cZ cB (mg ad LH9 (mp ad LH9)) σ) s.heap := hP
  have hD : va_D A (wdX9 cI cZ cB (mg ad LH9 (mp ad LH9)) σ) := hD
  have hrf : res.1 = res.1 := rfl
  have hc : 0 + res.2 ≤ res.2 := by omega
  have hinX2 : ∀ w ∈ u_ws RX2 TX2 6, w ∈ wsX9_error := (fun _ h => List.mem_cons_of_mem _ (List.mem_append_left _ (List.mem_append_left _ (List.mem_append_right _ h))))
  have hinX9 : ∀ w ∈ u_ws RX9 TX9 15, w ∈ wsX9_error := (fun _ h => List.mem_cons_of_mem _ (List.mem_append_left _ (List.mem_append_left _ (List.mem_append_left _ (List.mem_append_right _ h)))))
  have fl1 := hts (.fieldLink RX9 46 "LawNumberer" "items" "LLawNumberer$Items;") (by decide +kernel)
  have fl2 := hts (.fieldLink RX9 60 "LawNumberer" "acts" "LLawNumberer$Acts;") (by decide +kernel)
  have fl3 := hts (.fieldLink RX9 53 "LawNumberer" "history" "LLawNumberer$History;") (by decide +kernel)
  have fl4 := hts (.fieldLink RX9 136 "LawNumberer$History" "size" "I") (by decide +kernel)
  have fl5 := hts (.fieldLink RX9 105 "LawNumberer" "today" "I") (by decide +kernel)
  have hl : lv_has ls 5 [(0, .ref (ad 0)), (1, .int a1), (2, .int a2), (3, .int a3)] := hl0
  rw [X9_error] at h
  have hS := hS
  refine lv_iload_n hx hb dX9_error_0 rfl (lv_at hl 2 rfl) ?_
  obtain ⟨r1, hr1, h⟩ := bd_e h
  refine cl_RS (rest := []) ⟨hx, hb, hml, hown, hts⟩ (mX5_plain l D cI cZ cB a2 r1 hr1) (va_cwS 1 hts gX9_error_X5_plain rfl rfl rfl (by decide +kernel) ⟨Nat.le_of_ble_eq_true rfl, Nat.le_of_ble_eq_true rfl⟩) hK wd0_P rfl hl.1 rfl (Nat.le_of_ble_eq_true rfl) dX9_error_1 ⟨by show _ ≤ res.2; omega, by show _ ≤ res.2; omega⟩ ?_
  refine W.eq (g2 := F0 m 4 ls [.int r1]) rfl ?_
  refine lv_iload_n hx hb dX9_error_4 rfl (lv_at hl 3 rfl) ?_
  obtain ⟨r2, hr2, h⟩ := bd_e h
  refine cl_RS (rest := []) ⟨hx, hb, hml, hown, hts⟩ (mX5_withSuffix l D cI cZ cB r1 a3 r2 hr2) (va_cwS 2 hts gX9_error_X5_withSuffix rfl rfl rfl (by decide +kernel) ⟨Nat.le_of_ble_eq_true rfl, Nat.le_of_ble_eq_true rfl⟩) hK wd0_P rfl hl.1 rfl (Nat.le_of_ble_eq_true rfl) dX9_error_5 ⟨by show _ ≤ res.2; omega, by show _ ≤ res.2; omega⟩ ?_
  refine W.eq (g2 := F0 m 8 ls [.int r2]) rfl ?_
  refine lv_istore (lv' := [(4, .int r2), (0, .ref (ad 0)), (1, .int a1), (2, .int a2), (3, .int a3)]) hx hb dX9_error_8 hl (by decide) rfl (fun ls hl => ?_)
  refine lv_aload_n hx hb dX9_error_10 rfl (lv_at hl 1 rfl) ?_
  refine va_get (ci := 7) (v := .ref (ad 15)) (C := RX9) (T := TX9) (N := 15) hx hb hts hinX9 hown hK hP 0 rfl rfl 6 (by decide) fl1 (fun _ h9 => h9) rfl dX9_error_11 ?_
  refine lv_iload_n hx hb dX9_error_14 rfl (lv_at hl 2 rfl) ?_
  obtain ⟨r3, hr3, h⟩ := bd_e h
  refine cl_RV (rest := []) (ci := 2) (q0 := 0) ⟨hx, hb, hml, hown, hts⟩ (mX3_has l D cI cZ cB (mp (mg ad LH9 (mp ad LH9)) [15, 16, 17, 18, 19, 20]) (mp σ [15, 16, 17, 18, 19, 20]) a1 r3 hr3) (cwV 1 hts gX9_error_X3_has rfl rfl rfl (by decide +kernel) ⟨Nat.le_of_ble_eq_true rfl, Nat.le_of_ble_eq_true rfl⟩) hK (hP.sub (ws' := wdX3 cI cZ cB (mp (mg ad LH9 (mp ad LH9)) [15, 16, 17, 18, 19, 20]) (mp σ [15, 16, 17, 18, 19, 20])) [15, 16, 17, 18, 19, 20] rfl) rfl rfl rfl rfl hl.1 rfl (Nat.le_of_ble_eq_true rfl) dX9_error_15 ⟨by show _ ≤ res.2; omega, by show _ ≤ res.2; omega⟩ ?_
  refine W.eq (g2 := F0 m 18 ls [.int r3]) rfl ?_
  refine lv_if_eq (tgt := 26) hx hb dX9_error_18 (by decide) (fun c4 => ?_) (fun c4 => ?_)
  · have h := ite_t c4 h
    refine lv_iconst (v := 0) hx hb dX9_error_26 (by decide) ?_
    have hfin : (0, σ) = res.1 := (congrArg Prod.fst (Option.some.inj h)).trans hrf
    exact hR (some (.int 0)) (mp ad LH9) _ _ _ _ _ _ (by rw [← hfin]) (by first | (rw [← hfin]; done) | (rw [← hfin]; rfl)) nb0 dX9_error_27 hP hD hS (by omega)
  · have h := ite_f c4 h
    refine lv_iload hx hb dX9_error_21 (lv_at hl 0 rfl) ?_
    refine lv_if_ne (tgt := 28) hx hb dX9_error_23 (by decide) (fun c5 => ?_) (fun c5 => ?_)
    · have h := ite_f c5 h
      refine lv_aload_n hx hb dX9_error_28 rfl (lv_at hl 1 rfl) ?_
      refine va_get (ci := 7) (v := .ref (ad 27)) (C := RX9) (T := TX9) (N := 15) hx hb hts hinX9 hown hK hP 0 rfl rfl 8 (by decide) fl2 (fun _ h9 => h9) rfl dX9_error_29 ?_
      refine lv_iconst (v := 3) hx hb dX9_error_32 (by decide) ?_
      refine lv_iload_n hx hb dX9_error_33 rfl (lv_at hl 2 rfl) ?_
      refine lv_aload_n hx hb dX9_error_34 rfl (lv_at hl 1 rfl) ?_
      refine va_get (ci := 7) (v := .ref (ad 21)) (C := RX9) (T := TX9) (N := 15) hx hb hts hinX9 hown hK hP 0 rfl rfl 7 (by decide) fl3 (fun _ h9 => h9) rfl dX9_error_35 ?_
      refine va_get (ci := 1) (v := .int (σ 21 5)) (C := RX2) (T := TX2) (N := 6) hx hb hts hinX2 hown hK hP 21 rfl rfl 5 (by decide) fl4 (fun _ h9 => h9) rfl dX9_error_38 ?_
      obtain ⟨r6, hr6, h⟩ := bd_e h
      obtain ⟨σ7, eσ7, h⟩ := lt_e h
      refine cl_WV (rest := []) (wn := (wdX9 cI cZ cB (mg ad LH9 (mp ad LH9)) σ7)) (lp := [27, 28, 29, 30]) (ci := 0) (q0 := 0) ⟨hx, hb, hml, hown, hts⟩ (mX0_open l D cI cZ cB (mp (mg ad LH9 (mp ad LH9)) [27, 28, 29, 30]) (mp σ [27, 28, 29, 30]) s.heap.size 3 a1 (σ 21 5) r6 hr6) (cwV 3 hts gX9_error_X0_open rfl rfl rfl (by decide +kernel) ⟨Nat.le_of_ble_eq_true rfl, Nat.le_of_ble_eq_true rfl⟩) hK hP hD hS hA rfl rfl rfl (by rw [eσ7]; rfl) rfl rfl rfl rfl rfl hl.1 rfl (Nat.le_of_ble_eq_true rfl) dX9_error_41 ⟨by show _ ≤ res.2; omega, by show _ ≤ res.2; omega⟩ (fun H locs hP hD hS => ?_)
      refine W.eq (g2 := F0 m 44 ls []) rfl ?_
      refine lv_aload_n hx hb dX9_error_44 rfl (lv_at hl 1 rfl) ?_
      refine va_get (ci := 7) (v := .ref (ad 21)) (C := RX9) (T := TX9) (N := 15) hx hb hts hinX9 hown hK hP 0 rfl rfl 7 (by decide) fl3 (fun _ h9 => h9) rfl dX9_error_45 ?_
      refine lv_iload_n hx hb dX9_error_48 rfl (lv_at hl 2 rfl) ?_
      refine lv_aload_n hx hb dX9_error_49 rfl (lv_at hl 1 rfl) ?_
      refine va_get (ci := 7) (v := .int (σ7 0 10)) (C := RX9) (T := TX9) (N := 15) hx hb hts hinX9 hown hK hP 0 rfl rfl 10 (by decide) fl5 (fun _ h9 => h9) rfl dX9_error_50 ?_
      refine lv_iload hx hb dX9_error_53 (lv_at hl 0 rfl) ?_
      obtain ⟨r8, hr8, h⟩ := bd_e h
      obtain ⟨rr10, h, hfrr10, hkrr10⟩ := kad_e h
      have hrf := hfrr10.symm.trans hrf
      have hc : 0 + r8.2 + rr10.2 ≤ res.2 := by omega
      obtain ⟨σ9, eσ9, h⟩ := lt_e h
      refine cl_GV (rest := []) (wn := (fun adv => (wdX9 cI cZ cB (mg ad LH9 adv) σ9))) (lp := [21, 22, 23, 24, 25, 26]) (ci := 1) (q0 := 0) ⟨hx, hb, hml, hown, hts⟩ (mX2_give l D cI cZ cB (mp (mg ad LH9 (mp ad LH9)) [21, 22, 23, 24, 25, 26]) (mp σ7 [21, 22, 23, 24, 25, 26, 32]) H.size a1 (σ7 0 10) r2 r8 hr8) (cwV 3 hts gX9_error_X2_give rfl rfl rfl (by decide +kernel) ⟨Nat.le_of_ble_eq_true rfl, Nat.le_of_ble_eq_true rfl⟩) hK hP hD hS hA rfl rfl (fun _ => rfl) (fun _ => by rw [eσ9]; rfl) rfl rfl rfl rfl hl.1 rfl (Nat.le_of_ble_eq_true rfl) dX9_error_55 ⟨by show _ ≤ res.2; omega, by show _ ≤ res.2; omega⟩ (fun adv11 H locs hP hD hS => ?_)
      have hP : va_P D vwCl (wdX9 cI cZ cB (mg ad LH9 adv11) σ9) H := hP
      have hD : va_D A (wdX9 cI cZ cB (mg ad LH9 adv11) σ9) := hD
      refine W.eq (g2 := F0 m 58 ls []) rfl ?_
      refine lv_iconst (v := 1) hx hb dX9_error_58 (by decide) ?_
      have hfin : (1, σ9) = res.1 := (congrArg Prod.fst (Option.some.inj h)).trans hrf
      exact hR (some (.int 1)) adv11 _ _ _ _ _ _ (by rw [← hfin]) (by first | (rw [← hfin]; done) | (rw [← hfin]; rfl)) nb1 dX9_error_59 hP hD hS (by omega)
    · have h := ite_t c5 h
      refine lv_iconst (v := 0) hx hb dX9_error_26 (by decide) ?_
      have hfin : (0, σ) = res.1 := (congrArg Prod.fst (Option.some.inj h)).trans hrf
      exact hR (some (.int 0)) (mp ad LH9) _ _ _ _ _ _ (by rw [← hfin]) (by first | (rw [← hfin]; done) | (rw [← hfin]; rfl)) nb0 dX9_error_27 hP hD hS (by omega)
set_option maxHeartbeats 4000000 in
set_option maxRecDepth 100000 in
theorem mX9_error (l : Launch) (D : va_G) (cI cZ cB : ClassId) (ad : Nat → Nat) (σ : Mem) (sz : Nat) (a1 : Int32) (a2 : Int32) (a3 : Int32) (res : (Int32 × Mem) × Nat) (h : X9_error a1 a2 a3 σ = some res) : Met l yX9_error wsX9_error (rmX9_error res.2) (pW D cI cZ cB (wdX9 cI cZ cB ad σ) sz [.ref (ad 0), .int a1, .int a2, .int a3]) (qG D (some (.int res.1.1)) (fun adv => (wdX9 cI cZ cB (mg ad LH9 adv) res.1.2)) (va_A (wdX9 cI cZ cB ad σ) sz)) res.2 res.2 (va_A (wdX9 cI cZ cB ad σ) sz) := (bX9_error l D cI cZ cB ad σ a1 a2 a3 res h).met (by decide +kernel) rfl (Nat.le_of_ble_eq_true rfl)
def rmX9_undo : Room := { frames := 2, cells := 0, slots := 0, locals := 61 }
set_option maxHeartbeats 4000000 in
set_option maxRecDepth 100000 in
theorem bX9_undo (l : Launch) (D : va_G) (cI cZ cB : ClassId) (ad : Nat → Nat) (σ : Mem) (res : Int32 × Mem) (h : X9_undo σ = some res) : BW l yX9_undo wsX9_undo rmX9_undo cX9_undo 2 (some .boolean) D cI cZ cB (wdX9 cI cZ cB ad σ) [.ref (ad 0)] (some (.int res.1)) (wdX9 cI cZ cB ad res.2) := by
  intro p e s m args below meth c ls Q A hx hb hml hts hown hK hA hP hD hS hl0 hR
  have hinX9 : ∀ w ∈ u_ws RX9 TX9 15, w ∈ wsX9_undo := (fun _ h => List.mem_cons_of_mem _ (List.mem_append_left _ (List.mem_append_left _ (List.mem_append_left _ (List.mem_append_right _ h)))))
  have fl1 := hts (.fieldLink RX9 60 "LawNumberer" "acts" "LLawNumberer$Acts;") (by decide +kernel)
  have fl2 := hts (.fieldLink RX9 53 "LawNumberer" "history" "LLawNumberer$History;") (by decide +kernel)
  have fl3 := hts (.fieldLink RX9 46 "LawNumberer" "items" "LLawNumberer$Items;") (by decide +kernel)
  have hl : lv_has ls 2 [(0, .ref (ad 0))] := hl0
  have n64 : ∀ (σ : Mem) (H : Heap) (locs : List Loc), va_P D vwCl (wdX9 cI cZ cB ad σ) H → va_D A (wdX9 cI cZ cB ad σ) → va_S A s.heap H locs → ∀ (ls : Array Slot), lv_has ls 2 [(0, .ref (ad 0))] → X9_undo_64 σ = some res → W p l e rmX9_undo s m args below meth c H locs 0 0 Q (F0 m 64 ls []) := by
    intro σ H locs hP hD hS ls hl h
    rw [X9_undo_64] at h
    refine lv_aload_n hx hb dX9_undo_64 rfl (lv_at hl 0 rfl) ?_
    refine va_get (ci := 7) (v := .ref (ad 27)) (C := RX9) (T := TX9) (N := 15) hx hb hts hinX9 hown hK hP 0 rfl rfl 8 (by decide) fl1 (fun _ h9 => h9) rfl dX9_undo_65 ?_
    obtain ⟨r1, hr1, h⟩ := bd_e h
    obtain ⟨σ2, eσ2, h⟩ := lt_e h
    refine cl_WV (rest := []) (wn := (wdX9 cI cZ cB ad σ2)) (lp := [27, 28, 29, 30]) (ci := 0) (q0 := 0) ⟨hx, hb, hml, hown, hts⟩ (mX0_close l D cI cZ cB (mp ad [27, 28, 29, 30]) (mp σ [27, 28, 29, 30]) H.size r1 hr1) (cwV 0 hts gX9_undo_X0_close rfl rfl rfl (by decide +kernel) ⟨Nat.le_of_ble_eq_true rfl, Nat.le_of_ble_eq_true rfl⟩) hK hP hD hS hA rfl rfl rfl (by rw [eσ2]; rfl) rfl rfl rfl rfl rfl hl.1 rfl (Nat.le_of_ble_eq_true rfl) dX9_undo_68 ⟨Nat.zero_le _, Nat.zero_le _⟩ (fun H locs hP hD hS => ?_)
    refine W.eq (g2 := F0 m 71 ls []) rfl ?_
    refine lv_iconst (v := 1) hx hb dX9_undo_71 (by decide) ?_
    exact hR (some (.int 1)) (wdX9 cI cZ cB ad σ2) _ _ _ _ (by rw [← Option.some.inj h]) (by rw [← Option.some.inj h]) nb1 dX9_undo_72 hP hS
  rw [X9_undo] at h
  have hS := hS
  refine lv_aload_n hx hb dX9_undo_0 rfl (lv_at hl 0 rfl) ?_
  refine va_get (ci := 7) (v := .ref (ad 27)) (C := RX9) (T := TX9) (N := 15) hx hb hts hinX9 hown hK hP 0 rfl rfl 8 (by decide) fl1 (fun _ h9 => h9) rfl dX9_undo_1 ?_
  obtain ⟨r3, hr3, h⟩ := bd_e h
  refine cl_RV (rest := []) (ci := 0) (q0 := 0) ⟨hx, hb, hml, hown, hts⟩ (mX0_latestKind l D cI cZ cB (mp ad [27, 28, 29, 30]) (mp σ [27, 28, 29, 30]) r3 hr3) (cwV 0 hts gX9_undo_X0_latestKind rfl rfl rfl (by decide +kernel) ⟨Nat.le_of_ble_eq_true rfl, Nat.le_of_ble_eq_true rfl⟩) hK (hP.sub (ws' := wdX0 cI cZ cB (mp ad [27, 28, 29, 30]) (mp σ [27, 28, 29, 30])) [27, 28, 29, 30] rfl) rfl rfl rfl rfl hl.1 rfl (Nat.le_of_ble_eq_true rfl) dX9_undo_4 ⟨Nat.zero_le _, Nat.zero_le _⟩ ?_
  refine W.eq (g2 := F0 m 7 ls [.int r3]) rfl ?_
  refine lv_istore_n (lv' := [(1, .int r3), (0, .ref (ad 0))]) hx hb dX9_undo_7 rfl hl (by decide) rfl (fun ls hl => ?_)
  refine lv_iload_n hx hb dX9_undo_8 rfl (lv_at hl 0 rfl) ?_
  refine lv_iconst (v := (-1)) hx hb dX9_undo_9 (by decide) ?_
  refine lv_icmp_ne (tgt := 15) hx hb dX9_undo_10 (by decide) (fun c4 => ?_) (fun c4 => ?_)
  · have h := ite_f c4 h
    refine lv_aload_n hx hb dX9_undo_15 rfl (lv_at hl 1 rfl) ?_
    refine va_get (ci := 7) (v := .ref (ad 21)) (C := RX9) (T := TX9) (N := 15) hx hb hts hinX9 hown hK hP 0 rfl rfl 7 (by decide) fl2 (fun _ h9 => h9) rfl dX9_undo_16 ?_
    refine lv_aload_n hx hb dX9_undo_19 rfl (lv_at hl 1 rfl) ?_
    refine va_get (ci := 7) (v := .ref (ad 27)) (C := RX9) (T := TX9) (N := 15) hx hb hts hinX9 hown hK hP 0 rfl rfl 8 (by decide) fl1 (fun _ h9 => h9) rfl dX9_undo_20 ?_
    obtain ⟨r5, hr5, h⟩ := bd_e h
    refine cl_RV (rest := [.ref (ad 21)]) (ci := 0) (q0 := 0) ⟨hx, hb, hml, hown, hts⟩ (mX0_latestMark l D cI cZ cB (mp ad [27, 28, 29, 30]) (mp σ [27, 28, 29, 30]) r5 hr5) (cwV 0 hts gX9_undo_X0_latestMark rfl rfl rfl (by decide +kernel) ⟨Nat.le_of_ble_eq_true rfl, Nat.le_of_ble_eq_true rfl⟩) hK (hP.sub (ws' := wdX0 cI cZ cB (mp ad [27, 28, 29, 30]) (mp σ [27, 28, 29, 30])) [27, 28, 29, 30] rfl) rfl rfl rfl rfl hl.1 rfl (Nat.le_of_ble_eq_true rfl) dX9_undo_23 ⟨Nat.zero_le _, Nat.zero_le _⟩ ?_
    refine W.eq (g2 := F0 m 26 ls [.int r5, .ref (ad 21)]) rfl ?_
    obtain ⟨r6, hr6, h⟩ := bd_e h
    obtain ⟨σ7, eσ7, h⟩ := lt_e h
    refine cl_WV (rest := []) (wn := (wdX9 cI cZ cB ad σ7)) (lp := [21, 22, 23, 24, 25, 26]) (ci := 1) (q0 := 0) ⟨hx, hb, hml, hown, hts⟩ (mX2_cutTo l D cI cZ cB (mp ad [21, 22, 23, 24, 25, 26]) (mp σ [21, 22, 23, 24, 25, 26, 32]) s.heap.size r5 r6 hr6) (cwV 1 hts gX9_undo_X2_cutTo rfl rfl rfl (by decide +kernel) ⟨Nat.le_of_ble_eq_true rfl, Nat.le_of_ble_eq_true rfl⟩) hK hP hD hS hA rfl rfl rfl (by rw [eσ7]; rfl) rfl rfl rfl rfl rfl hl.1 rfl (Nat.le_of_ble_eq_true rfl) dX9_undo_26 ⟨Nat.zero_le _, Nat.zero_le _⟩ (fun H locs hP hD hS => ?_)
    refine W.eq (g2 := F0 m 29 ls []) rfl ?_
    refine lv_iload_n hx hb dX9_undo_29 rfl (lv_at hl 0 rfl) ?_
    refine lv_iconst (v := 1) hx hb dX9_undo_30 (by decide) ?_
    refine lv_icmp_ne (tgt := 44) hx hb dX9_undo_31 (by decide) (fun c8 => ?_) (fun c8 => ?_)
    · have h := ite_f c8 h
      refine lv_iload_n hx hb dX9_undo_44 rfl (lv_at hl 0 rfl) ?_
      refine lv_iconst (v := 2) hx hb dX9_undo_45 (by decide) ?_
      refine lv_icmp_ne (tgt := 64) hx hb dX9_undo_46 (by decide) (fun c9 => ?_) (fun c9 => ?_)
      · have h := ite_f c9 h
        exact n64 σ7 _ _ hP hD hS _ (lv_sub hl [1] rfl) h
      · have h := ite_t c9 h
        refine lv_aload_n hx hb dX9_undo_49 rfl (lv_at hl 1 rfl) ?_
        refine va_get (ci := 7) (v := .ref (ad 15)) (C := RX9) (T := TX9) (N := 15) hx hb hts hinX9 hown hK hP 0 rfl rfl 6 (by decide) fl3 (fun _ h9 => h9) rfl dX9_undo_50 ?_
        refine lv_aload_n hx hb dX9_undo_53 rfl (lv_at hl 1 rfl) ?_
        refine va_get (ci := 7) (v := .ref (ad 27)) (C := RX9) (T := TX9) (N := 15) hx hb hts hinX9 hown hK hP 0 rfl rfl 8 (by decide) fl1 (fun _ h9 => h9) rfl dX9_undo_54 ?_
        obtain ⟨r10, hr10, h⟩ := bd_e h
        refine cl_RV (rest := [.ref (ad 15)]) (ci := 0) (q0 := 0) ⟨hx, hb, hml, hown, hts⟩ (mX0_latestItem l D cI cZ cB (mp ad [27, 28, 29, 30]) (mp σ7 [27, 28, 29, 30]) r10 hr10) (cwV 0 hts gX9_undo_X0_latestItem rfl rfl rfl (by decide +kernel) ⟨Nat.le_of_ble_eq_true rfl, Nat.le_of_ble_eq_true rfl⟩) hK (hP.sub (ws' := wdX0 cI cZ cB (mp ad [27, 28, 29, 30]) (mp σ7 [27, 28, 29, 30])) [27, 28, 29, 30] rfl) rfl rfl rfl rfl hl.1 rfl (Nat.le_of_ble_eq_true rfl) dX9_undo_57 ⟨Nat.zero_le _, Nat.zero_le _⟩ ?_
        refine W.eq (g2 := F0 m 60 ls [.int r10, .ref (ad 15)]) rfl ?_
        refine lv_iconst (v := 0) hx hb dX9_undo_60 (by decide) ?_
        obtain ⟨r11, hr11, h⟩ := bd_e h
        obtain ⟨σ12, eσ12, h⟩ := lt_e h
        refine cl_WV (rest := []) (wn := (wdX9 cI cZ cB ad σ12)) (lp := [15, 16, 17, 18, 19, 20]) (ci := 2) (q0 := 0) ⟨hx, hb, hml, hown, hts⟩ (mX3_setStruck l D cI cZ cB (mp ad [15, 16, 17, 18, 19, 20]) (mp σ7 [15, 16, 17, 18, 19, 20]) H.size r10 0 r11 hr11) (cwV 2 hts gX9_undo_X3_setStruck rfl rfl rfl (by decide +kernel) ⟨Nat.le_of_ble_eq_true rfl, Nat.le_of_ble_eq_true rfl⟩) hK hP hD hS hA rfl rfl rfl (by rw [eσ12]; rfl) rfl rfl rfl rfl rfl hl.1 rfl (Nat.le_of_ble_eq_true rfl) dX9_undo_61 ⟨Nat.zero_le _, Nat.zero_le _⟩ (fun H locs hP hD hS => ?_)
        refine W.eq (g2 := F0 m 64 ls []) rfl ?_
        exact n64 σ12 _ _ hP hD hS _ (lv_sub hl [1] rfl) h
    · have h := ite_t c8 h
      refine lv_aload_n hx hb dX9_undo_34 rfl (lv_at hl 1 rfl) ?_
      refine va_get (ci := 7) (v := .ref (ad 15)) (C := RX9) (T := TX9) (N := 15) hx hb hts hinX9 hown hK hP 0 rfl rfl 6 (by decide) fl3 (fun _ h9 => h9) rfl dX9_undo_35 ?_
      obtain ⟨r13, hr13, h⟩ := bd_e h
      obtain ⟨σ14, eσ14, h⟩ := lt_e h
      refine cl_WV (rest := []) (wn := (wdX9 cI cZ cB ad σ14)) (lp := [15, 16, 17, 18, 19, 20]) (ci := 2) (q0 := 0) ⟨hx, hb, hml, hown, hts⟩ (mX3_dropLast l D cI cZ cB (mp ad [15, 16, 17, 18, 19, 20]) (mp σ7 [15, 16, 17, 18, 19, 20]) H.size r13 hr13) (cwV 0 hts gX9_undo_X3_dropLast rfl rfl rfl (by decide +kernel) ⟨Nat.le_of_ble_eq_true rfl, Nat.le_of_ble_eq_true rfl⟩) hK hP hD hS hA rfl rfl rfl (by rw [eσ14]; rfl) rfl rfl rfl rfl rfl hl.1 rfl (Nat.le_of_ble_eq_true rfl) dX9_undo_38 ⟨Nat.zero_le _, Nat.zero_le _⟩ (fun H locs hP hD hS => ?_)
      refine W.eq (g2 := F0 m 41 ls []) rfl ?_
      refine lv_goto (tgt := 64) hx hb dX9_undo_41 (by decide) ?_
      exact n64 σ14 _ _ hP hD hS _ (lv_sub hl [1] rfl) h
  · have h := ite_t c4 h
    refine lv_iconst (v := 0) hx hb dX9_undo_13 (by decide) ?_
    exact hR (some (.int 0)) (wdX9 cI cZ cB ad σ) _ _ _ _ (by rw [← Option.some.inj h]) (by rw [← Option.some.inj h]) nb0 dX9_undo_14 hP hS
set_option maxHeartbeats 4000000 in
set_option maxRecDepth 100000 in
theorem mX9_undo (l : Launch) (D : va_G) (cI cZ cB : ClassId) (ad : Nat → Nat) (σ : Mem) (sz : Nat) (res : Int32 × Mem) (h : X9_undo σ = some res) : Met l yX9_undo wsX9_undo rmX9_undo (pW D cI cZ cB (wdX9 cI cZ cB ad σ) sz [.ref (ad 0)]) (qW D (some (.int res.1)) (wdX9 cI cZ cB ad res.2) (va_A (wdX9 cI cZ cB ad σ) sz)) 0 0 (va_A (wdX9 cI cZ cB ad σ) sz) := (bX9_undo l D cI cZ cB ad σ res h).met (by decide +kernel) rfl (Nat.le_of_ble_eq_true rfl)
def rmX9_wait : Room := { frames := 0, cells := 0, slots := 0, locals := 0 }
set_option maxHeartbeats 4000000 in
set_option maxRecDepth 100000 in
theorem bX9_wait (l : Launch) (D : va_G) (cI cZ cB : ClassId) (ad : Nat → Nat) (σ : Mem) (a1 : Int32) (res : Int32 × Mem) (h : X9_wait a1 σ = some res) : BW l yX9_wait wsX9_wait rmX9_wait cX9_wait 2 (some .boolean) D cI cZ cB (wdX9 cI cZ cB ad σ) [.ref (ad 0), .int a1] (some (.int res.1)) (wdX9 cI cZ cB ad res.2) := by
  intro p e s m args below meth c ls Q A hx hb hml hts hown hK hA hP hD hS hl0 hR
  have hinX9 : ∀ w ∈ u_ws RX9 TX9 15, w ∈ wsX9_wait := (fun _ h => List.mem_cons_of_mem _ (List.mem_append_right _ h))
  have fl1 := hts (.fieldLink RX9 105 "LawNumberer" "today" "I") (by decide +kernel)
  have hl : lv_has ls 2 [(0, .ref (ad 0)), (1, .int a1)] := hl0
  rw [X9_wait] at h
  have hS := hS
  refine lv_iload_n hx hb dX9_wait_0 rfl (lv_at hl 1 rfl) ?_
  refine lv_if_lt (tgt := 23) hx hb dX9_wait_1 (by decide) (fun c1 => ?_) (fun c1 => ?_)
  · have h := ite_t c1 h
    refine lv_iconst (v := 0) hx hb dX9_wait_23 (by decide) ?_
    exact hR (some (.int 0)) (wdX9 cI cZ cB ad σ) _ _ _ _ (by rw [← Option.some.inj h]) (by rw [← Option.some.inj h]) nb0 dX9_wait_24 hP hS
  · have h := ite_f c1 h
    refine lv_iload_n hx hb dX9_wait_4 rfl (lv_at hl 1 rfl) ?_
    refine lv_sipush (v := 1000) hx hb dX9_wait_5 (by decide) ?_
    refine lv_icmp_gt (tgt := 23) hx hb dX9_wait_8 (by decide) (fun c2 => ?_) (fun c2 => ?_)
    · have h := ite_t c2 h
      refine lv_iconst (v := 0) hx hb dX9_wait_23 (by decide) ?_
      exact hR (some (.int 0)) (wdX9 cI cZ cB ad σ) _ _ _ _ (by rw [← Option.some.inj h]) (by rw [← Option.some.inj h]) nb0 dX9_wait_24 hP hS
    · have h := ite_f c2 h
      refine lv_aload_n hx hb dX9_wait_11 rfl (lv_at hl 0 rfl) ?_
      refine va_get (ci := 7) (v := .int (σ 0 10)) (C := RX9) (T := TX9) (N := 15) hx hb hts hinX9 hown hK hP 0 rfl rfl 10 (by decide) fl1 (fun _ h9 => h9) rfl dX9_wait_12 ?_
      refine lv_iload_n hx hb dX9_wait_15 rfl (lv_at hl 1 rfl) ?_
      refine lv_iadd hx hb dX9_wait_16 ?_
      refine lv_sipush (v := 9999) hx hb dX9_wait_17 (by decide) ?_
      refine lv_icmp_le (tgt := 25) hx hb dX9_wait_20 (by decide) (fun c3 => ?_) (fun c3 => ?_)
      · have h := ite_t c3 h
        refine lv_aload_n hx hb dX9_wait_25 rfl (lv_at hl 0 rfl) ?_
        refine lv_dup hx hb dX9_wait_26 rfl ?_
        refine va_get (ci := 7) (v := .int (σ 0 10)) (C := RX9) (T := TX9) (N := 15) hx hb hts hinX9 hown hK hP 0 rfl rfl 10 (by decide) fl1 (fun _ h9 => h9) rfl dX9_wait_27 ?_
        refine lv_iload_n hx hb dX9_wait_30 rfl (lv_at hl 1 rfl) ?_
        refine lv_iadd hx hb dX9_wait_31 ?_
        obtain ⟨σ4, eσ4, h⟩ := lt_e h
        refine va_put (ci := 7) (v := .int ((σ 0 10) + a1)) (ty := .int) (C := RX9) (T := TX9) (N := 15) hx hb hts hinX9 tyX9 tyX9_ok nmX9 hown hK hP hD hS 0 rfl rfl 10 (by decide) fl1 (fun _ h9 => h9) rfl (by decide +kernel) rfl rfl (Nat.le_of_ble_eq_true rfl) dX9_wait_32 (fun H locs hP1 hD1 hS => ?_)
        have hP : va_P D vwCl (wdX9 cI cZ cB ad σ4) H := by rw [eσ4]; exact hP1
        have hD : va_D A (wdX9 cI cZ cB ad σ4) := D_of (by rfl) hD
        refine lv_iconst (v := 1) hx hb dX9_wait_35 (by decide) ?_
        exact hR (some (.int 1)) (wdX9 cI cZ cB ad σ4) _ _ _ _ (by rw [← Option.some.inj h]) (by rw [← Option.some.inj h]) nb1 dX9_wait_36 hP hS
      · have h := ite_f c3 h
        refine lv_iconst (v := 0) hx hb dX9_wait_23 (by decide) ?_
        exact hR (some (.int 0)) (wdX9 cI cZ cB ad σ) _ _ _ _ (by rw [← Option.some.inj h]) (by rw [← Option.some.inj h]) nb0 dX9_wait_24 hP hS
set_option maxHeartbeats 4000000 in
set_option maxRecDepth 100000 in
theorem mX9_wait (l : Launch) (D : va_G) (cI cZ cB : ClassId) (ad : Nat → Nat) (σ : Mem) (sz : Nat) (a1 : Int32) (res : Int32 × Mem) (h : X9_wait a1 σ = some res) : Met l yX9_wait wsX9_wait rmX9_wait (pW D cI cZ cB (wdX9 cI cZ cB ad σ) sz [.ref (ad 0), .int a1]) (qW D (some (.int res.1)) (wdX9 cI cZ cB ad res.2) (va_A (wdX9 cI cZ cB ad σ) sz)) 0 0 (va_A (wdX9 cI cZ cB ad σ) sz) := (bX9_wait l D cI cZ cB ad σ a1 res h).met (by decide +kernel) rfl (Nat.le_of_ble_eq_true rfl)
def rmX9_label : Room := { frames := 3, cells := 0, slots := 0, locals := 70 }
set_option maxHeartbeats 4000000 in
set_option maxRecDepth 100000 in
theorem bX9_label (K : Nat → Nat) (l : Launch) (D : va_G) (cI cZ cB : ClassId) (ad : Nat → Nat) (σ : Mem) (a1 : Int32) (a2 : Int32) (res : Int32 × Mem) (h : X9_label a1 a2 σ = some res) : BWx K l yX9_label wsX9_label rmX9_label cX9_label 4 (some .int) D cI cZ cB (wdX9 cI cZ cB ad σ) [.ref (ad 0), .int a1, .int a2] (some (.int res.1)) (wdX9 cI cZ cB ad res.2) := by
  intro p e s m args below meth c ls Q A hx hb hml hts hown hX hK hA hP hD hS hl0 hR
  have hX0 := hX
  obtain ⟨⟨hZtS, hTtS, hZtF, hTtF, hZtG, hTtG⟩, ⟨hC1, hC2, hC3⟩, hR1, hR2, hR3, hR4, hR5⟩ := hX0
  have hinX3 : ∀ w ∈ u_ws RX3 TX3 7, w ∈ wsX9_label := (fun _ h => List.mem_cons_of_mem _ (List.mem_append_left _ (List.mem_append_left _ (List.mem_append_right _ h))))
  have hinX8 : ∀ w ∈ u_ws RX8 TX8 2, w ∈ wsX9_label := (fun _ h => List.mem_cons_of_mem _ (List.mem_append_left _ (List.mem_append_left _ (List.mem_append_left _ (List.mem_append_right _ h)))))
  have hinX9 : ∀ w ∈ u_ws RX9 TX9 15, w ∈ wsX9_label := (fun _ h => List.mem_cons_of_mem _ (List.mem_append_left _ (List.mem_append_left _ (List.mem_append_left _ (List.mem_append_left _ (List.mem_append_right _ h))))))
  have fl1 := hts (.fieldLink RX9 53 "LawNumberer" "history" "LLawNumberer$History;") (by decide +kernel)
  have fl2 := hts (.fieldLink RX9 46 "LawNumberer" "items" "LLawNumberer$Items;") (by decide +kernel)
  have fl3 := hts (.fieldLink RX9 16 "LawNumberer" "out" "LLawNumberer$Text;") (by decide +kernel)
  have fl4 := hts (.fieldLink RX9 78 "LawNumberer$Text" "length" "I") (by decide +kernel)
  have fl5 := hts (.fieldLink RX9 22 "LawNumberer" "scheme" "LLawNumberer$Levels;") (by decide +kernel)
  have fl6 := hts (.fieldLink RX9 113 "LawNumberer$Items" "levels" "[I") (by decide +kernel)
  have hl : lv_has ls 4 [(0, .ref (ad 0)), (1, .int a1), (2, .int a2)] := hl0
  rw [X9_label] at h
  have hS := hS
  refine lv_aload_n hx hb dX9_label_0 rfl (lv_at hl 0 rfl) ?_
  refine va_get (ci := 7) (v := .ref (ad 21)) (C := RX9) (T := TX9) (N := 15) hx hb hts hinX9 hown hK hP 0 rfl rfl 7 (by decide) fl1 (fun _ h9 => h9) rfl dX9_label_1 ?_
  refine lv_iload_n hx hb dX9_label_4 rfl (lv_at hl 1 rfl) ?_
  refine lv_iload_n hx hb dX9_label_5 rfl (lv_at hl 2 rfl) ?_
  obtain ⟨r1, hr1, h⟩ := bd_e h
  refine cl_RV (rest := []) (ci := 1) (q0 := 0) ⟨hx, hb, hml, hown, hts⟩ (mX2_asOf l D cI cZ cB (mp ad [21, 22, 23, 24, 25, 26]) (mp σ [21, 22, 23, 24, 25, 26, 32]) a1 a2 r1 hr1) (cwV 2 hts gX9_label_X2_asOf rfl rfl rfl (by decide +kernel) ⟨Nat.le_of_ble_eq_true rfl, Nat.le_of_ble_eq_true rfl⟩) hK (hP.sub (ws' := wdX2 cI cZ cB (mp ad [21, 22, 23, 24, 25, 26]) (mp σ [21, 22, 23, 24, 25, 26, 32])) [21, 22, 23, 24, 25, 26] rfl) rfl rfl rfl rfl hl.1 rfl (Nat.le_of_ble_eq_true rfl) dX9_label_6 ⟨Nat.zero_le _, Nat.zero_le _⟩ ?_
  refine W.eq (g2 := F0 m 9 ls [.int r1]) rfl ?_
  refine lv_istore_n (lv' := [(3, .int r1), (0, .ref (ad 0)), (1, .int a1), (2, .int a2)]) hx hb dX9_label_9 rfl hl (by decide) rfl (fun ls hl => ?_)
  refine lv_aload_n hx hb dX9_label_10 rfl (lv_at hl 1 rfl) ?_
  refine va_get (ci := 7) (v := .ref (ad 15)) (C := RX9) (T := TX9) (N := 15) hx hb hts hinX9 hown hK hP 0 rfl rfl 6 (by decide) fl2 (fun _ h9 => h9) rfl dX9_label_11 ?_
  refine lv_iload_n hx hb dX9_label_14 rfl (lv_at hl 2 rfl) ?_
  obtain ⟨r2, hr2, h⟩ := bd_e h
  refine cl_RV (rest := []) (ci := 2) (q0 := 0) ⟨hx, hb, hml, hown, hts⟩ (mX3_has l D cI cZ cB (mp ad [15, 16, 17, 18, 19, 20]) (mp σ [15, 16, 17, 18, 19, 20]) a1 r2 hr2) (cwV 1 hts gX9_label_X3_has rfl rfl rfl (by decide +kernel) ⟨Nat.le_of_ble_eq_true rfl, Nat.le_of_ble_eq_true rfl⟩) hK (hP.sub (ws' := wdX3 cI cZ cB (mp ad [15, 16, 17, 18, 19, 20]) (mp σ [15, 16, 17, 18, 19, 20])) [15, 16, 17, 18, 19, 20] rfl) rfl rfl rfl rfl hl.1 rfl (Nat.le_of_ble_eq_true rfl) dX9_label_15 ⟨Nat.zero_le _, Nat.zero_le _⟩ ?_
  refine W.eq (g2 := F0 m 18 ls [.int r2]) rfl ?_
  refine lv_if_eq (tgt := 25) hx hb dX9_label_18 (by decide) (fun c3 => ?_) (fun c3 => ?_)
  · have h := ite_t c3 h
    refine lv_iconst (v := (-1)) hx hb dX9_label_25 (by decide) ?_
    exact hR (some (.int (-1))) (wdX9 cI cZ cB ad σ) _ _ _ _ (by rw [← Option.some.inj h]) (by rw [← Option.some.inj h]) rfl dX9_label_26 hP hS
  · have h := ite_f c3 h
    refine lv_iload_n hx hb dX9_label_21 rfl (lv_at hl 0 rfl) ?_
    refine lv_if_ne (tgt := 27) hx hb dX9_label_22 (by decide) (fun c4 => ?_) (fun c4 => ?_)
    · have h := ite_f c4 h
      refine lv_aload_n hx hb dX9_label_27 rfl (lv_at hl 1 rfl) ?_
      refine va_get (ci := 7) (v := .ref (ad 3)) (C := RX9) (T := TX9) (N := 15) hx hb hts hinX9 hown hK hP 0 rfl rfl 1 (by decide) fl3 (fun _ h9 => h9) rfl dX9_label_28 ?_
      refine lv_iconst (v := 0) hx hb dX9_label_31 (by decide) ?_
      obtain ⟨σ5, eσ5, h⟩ := lt_e h
      refine va_put (ci := 6) (v := .int 0) (ty := .int) (C := RX8) (T := TX8) (N := 2) hx hb hts hinX8 tyX8 tyX8_ok nmX8 hown hK hP hD hS 3 rfl rfl 1 (by decide) fl4 (fun _ h9 => h9) rfl (by decide +kernel) rfl rfl (Nat.le_of_ble_eq_true rfl) dX9_label_32 (fun H locs hP1 hD1 hS => ?_)
      have hP : va_P D vwCl (wdX9 cI cZ cB ad σ5) H := by rw [eσ5]; exact hP1
      have hD : va_D A (wdX9 cI cZ cB ad σ5) := D_of (by rfl) hD
      refine lv_aload_n hx hb dX9_label_35 rfl (lv_at hl 1 rfl) ?_
      refine va_get (ci := 7) (v := .ref (ad 3)) (C := RX9) (T := TX9) (N := 15) hx hb hts hinX9 hown hK hP 0 rfl rfl 1 (by decide) fl3 (fun _ h9 => h9) rfl dX9_label_36 ?_
      refine lv_aload_n hx hb dX9_label_39 rfl (lv_at hl 1 rfl) ?_
      refine va_get (ci := 7) (v := .ref (ad 5)) (C := RX9) (T := TX9) (N := 15) hx hb hts hinX9 hown hK hP 0 rfl rfl 2 (by decide) fl5 (fun _ h9 => h9) rfl dX9_label_40 ?_
      refine lv_aload_n hx hb dX9_label_43 rfl (lv_at hl 1 rfl) ?_
      refine va_get (ci := 7) (v := .ref (ad 15)) (C := RX9) (T := TX9) (N := 15) hx hb hts hinX9 hown hK hP 0 rfl rfl 6 (by decide) fl2 (fun _ h9 => h9) rfl dX9_label_44 ?_
      refine va_get (ci := 2) (v := .ref (ad 16)) (C := RX3) (T := TX3) (N := 7) hx hb hts hinX3 hown hK hP 15 rfl rfl 0 (by decide) fl6 (fun _ h9 => h9) rfl dX9_label_47 ?_
      refine lv_iload_n hx hb dX9_label_50 rfl (lv_at hl 2 rfl) ?_
      obtain ⟨hin6, h⟩ := gd_e h
      refine va_iald hx hb hK hP 16 0 rfl rfl hin6 dX9_label_51 ?_
      obtain ⟨r7, hr7, h⟩ := bd_e h
      refine cl_RV (rest := [.ref (ad 3)]) (ci := 4) (q0 := 0) ⟨hx, hb, hml, hown, hts⟩ (mX6_formOf l D cI cZ cB (mp ad [5, 6, 7]) (mp σ5 [5, 6, 7]) (σ5 16 (Int32.toNatClampNeg a1)) r7 hr7) (cwV 1 hts gX9_label_X6_formOf rfl rfl rfl (by decide +kernel) ⟨Nat.le_of_ble_eq_true rfl, Nat.le_of_ble_eq_true rfl⟩) hK (hP.sub (ws' := wdX6 cI cZ cB (mp ad [5, 6, 7]) (mp σ5 [5, 6, 7])) [5, 6, 7] rfl) rfl rfl rfl rfl hl.1 rfl (Nat.le_of_ble_eq_true rfl) dX9_label_52 ⟨Nat.zero_le _, Nat.zero_le _⟩ ?_
      refine W.eq (g2 := F0 m 55 ls [.int r7, .ref (ad 3)]) rfl ?_
      refine lv_iload_n hx hb dX9_label_55 rfl (lv_at hl 0 rfl) ?_
      obtain ⟨r8, hr8, h⟩ := bd_e h
      obtain ⟨σ9, eσ9, h⟩ := lt_e h
      refine cl_WSx (rest := []) (wn := (wdX9 cI cZ cB ad σ9)) (lp := [3, 4]) ⟨hx, hb, hml, hown, hts⟩ (mX1_writeLabel K l D cI cZ cB (mp ad [3, 4]) (mp σ5 [3, 4]) H.size r7 r1 r8 hr8) (va_cwS 3 hts gX9_label_X1_writeLabel rfl rfl rfl (by decide +kernel) ⟨Nat.le_of_ble_eq_true rfl, Nat.le_of_ble_eq_true rfl⟩) hX hK hP hD hS hA rfl rfl rfl (by rw [eσ9]; rfl) rfl rfl hl.1 rfl (Nat.le_of_ble_eq_true rfl) dX9_label_56 ⟨Nat.zero_le _, Nat.zero_le _⟩ (fun H locs hP hD hS => ?_)
      refine W.eq (g2 := F0 m 59 ls []) rfl ?_
      refine lv_aload_n hx hb dX9_label_59 rfl (lv_at hl 1 rfl) ?_
      refine va_get (ci := 7) (v := .ref (ad 3)) (C := RX9) (T := TX9) (N := 15) hx hb hts hinX9 hown hK hP 0 rfl rfl 1 (by decide) fl3 (fun _ h9 => h9) rfl dX9_label_60 ?_
      refine va_get (ci := 6) (v := .int (σ9 3 1)) (C := RX8) (T := TX8) (N := 2) hx hb hts hinX8 hown hK hP 3 rfl rfl 1 (by decide) fl4 (fun _ h9 => h9) rfl dX9_label_63 ?_
      exact hR (some (.int (σ9 3 1))) (wdX9 cI cZ cB ad σ9) _ _ _ _ (by rw [← Option.some.inj h]) (by rw [← Option.some.inj h]) rfl dX9_label_66 hP hS
    · have h := ite_t c4 h
      refine lv_iconst (v := (-1)) hx hb dX9_label_25 (by decide) ?_
      exact hR (some (.int (-1))) (wdX9 cI cZ cB ad σ) _ _ _ _ (by rw [← Option.some.inj h]) (by rw [← Option.some.inj h]) rfl dX9_label_26 hP hS
set_option maxHeartbeats 4000000 in
set_option maxRecDepth 100000 in
theorem mX9_label (K : Nat → Nat) (l : Launch) (D : va_G) (cI cZ cB : ClassId) (ad : Nat → Nat) (σ : Mem) (sz : Nat) (a1 : Int32) (a2 : Int32) (res : Int32 × Mem) (h : X9_label a1 a2 σ = some res) : Met l yX9_label wsX9_label rmX9_label (pWx K D cI cZ cB (wdX9 cI cZ cB ad σ) sz [.ref (ad 0), .int a1, .int a2]) (qW D (some (.int res.1)) (wdX9 cI cZ cB ad res.2) (va_A (wdX9 cI cZ cB ad σ) sz)) 0 0 (va_A (wdX9 cI cZ cB ad σ) sz) := (bX9_label K l D cI cZ cB ad σ a1 a2 res h).met (by decide +kernel) rfl (Nat.le_of_ble_eq_true rfl)
def rmX9_cited : Room := { frames := 3, cells := 0, slots := 0, locals := 70 }
set_option maxHeartbeats 4000000 in
set_option maxRecDepth 100000 in
theorem bX9_cited (K : Nat → Nat) (l : Launch) (D : va_G) (cI cZ cB : ClassId) (ad : Nat → Nat) (σ : Mem) (a1 : Int32) (a2 : Int32) (res : Int32 × Mem) (h : X9_cited a1 a2 σ = some res) : BWx K l yX9_cited wsX9_cited rmX9_cited cX9_cited 5 (some .int) D cI cZ cB (wdX9 cI cZ cB ad σ) [.ref (ad 0), .int a1, .int a2] (some (.int res.1)) (wdX9 cI cZ cB ad res.2) := by
  intro p e s m args below meth c ls Q A hx hb hml hts hown hX hK hA hP hD hS hl0 hR
  have hX0 := hX
  obtain ⟨⟨hZtS, hTtS, hZtF, hTtF, hZtG, hTtG⟩, ⟨hC1, hC2, hC3⟩, hR1, hR2, hR3, hR4, hR5⟩ := hX0
  have hinX3 : ∀ w ∈ u_ws RX3 TX3 7, w ∈ wsX9_cited := (fun _ h => List.mem_cons_of_mem _ (List.mem_append_left _ (List.mem_append_left _ (List.mem_append_left _ (List.mem_append_right _ h)))))
  have hinX8 : ∀ w ∈ u_ws RX8 TX8 2, w ∈ wsX9_cited := (fun _ h => List.mem_cons_of_mem _ (List.mem_append_left _ (List.mem_append_left _ (List.mem_append_right _ h))))
  have hinX9 : ∀ w ∈ u_ws RX9 TX9 15, w ∈ wsX9_cited := (fun _ h => List.mem_cons_of_mem _ (List.mem_append_left _ (List.mem_append_left _ (List.mem_append_left _ (List.mem_append_left _ (List.mem_append_right _ h))))))
  have fl1 := hts (.fieldLink RX9 16 "LawNumberer" "out" "LLawNumberer$Text;") (by decide +kernel)
  have fl2 := hts (.fieldLink RX9 22 "LawNumberer" "scheme" "LLawNumberer$Levels;") (by decide +kernel)
  have fl3 := hts (.fieldLink RX9 64 "LawNumberer" "path" "[I") (by decide +kernel)
  have fl4 := hts (.fieldLink RX9 46 "LawNumberer" "items" "LLawNumberer$Items;") (by decide +kernel)
  have fl5 := hts (.fieldLink RX9 113 "LawNumberer$Items" "levels" "[I") (by decide +kernel)
  have fl6 := hts (.fieldLink RX9 78 "LawNumberer$Text" "length" "I") (by decide +kernel)
  have fl7 := hts (.fieldLink RX9 53 "LawNumberer" "history" "LLawNumberer$History;") (by decide +kernel)
  have fl8 := hts (.fieldLink RX9 162 "LawNumberer$Items" "under" "[I") (by decide +kernel)
  have hl : lv_has ls 5 [(0, .ref (ad 0)), (1, .int a1), (2, .int a2)] := hl0
  have n97 : ∀ (n : Nat) (x4 : Int32) (σ : Mem) (H : Heap) (locs : List Loc), va_P D vwCl (wdX9 cI cZ cB ad σ) H → va_D A (wdX9 cI cZ cB ad σ) → va_S A s.heap H locs → ∀ (ls : Array Slot), lv_has ls 5 [(0, .ref (ad 0)), (1, .int a1), (4, .int x4)] → X9_cited_97 a1 a2 n x4 σ = some res → W p l e rmX9_cited s m args below meth c H locs 0 0 Q (F0 m 97 ls []) := by
    intro n
    induction n with
    | zero =>
      intro x4 σ H locs hP hD hS ls hl h
      rw [X9_cited_97] at h
      cases h
    | succ n_97 ih97 =>
      have n125 : ∀ (x4 : Int32) (σ : Mem) (H : Heap) (locs : List Loc), va_P D vwCl (wdX9 cI cZ cB ad σ) H → va_D A (wdX9 cI cZ cB ad σ) → va_S A s.heap H locs → ∀ (ls : Array Slot), lv_has ls 5 [(0, .ref (ad 0)), (1, .int a1), (4, .int x4)] → X9_cited_125 a1 a2 (X9_cited_97 a1 a2 n_97) x4 σ = some res → W p l e rmX9_cited s m args below meth c H locs 0 0 Q (F0 m 125 ls []) := by
        intro x4 σ H locs hP hD hS ls hl h
        rw [X9_cited_125] at h
        refine lv_aload_n hx hb dX9_cited_125 rfl (lv_at hl 0 rfl) ?_
        refine va_get (ci := 7) (v := .ref (ad 3)) (C := RX9) (T := TX9) (N := 15) hx hb hts hinX9 hown hK hP 0 rfl rfl 1 (by decide) fl1 (fun _ h9 => h9) rfl dX9_cited_126 ?_
        refine lv_aload_n hx hb dX9_cited_129 rfl (lv_at hl 0 rfl) ?_
        refine va_get (ci := 7) (v := .ref (ad 5)) (C := RX9) (T := TX9) (N := 15) hx hb hts hinX9 hown hK hP 0 rfl rfl 2 (by decide) fl2 (fun _ h9 => h9) rfl dX9_cited_130 ?_
        refine lv_iload hx hb dX9_cited_133 (lv_at hl 2 rfl) ?_
        obtain ⟨r1, hr1, h⟩ := bd_e h
        refine cl_RV (rest := [.ref (ad 3)]) (ci := 4) (q0 := 0) ⟨hx, hb, hml, hown, hts⟩ (mX6_formOf l D cI cZ cB (mp ad [5, 6, 7]) (mp σ [5, 6, 7]) x4 r1 hr1) (cwV 1 hts gX9_cited_X6_formOf rfl rfl rfl (by decide +kernel) ⟨Nat.le_of_ble_eq_true rfl, Nat.le_of_ble_eq_true rfl⟩) hK (hP.sub (ws' := wdX6 cI cZ cB (mp ad [5, 6, 7]) (mp σ [5, 6, 7])) [5, 6, 7] rfl) rfl rfl rfl rfl hl.1 rfl (Nat.le_of_ble_eq_true rfl) dX9_cited_135 ⟨Nat.zero_le _, Nat.zero_le _⟩ ?_
        refine W.eq (g2 := F0 m 138 ls [.int r1, .ref (ad 3)]) rfl ?_
        refine lv_aload_n hx hb dX9_cited_138 rfl (lv_at hl 0 rfl) ?_
        refine va_get (ci := 7) (v := .ref (ad 31)) (C := RX9) (T := TX9) (N := 15) hx hb hts hinX9 hown hK hP 0 rfl rfl 9 (by decide) fl3 (fun _ h9 => h9) rfl dX9_cited_139 ?_
        refine lv_iload hx hb dX9_cited_142 (lv_at hl 2 rfl) ?_
        obtain ⟨hin2, h⟩ := gd_e h
        refine va_iald hx hb hK hP 31 0 rfl rfl hin2 dX9_cited_144 ?_
        obtain ⟨r3, hr3, h⟩ := bd_e h
        obtain ⟨σ4, eσ4, h⟩ := lt_e h
        refine cl_WSx (rest := []) (wn := (wdX9 cI cZ cB ad σ4)) (lp := [3, 4]) ⟨hx, hb, hml, hown, hts⟩ (mX1_writeLabel K l D cI cZ cB (mp ad [3, 4]) (mp σ [3, 4]) H.size r1 (σ 31 (Int32.toNatClampNeg x4)) r3 hr3) (va_cwS 3 hts gX9_cited_X1_writeLabel rfl rfl rfl (by decide +kernel) ⟨Nat.le_of_ble_eq_true rfl, Nat.le_of_ble_eq_true rfl⟩) hX hK hP hD hS hA rfl rfl rfl (by rw [eσ4]; rfl) rfl rfl hl.1 rfl (Nat.le_of_ble_eq_true rfl) dX9_cited_145 ⟨Nat.zero_le _, Nat.zero_le _⟩ (fun H locs hP hD hS => ?_)
        refine W.eq (g2 := F0 m 148 ls []) rfl ?_
        obtain ⟨x4_5, ex4_5, h⟩ := lt_e h
        refine lv_iinc (v := x4_5) (lv' := [(4, .int x4_5), (0, .ref (ad 0)), (1, .int a1)]) hx hb dX9_cited_148 hl (k := 2) rfl (by rw [ex4_5]; rfl) (by decide) rfl (fun ls hl => ?_)
        refine lv_goto (tgt := 97) hx hb dX9_cited_151 (by decide) ?_
        exact ih97 x4_5 σ4 _ _ hP hD hS _ (lv_sub hl [1, 2, 0] rfl) h
      intro x4 σ H locs hP hD hS ls hl h
      rw [X9_cited_97] at h
      refine lv_iload hx hb dX9_cited_97 (lv_at hl 2 rfl) ?_
      refine lv_aload_n hx hb dX9_cited_99 rfl (lv_at hl 0 rfl) ?_
      refine va_get (ci := 7) (v := .ref (ad 15)) (C := RX9) (T := TX9) (N := 15) hx hb hts hinX9 hown hK hP 0 rfl rfl 6 (by decide) fl4 (fun _ h9 => h9) rfl dX9_cited_100 ?_
      refine va_get (ci := 2) (v := .ref (ad 16)) (C := RX3) (T := TX3) (N := 7) hx hb hts hinX3 hown hK hP 15 rfl rfl 0 (by decide) fl5 (fun _ h9 => h9) rfl dX9_cited_103 ?_
      refine lv_iload_n hx hb dX9_cited_106 rfl (lv_at hl 1 rfl) ?_
      obtain ⟨hin6, h⟩ := gd_e h
      refine va_iald hx hb hK hP 16 0 rfl rfl hin6 dX9_cited_107 ?_
      refine lv_icmp_gt (tgt := 154) hx hb dX9_cited_108 (by decide) (fun c7 => ?_) (fun c7 => ?_)
      · have h := ite_t c7 h
        refine lv_aload_n hx hb dX9_cited_154 rfl (lv_at hl 0 rfl) ?_
        refine va_get (ci := 7) (v := .ref (ad 3)) (C := RX9) (T := TX9) (N := 15) hx hb hts hinX9 hown hK hP 0 rfl rfl 1 (by decide) fl1 (fun _ h9 => h9) rfl dX9_cited_155 ?_
        refine va_get (ci := 6) (v := .int (σ 3 1)) (C := RX8) (T := TX8) (N := 2) hx hb hts hinX8 hown hK hP 3 rfl rfl 1 (by decide) fl6 (fun _ h9 => h9) rfl dX9_cited_158 ?_
        exact hR (some (.int (σ 3 1))) (wdX9 cI cZ cB ad σ) _ _ _ _ (by rw [← Option.some.inj h]) (by rw [← Option.some.inj h]) rfl dX9_cited_161 hP hS
      · have h := ite_f c7 h
        refine lv_iload hx hb dX9_cited_111 (lv_at hl 2 rfl) ?_
        refine lv_if_le (tgt := 125) hx hb dX9_cited_113 (by decide) (fun c8 => ?_) (fun c8 => ?_)
        · have h := ite_t c8 h
          exact n125 x4 σ _ _ hP hD hS _ (lv_sub hl [0, 1, 2] rfl) h
        · have h := ite_f c8 h
          refine lv_aload_n hx hb dX9_cited_116 rfl (lv_at hl 0 rfl) ?_
          refine va_get (ci := 7) (v := .ref (ad 3)) (C := RX9) (T := TX9) (N := 15) hx hb hts hinX9 hown hK hP 0 rfl rfl 1 (by decide) fl1 (fun _ h9 => h9) rfl dX9_cited_117 ?_
          refine lv_bipush (v := 46) hx hb dX9_cited_120 (by decide) ?_
          obtain ⟨r9, hr9, h⟩ := bd_e h
          obtain ⟨σ10, eσ10, h⟩ := lt_e h
          refine cl_WV (rest := []) (wn := (wdX9 cI cZ cB ad σ10)) (lp := [3, 4]) (ci := 6) (q0 := 0) ⟨hx, hb, hml, hown, hts⟩ (mX8_put l D cI cZ cB (mp ad [3, 4]) (mp σ [3, 4]) H.size 46 r9 hr9) (cwV 1 hts gX9_cited_X8_put rfl rfl rfl (by decide +kernel) ⟨Nat.le_of_ble_eq_true rfl, Nat.le_of_ble_eq_true rfl⟩) hK hP hD hS hA rfl rfl rfl (by rw [eσ10]; rfl) rfl rfl rfl rfl rfl hl.1 rfl (Nat.le_of_ble_eq_true rfl) dX9_cited_122 ⟨Nat.zero_le _, Nat.zero_le _⟩ (fun H locs hP hD hS => ?_)
          refine W.eq (g2 := F0 m 125 ls []) rfl ?_
          exact n125 x4 σ10 _ _ hP hD hS _ (lv_sub hl [0, 1, 2] rfl) h
  have n86 : ∀ (σ : Mem) (H : Heap) (locs : List Loc), va_P D vwCl (wdX9 cI cZ cB ad σ) H → va_D A (wdX9 cI cZ cB ad σ) → va_S A s.heap H locs → ∀ (ls : Array Slot), lv_has ls 5 [(0, .ref (ad 0)), (1, .int a1)] → X9_cited_86 a1 a2 σ = some res → W p l e rmX9_cited s m args below meth c H locs 0 0 Q (F0 m 86 ls []) := by
    intro σ H locs hP hD hS ls hl h
    rw [X9_cited_86] at h
    refine lv_aload_n hx hb dX9_cited_86 rfl (lv_at hl 0 rfl) ?_
    refine va_get (ci := 7) (v := .ref (ad 3)) (C := RX9) (T := TX9) (N := 15) hx hb hts hinX9 hown hK hP 0 rfl rfl 1 (by decide) fl1 (fun _ h9 => h9) rfl dX9_cited_87 ?_
    refine lv_iconst (v := 0) hx hb dX9_cited_90 (by decide) ?_
    obtain ⟨σ11, eσ11, h⟩ := lt_e h
    refine va_put (ci := 6) (v := .int 0) (ty := .int) (C := RX8) (T := TX8) (N := 2) hx hb hts hinX8 tyX8 tyX8_ok nmX8 hown hK hP hD hS 3 rfl rfl 1 (by decide) fl6 (fun _ h9 => h9) rfl (by decide +kernel) rfl rfl (Nat.le_of_ble_eq_true rfl) dX9_cited_91 (fun H locs hP1 hD1 hS => ?_)
    have hP : va_P D vwCl (wdX9 cI cZ cB ad σ11) H := by rw [eσ11]; exact hP1
    have hD : va_D A (wdX9 cI cZ cB ad σ11) := D_of (by rfl) hD
    refine lv_iconst (v := 0) hx hb dX9_cited_94 (by decide) ?_
    refine lv_istore (lv' := [(4, .int 0), (0, .ref (ad 0)), (1, .int a1)]) hx hb dX9_cited_95 hl (by decide) rfl (fun ls hl => ?_)
    exact n97 FU 0 σ11 _ _ hP hD hS _ (lv_sub hl [1, 2, 0] rfl) h
  have n26 : ∀ (n : Nat) (x3 : Int32) (x4 : Int32) (σ : Mem) (H : Heap) (locs : List Loc), va_P D vwCl (wdX9 cI cZ cB ad σ) H → va_D A (wdX9 cI cZ cB ad σ) → va_S A s.heap H locs → ∀ (ls : Array Slot), lv_has ls 5 [(0, .ref (ad 0)), (1, .int a1), (2, .int a2), (3, .int x3), (4, .int x4)] → X9_cited_26 a1 a2 n x3 x4 σ = some res → W p l e rmX9_cited s m args below meth c H locs 0 0 Q (F0 m 26 ls []) := by
    intro n
    induction n with
    | zero =>
      intro x3 x4 σ H locs hP hD hS ls hl h
      rw [X9_cited_26] at h
      cases h
    | succ n_26 ih26 =>
      intro x3 x4 σ H locs hP hD hS ls hl h
      rw [X9_cited_26] at h
      refine lv_iload hx hb dX9_cited_26 (lv_at hl 4 rfl) ?_
      refine lv_if_lt (tgt := 86) hx hb dX9_cited_28 (by decide) (fun c12 => ?_) (fun c12 => ?_)
      · have h := ite_t c12 h
        exact n86 σ _ _ hP hD hS _ (lv_sub hl [0, 1] rfl) h
      · have h := ite_f c12 h
        refine lv_aload_n hx hb dX9_cited_31 rfl (lv_at hl 0 rfl) ?_
        refine va_get (ci := 7) (v := .ref (ad 15)) (C := RX9) (T := TX9) (N := 15) hx hb hts hinX9 hown hK hP 0 rfl rfl 6 (by decide) fl4 (fun _ h9 => h9) rfl dX9_cited_32 ?_
        refine lv_iload_n hx hb dX9_cited_35 rfl (lv_at hl 3 rfl) ?_
        obtain ⟨r13, hr13, h⟩ := bd_e h
        refine cl_RV (rest := []) (ci := 2) (q0 := 0) ⟨hx, hb, hml, hown, hts⟩ (mX3_has l D cI cZ cB (mp ad [15, 16, 17, 18, 19, 20]) (mp σ [15, 16, 17, 18, 19, 20]) x3 r13 hr13) (cwV 1 hts gX9_cited_X3_has rfl rfl rfl (by decide +kernel) ⟨Nat.le_of_ble_eq_true rfl, Nat.le_of_ble_eq_true rfl⟩) hK (hP.sub (ws' := wdX3 cI cZ cB (mp ad [15, 16, 17, 18, 19, 20]) (mp σ [15, 16, 17, 18, 19, 20])) [15, 16, 17, 18, 19, 20] rfl) rfl rfl rfl rfl hl.1 rfl (Nat.le_of_ble_eq_true rfl) dX9_cited_36 ⟨Nat.zero_le _, Nat.zero_le _⟩ ?_
        refine W.eq (g2 := F0 m 39 ls [.int r13]) rfl ?_
        refine lv_if_eq (tgt := 86) hx hb dX9_cited_39 (by decide) (fun c14 => ?_) (fun c14 => ?_)
        · have h := ite_t c14 h
          exact n86 σ _ _ hP hD hS _ (lv_sub hl [0, 1] rfl) h
        · have h := ite_f c14 h
          refine lv_aload_n hx hb dX9_cited_42 rfl (lv_at hl 0 rfl) ?_
          refine va_get (ci := 7) (v := .ref (ad 31)) (C := RX9) (T := TX9) (N := 15) hx hb hts hinX9 hown hK hP 0 rfl rfl 9 (by decide) fl3 (fun _ h9 => h9) rfl dX9_cited_43 ?_
          refine lv_iload hx hb dX9_cited_46 (lv_at hl 4 rfl) ?_
          refine lv_aload_n hx hb dX9_cited_48 rfl (lv_at hl 0 rfl) ?_
          refine va_get (ci := 7) (v := .ref (ad 21)) (C := RX9) (T := TX9) (N := 15) hx hb hts hinX9 hown hK hP 0 rfl rfl 7 (by decide) fl7 (fun _ h9 => h9) rfl dX9_cited_49 ?_
          refine lv_iload_n hx hb dX9_cited_52 rfl (lv_at hl 3 rfl) ?_
          refine lv_iload_n hx hb dX9_cited_53 rfl (lv_at hl 2 rfl) ?_
          obtain ⟨r15, hr15, h⟩ := bd_e h
          refine cl_RV (rest := [.int x4, .ref (ad 31)]) (ci := 1) (q0 := 0) ⟨hx, hb, hml, hown, hts⟩ (mX2_asOf l D cI cZ cB (mp ad [21, 22, 23, 24, 25, 26]) (mp σ [21, 22, 23, 24, 25, 26, 32]) x3 a2 r15 hr15) (cwV 2 hts gX9_cited_X2_asOf rfl rfl rfl (by decide +kernel) ⟨Nat.le_of_ble_eq_true rfl, Nat.le_of_ble_eq_true rfl⟩) hK (hP.sub (ws' := wdX2 cI cZ cB (mp ad [21, 22, 23, 24, 25, 26]) (mp σ [21, 22, 23, 24, 25, 26, 32])) [21, 22, 23, 24, 25, 26] rfl) rfl rfl rfl rfl hl.1 rfl (Nat.le_of_ble_eq_true rfl) dX9_cited_54 ⟨Nat.zero_le _, Nat.zero_le _⟩ ?_
          refine W.eq (g2 := F0 m 57 ls [.int r15, .int x4, .ref (ad 31)]) rfl ?_
          obtain ⟨hin16, h⟩ := gd_e h
          obtain ⟨σ17, eσ17, h⟩ := lt_e h
          refine va_iast hx hb hK hP hD hS 31 0 rfl rfl hin16 dX9_cited_57 (fun H locs hP1 hD1 hS => ?_)
          have hP : va_P D vwCl (wdX9 cI cZ cB ad σ17) H := by rw [eσ17]; exact hP1
          have hD : va_D A (wdX9 cI cZ cB ad σ17) := D_of (by rfl) hD
          refine lv_aload_n hx hb dX9_cited_58 rfl (lv_at hl 0 rfl) ?_
          refine va_get (ci := 7) (v := .ref (ad 31)) (C := RX9) (T := TX9) (N := 15) hx hb hts hinX9 hown hK hP 0 rfl rfl 9 (by decide) fl3 (fun _ h9 => h9) rfl dX9_cited_59 ?_
          refine lv_iload hx hb dX9_cited_62 (lv_at hl 4 rfl) ?_
          obtain ⟨hin18, h⟩ := gd_e h
          refine va_iald hx hb hK hP 31 0 rfl rfl hin18 dX9_cited_64 ?_
          refine lv_if_ne (tgt := 70) hx hb dX9_cited_65 (by decide) (fun c19 => ?_) (fun c19 => ?_)
          · have h := ite_f c19 h
            refine lv_aload_n hx hb dX9_cited_70 rfl (lv_at hl 0 rfl) ?_
            refine va_get (ci := 7) (v := .ref (ad 15)) (C := RX9) (T := TX9) (N := 15) hx hb hts hinX9 hown hK hP 0 rfl rfl 6 (by decide) fl4 (fun _ h9 => h9) rfl dX9_cited_71 ?_
            refine va_get (ci := 2) (v := .ref (ad 17)) (C := RX3) (T := TX3) (N := 7) hx hb hts hinX3 hown hK hP 15 rfl rfl 1 (by decide) fl8 (fun _ h9 => h9) rfl dX9_cited_74 ?_
            refine lv_iload_n hx hb dX9_cited_77 rfl (lv_at hl 3 rfl) ?_
            obtain ⟨hin20, h⟩ := gd_e h
            refine va_iald hx hb hK hP 17 0 rfl rfl hin20 dX9_cited_78 ?_
            obtain ⟨x3_21, ex3_21, h⟩ := lt_e h
            refine lv_topE ex3_21 ?_
            refine lv_istore_n (lv' := [(3, .int x3_21), (0, .ref (ad 0)), (1, .int a1), (2, .int a2), (4, .int x4)]) hx hb dX9_cited_79 rfl hl (by decide) rfl (fun ls hl => ?_)
            obtain ⟨x4_22, ex4_22, h⟩ := lt_e h
            refine lv_iinc (v := x4_22) (lv' := [(4, .int x4_22), (3, .int x3_21), (0, .ref (ad 0)), (1, .int a1), (2, .int a2)]) hx hb dX9_cited_80 hl (k := 4) rfl (by rw [ex4_22]; rfl) (by decide) rfl (fun ls hl => ?_)
            refine lv_goto (tgt := 26) hx hb dX9_cited_83 (by decide) ?_
            exact ih26 x3_21 x4_22 σ17 _ _ hP hD hS _ (lv_sub hl [2, 3, 4, 1, 0] rfl) h
          · have h := ite_t c19 h
            refine lv_iconst (v := (-1)) hx hb dX9_cited_68 (by decide) ?_
            exact hR (some (.int (-1))) (wdX9 cI cZ cB ad σ17) _ _ _ _ (by rw [← Option.some.inj h]) (by rw [← Option.some.inj h]) rfl dX9_cited_69 hP hS
  rw [X9_cited] at h
  have hS := hS
  refine lv_aload_n hx hb dX9_cited_0 rfl (lv_at hl 0 rfl) ?_
  refine va_get (ci := 7) (v := .ref (ad 15)) (C := RX9) (T := TX9) (N := 15) hx hb hts hinX9 hown hK hP 0 rfl rfl 6 (by decide) fl4 (fun _ h9 => h9) rfl dX9_cited_1 ?_
  refine lv_iload_n hx hb dX9_cited_4 rfl (lv_at hl 1 rfl) ?_
  obtain ⟨r23, hr23, h⟩ := bd_e h
  refine cl_RV (rest := []) (ci := 2) (q0 := 0) ⟨hx, hb, hml, hown, hts⟩ (mX3_has l D cI cZ cB (mp ad [15, 16, 17, 18, 19, 20]) (mp σ [15, 16, 17, 18, 19, 20]) a1 r23 hr23) (cwV 1 hts gX9_cited_X3_has rfl rfl rfl (by decide +kernel) ⟨Nat.le_of_ble_eq_true rfl, Nat.le_of_ble_eq_true rfl⟩) hK (hP.sub (ws' := wdX3 cI cZ cB (mp ad [15, 16, 17, 18, 19, 20]) (mp σ [15, 16, 17, 18, 19, 20])) [15, 16, 17, 18, 19, 20] rfl) rfl rfl rfl rfl hl.1 rfl (Nat.le_of_ble_eq_true rfl) dX9_cited_5 ⟨Nat.zero_le _, Nat.zero_le _⟩ ?_
  refine W.eq (g2 := F0 m 8 ls [.int r23]) rfl ?_
  refine lv_if_ne (tgt := 13) hx hb dX9_cited_8 (by decide) (fun c24 => ?_) (fun c24 => ?_)
  · have h := ite_f c24 h
    refine lv_iload_n hx hb dX9_cited_13 rfl (lv_at hl 1 rfl) ?_
    refine lv_istore_n (lv' := [(3, .int a1), (0, .ref (ad 0)), (1, .int a1), (2, .int a2)]) hx hb dX9_cited_14 rfl hl (by decide) rfl (fun ls hl => ?_)
    refine lv_aload_n hx hb dX9_cited_15 rfl (lv_at hl 1 rfl) ?_
    refine va_get (ci := 7) (v := .ref (ad 15)) (C := RX9) (T := TX9) (N := 15) hx hb hts hinX9 hown hK hP 0 rfl rfl 6 (by decide) fl4 (fun _ h9 => h9) rfl dX9_cited_16 ?_
    refine va_get (ci := 2) (v := .ref (ad 16)) (C := RX3) (T := TX3) (N := 7) hx hb hts hinX3 hown hK hP 15 rfl rfl 0 (by decide) fl5 (fun _ h9 => h9) rfl dX9_cited_19 ?_
    refine lv_iload_n hx hb dX9_cited_22 rfl (lv_at hl 2 rfl) ?_
    obtain ⟨hin25, h⟩ := gd_e h
    refine va_iald hx hb hK hP 16 0 rfl rfl hin25 dX9_cited_23 ?_
    obtain ⟨x4_26, ex4_26, h⟩ := lt_e h
    refine lv_topE ex4_26 ?_
    refine lv_istore (lv' := [(4, .int x4_26), (3, .int a1), (0, .ref (ad 0)), (1, .int a1), (2, .int a2)]) hx hb dX9_cited_24 hl (by decide) rfl (fun ls hl => ?_)
    exact n26 FU a1 x4_26 σ _ _ hP hD hS _ (lv_sub hl [2, 3, 4, 1, 0] rfl) h
  · have h := ite_t c24 h
    refine lv_iconst (v := (-1)) hx hb dX9_cited_11 (by decide) ?_
    exact hR (some (.int (-1))) (wdX9 cI cZ cB ad σ) _ _ _ _ (by rw [← Option.some.inj h]) (by rw [← Option.some.inj h]) rfl dX9_cited_12 hP hS
set_option maxHeartbeats 4000000 in
set_option maxRecDepth 100000 in
theorem mX9_cited (K : Nat → Nat) (l : Launch) (D : va_G) (cI cZ cB : ClassId) (ad : Nat → Nat) (σ : Mem) (sz : Nat) (a1 : Int32) (a2 : Int32) (res : Int32 × Mem) (h : X9_cited a1 a2 σ = some res) : Met l yX9_cited wsX9_cited rmX9_cited (pWx K D cI cZ cB (wdX9 cI cZ cB ad σ) sz [.ref (ad 0), .int a1, .int a2]) (qW D (some (.int res.1)) (wdX9 cI cZ cB ad res.2) (va_A (wdX9 cI cZ cB ad σ) sz)) 0 0 (va_A (wdX9 cI cZ cB ad σ) sz) := (bX9_cited K l D cI cZ cB ad σ a1 a2 res h).met (by decide +kernel) rfl (Nat.le_of_ble_eq_true rfl)
def rmX9_readCitation : Room := { frames := 5, cells := 0, slots := 0, locals := 119 }
set_option maxHeartbeats 4000000 in
set_option maxRecDepth 100000 in
theorem bX9_readCitation (K : Nat → Nat) (l : Launch) (D : va_G) (cI cZ cB : ClassId) (ad : Nat → Nat) (σ : Mem) (res : Int32 × Mem) (h : X9_readCitation σ = some res) : BWx K l yX9_readCitation wsX9_readCitation rmX9_readCitation cX9_readCitation 3 (some .int) D cI cZ cB (wdX9 cI cZ cB ad σ) [.ref (ad 0)] (some (.int res.1)) (wdX9 cI cZ cB ad res.2) := by
  intro p e s m args below meth c ls Q A hx hb hml hts hown hX hK hA hP hD hS hl0 hR
  have hX0 := hX
  obtain ⟨⟨hZtS, hTtS, hZtF, hTtF, hZtG, hTtG⟩, ⟨hC1, hC2, hC3⟩, hR1, hR2, hR3, hR4, hR5⟩ := hX0
  have hinX4 : ∀ w ∈ u_ws RX4 TX4 5, w ∈ wsX9_readCitation := (fun _ h => List.mem_cons_of_mem _ (List.mem_append_left _ (List.mem_append_right _ h)))
  have hinX6 : ∀ w ∈ u_ws RX6 TX6 3, w ∈ wsX9_readCitation := (fun _ h => List.mem_cons_of_mem _ (List.mem_append_left _ (List.mem_append_left _ (List.mem_append_right _ h))))
  have hinX8 : ∀ w ∈ u_ws RX8 TX8 2, w ∈ wsX9_readCitation := (fun _ h => List.mem_cons_of_mem _ (List.mem_append_right _ h))
  have hinX9 : ∀ w ∈ u_ws RX9 TX9 15, w ∈ wsX9_readCitation := (fun _ h => List.mem_cons_of_mem _ (List.mem_append_left _ (List.mem_append_left _ (List.mem_append_left _ (List.mem_append_right _ h)))))
  have fl1 := hts (.fieldLink RX9 92 "LawNumberer" "faultKind" "I") (by decide +kernel)
  have fl2 := hts (.fieldLink RX9 75 "LawNumberer" "faultPlace" "I") (by decide +kernel)
  have fl3 := hts (.fieldLink RX9 22 "LawNumberer" "scheme" "LLawNumberer$Levels;") (by decide +kernel)
  have fl4 := hts (.fieldLink RX9 71 "LawNumberer$Levels" "size" "I") (by decide +kernel)
  have fl5 := hts (.fieldLink RX9 39 "LawNumberer" "labelReader" "LLawNumberer$LabelReader;") (by decide +kernel)
  have fl6 := hts (.fieldLink RX9 10 "LawNumberer" "tape" "LLawNumberer$Text;") (by decide +kernel)
  have fl7 := hts (.fieldLink RX9 246 "LawNumberer$LabelReader" "fault" "I") (by decide +kernel)
  have fl8 := hts (.fieldLink RX9 64 "LawNumberer" "path" "[I") (by decide +kernel)
  have fl9 := hts (.fieldLink RX9 250 "LawNumberer$LabelReader" "label" "I") (by decide +kernel)
  have fl10 := hts (.fieldLink RX9 247 "LawNumberer$LabelReader" "behind" "I") (by decide +kernel)
  have fl11 := hts (.fieldLink RX9 78 "LawNumberer$Text" "length" "I") (by decide +kernel)
  have fl12 := hts (.fieldLink RX9 272 "LawNumberer$LabelReader" "faultPlace" "I") (by decide +kernel)
  have hl : lv_has ls 3 [(0, .ref (ad 0))] := hl0
  have n131 : ∀ (x1 : Int32) (σ : Mem) (H : Heap) (locs : List Loc), va_P D vwCl (wdX9 cI cZ cB ad σ) H → va_D A (wdX9 cI cZ cB ad σ) → va_S A s.heap H locs → ∀ (ls : Array Slot), lv_has ls 3 [(0, .ref (ad 0)), (1, .int x1)] → X9_readCitation_131 x1 σ = some res → W p l e rmX9_readCitation s m args below meth c H locs 0 0 Q (F0 m 131 ls []) := by
    intro x1 σ H locs hP hD hS ls hl h
    rw [X9_readCitation_131] at h
    refine lv_aload_n hx hb dX9_readCitation_131 rfl (lv_at hl 0 rfl) ?_
    refine lv_iconst (v := 1) hx hb dX9_readCitation_132 (by decide) ?_
    obtain ⟨σ1, eσ1, h⟩ := lt_e h
    refine va_put (ci := 7) (v := .int 1) (ty := .int) (C := RX9) (T := TX9) (N := 15) hx hb hts hinX9 tyX9 tyX9_ok nmX9 hown hK hP hD hS 0 rfl rfl 11 (by decide) fl1 (fun _ h9 => h9) rfl (by decide +kernel) rfl rfl (Nat.le_of_ble_eq_true rfl) dX9_readCitation_133 (fun H locs hP1 hD1 hS => ?_)
    have hP : va_P D vwCl (wdX9 cI cZ cB ad σ1) H := by rw [eσ1]; exact hP1
    have hD : va_D A (wdX9 cI cZ cB ad σ1) := D_of (by rfl) hD
    refine lv_aload_n hx hb dX9_readCitation_136 rfl (lv_at hl 0 rfl) ?_
    refine lv_iload_n hx hb dX9_readCitation_137 rfl (lv_at hl 1 rfl) ?_
    obtain ⟨σ2, eσ2, h⟩ := lt_e h
    refine va_put (ci := 7) (v := .int x1) (ty := .int) (C := RX9) (T := TX9) (N := 15) hx hb hts hinX9 tyX9 tyX9_ok nmX9 hown hK hP hD hS 0 rfl rfl 12 (by decide) fl2 (fun _ h9 => h9) rfl (by decide +kernel) rfl rfl (Nat.le_of_ble_eq_true rfl) dX9_readCitation_138 (fun H locs hP1 hD1 hS => ?_)
    have hP : va_P D vwCl (wdX9 cI cZ cB ad σ2) H := by rw [eσ2]; exact hP1
    have hD : va_D A (wdX9 cI cZ cB ad σ2) := D_of (by rfl) hD
    refine lv_iconst (v := 0) hx hb dX9_readCitation_141 (by decide) ?_
    exact hR (some (.int 0)) (wdX9 cI cZ cB ad σ2) _ _ _ _ (by rw [← Option.some.inj h]) (by rw [← Option.some.inj h]) rfl dX9_readCitation_142 hP hS
  have n4 : ∀ (n : Nat) (x1 : Int32) (x2 : Int32) (σ : Mem) (H : Heap) (locs : List Loc), va_P D vwCl (wdX9 cI cZ cB ad σ) H → va_D A (wdX9 cI cZ cB ad σ) → va_S A s.heap H locs → ∀ (ls : Array Slot), lv_has ls 3 [(0, .ref (ad 0)), (1, .int x1), (2, .int x2)] → X9_readCitation_4 n x1 x2 σ = some res → W p l e rmX9_readCitation s m args below meth c H locs 0 0 Q (F0 m 4 ls []) := by
    intro n
    induction n with
    | zero =>
      intro x1 x2 σ H locs hP hD hS ls hl h
      rw [X9_readCitation_4] at h
      cases h
    | succ n_4 ih4 =>
      intro x1 x2 σ H locs hP hD hS ls hl h
      rw [X9_readCitation_4] at h
      refine lv_iload_n hx hb dX9_readCitation_4 rfl (lv_at hl 2 rfl) ?_
      refine lv_aload_n hx hb dX9_readCitation_5 rfl (lv_at hl 0 rfl) ?_
      refine va_get (ci := 7) (v := .ref (ad 5)) (C := RX9) (T := TX9) (N := 15) hx hb hts hinX9 hown hK hP 0 rfl rfl 2 (by decide) fl3 (fun _ h9 => h9) rfl dX9_readCitation_6 ?_
      refine va_get (ci := 4) (v := .int (σ 5 2)) (C := RX6) (T := TX6) (N := 3) hx hb hts hinX6 hown hK hP 5 rfl rfl 2 (by decide) fl4 (fun _ h9 => h9) rfl dX9_readCitation_9 ?_
      refine lv_icmp_ge (tgt := 152) hx hb dX9_readCitation_12 (by decide) (fun c3 => ?_) (fun c3 => ?_)
      · have h := ite_t c3 h
        refine lv_iconst (v := 0) hx hb dX9_readCitation_152 (by decide) ?_
        exact hR (some (.int 0)) (wdX9 cI cZ cB ad σ) _ _ _ _ (by rw [← Option.some.inj h]) (by rw [← Option.some.inj h]) rfl dX9_readCitation_153 hP hS
      · have h := ite_f c3 h
        refine lv_aload_n hx hb dX9_readCitation_15 rfl (lv_at hl 0 rfl) ?_
        refine va_get (ci := 7) (v := .ref (ad 12)) (C := RX9) (T := TX9) (N := 15) hx hb hts hinX9 hown hK hP 0 rfl rfl 5 (by decide) fl5 (fun _ h9 => h9) rfl dX9_readCitation_16 ?_
        refine lv_aload_n hx hb dX9_readCitation_19 rfl (lv_at hl 0 rfl) ?_
        refine va_get (ci := 7) (v := .ref (ad 1)) (C := RX9) (T := TX9) (N := 15) hx hb hts hinX9 hown hK hP 0 rfl rfl 0 (by decide) fl6 (fun _ h9 => h9) rfl dX9_readCitation_20 ?_
        refine lv_iload_n hx hb dX9_readCitation_23 rfl (lv_at hl 1 rfl) ?_
        refine lv_aload_n hx hb dX9_readCitation_24 rfl (lv_at hl 0 rfl) ?_
        refine va_get (ci := 7) (v := .ref (ad 5)) (C := RX9) (T := TX9) (N := 15) hx hb hts hinX9 hown hK hP 0 rfl rfl 2 (by decide) fl3 (fun _ h9 => h9) rfl dX9_readCitation_25 ?_
        refine lv_iload_n hx hb dX9_readCitation_28 rfl (lv_at hl 2 rfl) ?_
        obtain ⟨r4, hr4, h⟩ := bd_e h
        refine cl_RV (rest := [.int x1, .ref (ad 1), .ref (ad 12)]) (ci := 4) (q0 := 0) ⟨hx, hb, hml, hown, hts⟩ (mX6_formOf l D cI cZ cB (mp ad [5, 6, 7]) (mp σ [5, 6, 7]) x2 r4 hr4) (cwV 1 hts gX9_readCitation_X6_formOf rfl rfl rfl (by decide +kernel) ⟨Nat.le_of_ble_eq_true rfl, Nat.le_of_ble_eq_true rfl⟩) hK (hP.sub (ws' := wdX6 cI cZ cB (mp ad [5, 6, 7]) (mp σ [5, 6, 7])) [5, 6, 7] rfl) rfl rfl rfl rfl hl.1 rfl (Nat.le_of_ble_eq_true rfl) dX9_readCitation_29 ⟨Nat.zero_le _, Nat.zero_le _⟩ ?_
        refine W.eq (g2 := F0 m 32 ls [.int r4, .int x1, .ref (ad 1), .ref (ad 12)]) rfl ?_
        obtain ⟨r5, hr5, h⟩ := bd_e h
        obtain ⟨σ6, eσ6, h⟩ := lt_e h
        refine cl_WVx (rest := []) (wn := (wdX9 cI cZ cB ad σ6)) (lp := [12, 13, 14, 1, 2]) (ci := 3) (q0 := 0) ⟨hx, hb, hml, hown, hts⟩ (mX4_readAt K l D cI cZ cB (mp ad [12, 13, 14, 1, 2]) (mp σ [12, 13, 14, 1, 2]) H.size x1 r4 r5 hr5) (cwV 3 hts gX9_readCitation_X4_readAt rfl rfl rfl (by decide +kernel) ⟨Nat.le_of_ble_eq_true rfl, Nat.le_of_ble_eq_true rfl⟩) hX hK hP hD hS hA rfl rfl rfl (by rw [eσ6]; rfl) rfl rfl rfl rfl rfl hl.1 rfl (Nat.le_of_ble_eq_true rfl) dX9_readCitation_32 ⟨Nat.zero_le _, Nat.zero_le _⟩ (fun H locs hP hD hS => ?_)
        refine W.eq (g2 := F0 m 35 ls []) rfl ?_
        refine lv_aload_n hx hb dX9_readCitation_35 rfl (lv_at hl 0 rfl) ?_
        refine va_get (ci := 7) (v := .ref (ad 12)) (C := RX9) (T := TX9) (N := 15) hx hb hts hinX9 hown hK hP 0 rfl rfl 5 (by decide) fl5 (fun _ h9 => h9) rfl dX9_readCitation_36 ?_
        refine va_get (ci := 3) (v := .int (σ6 12 2)) (C := RX4) (T := TX4) (N := 5) hx hb hts hinX4 hown hK hP 12 rfl rfl 2 (by decide) fl7 (fun _ h9 => h9) rfl dX9_readCitation_39 ?_
        refine lv_if_eq (tgt := 69) hx hb dX9_readCitation_42 (by decide) (fun c7 => ?_) (fun c7 => ?_)
        · have h := ite_t c7 h
          refine lv_aload_n hx hb dX9_readCitation_69 rfl (lv_at hl 0 rfl) ?_
          refine va_get (ci := 7) (v := .ref (ad 31)) (C := RX9) (T := TX9) (N := 15) hx hb hts hinX9 hown hK hP 0 rfl rfl 9 (by decide) fl8 (fun _ h9 => h9) rfl dX9_readCitation_70 ?_
          refine lv_iload_n hx hb dX9_readCitation_73 rfl (lv_at hl 2 rfl) ?_
          refine lv_aload_n hx hb dX9_readCitation_74 rfl (lv_at hl 0 rfl) ?_
          refine va_get (ci := 7) (v := .ref (ad 12)) (C := RX9) (T := TX9) (N := 15) hx hb hts hinX9 hown hK hP 0 rfl rfl 5 (by decide) fl5 (fun _ h9 => h9) rfl dX9_readCitation_75 ?_
          refine va_get (ci := 3) (v := .int (σ6 12 0)) (C := RX4) (T := TX4) (N := 5) hx hb hts hinX4 hown hK hP 12 rfl rfl 0 (by decide) fl9 (fun _ h9 => h9) rfl dX9_readCitation_78 ?_
          obtain ⟨hin8, h⟩ := gd_e h
          obtain ⟨σ9, eσ9, h⟩ := lt_e h
          refine va_iast hx hb hK hP hD hS 31 0 rfl rfl hin8 dX9_readCitation_81 (fun H locs hP1 hD1 hS => ?_)
          have hP : va_P D vwCl (wdX9 cI cZ cB ad σ9) H := by rw [eσ9]; exact hP1
          have hD : va_D A (wdX9 cI cZ cB ad σ9) := D_of (by rfl) hD
          refine lv_aload_n hx hb dX9_readCitation_82 rfl (lv_at hl 0 rfl) ?_
          refine va_get (ci := 7) (v := .ref (ad 12)) (C := RX9) (T := TX9) (N := 15) hx hb hts hinX9 hown hK hP 0 rfl rfl 5 (by decide) fl5 (fun _ h9 => h9) rfl dX9_readCitation_83 ?_
          refine va_get (ci := 3) (v := .int (σ9 12 1)) (C := RX4) (T := TX4) (N := 5) hx hb hts hinX4 hown hK hP 12 rfl rfl 1 (by decide) fl10 (fun _ h9 => h9) rfl dX9_readCitation_86 ?_
          obtain ⟨x1_10, ex1_10, h⟩ := lt_e h
          refine lv_topE ex1_10 ?_
          refine lv_istore_n (lv' := [(1, .int x1_10), (0, .ref (ad 0)), (2, .int x2)]) hx hb dX9_readCitation_89 rfl hl (by decide) rfl (fun ls hl => ?_)
          refine lv_iload_n hx hb dX9_readCitation_90 rfl (lv_at hl 0 rfl) ?_
          refine lv_aload_n hx hb dX9_readCitation_91 rfl (lv_at hl 1 rfl) ?_
          refine va_get (ci := 7) (v := .ref (ad 1)) (C := RX9) (T := TX9) (N := 15) hx hb hts hinX9 hown hK hP 0 rfl rfl 0 (by decide) fl6 (fun _ h9 => h9) rfl dX9_readCitation_92 ?_
          refine va_get (ci := 6) (v := .int (σ9 1 1)) (C := RX8) (T := TX8) (N := 2) hx hb hts hinX8 hown hK hP 1 rfl rfl 1 (by decide) fl11 (fun _ h9 => h9) rfl dX9_readCitation_95 ?_
          refine lv_icmp_ne (tgt := 105) hx hb dX9_readCitation_98 (by decide) (fun c11 => ?_) (fun c11 => ?_)
          · have h := ite_f c11 h
            refine lv_aload_n hx hb dX9_readCitation_105 rfl (lv_at hl 1 rfl) ?_
            refine va_get (ci := 7) (v := .ref (ad 1)) (C := RX9) (T := TX9) (N := 15) hx hb hts hinX9 hown hK hP 0 rfl rfl 0 (by decide) fl6 (fun _ h9 => h9) rfl dX9_readCitation_106 ?_
            refine lv_iload_n hx hb dX9_readCitation_109 rfl (lv_at hl 0 rfl) ?_
            obtain ⟨r12, hr12, h⟩ := bd_e h
            refine cl_RV (rest := []) (ci := 6) (q0 := 0) ⟨hx, hb, hml, hown, hts⟩ (mX8_byteAt l D cI cZ cB (mp ad [1, 2]) (mp σ9 [1, 2]) x1_10 r12 hr12) (cwV 1 hts gX9_readCitation_X8_byteAt rfl rfl rfl (by decide +kernel) ⟨Nat.le_of_ble_eq_true rfl, Nat.le_of_ble_eq_true rfl⟩) hK (hP.sub (ws' := wdX8 cI cZ cB (mp ad [1, 2]) (mp σ9 [1, 2])) [1, 2] rfl) rfl rfl rfl rfl hl.1 rfl (Nat.le_of_ble_eq_true rfl) dX9_readCitation_110 ⟨Nat.zero_le _, Nat.zero_le _⟩ ?_
            refine W.eq (g2 := F0 m 113 ls [.int r12]) rfl ?_
            refine lv_bipush (v := 46) hx hb dX9_readCitation_113 (by decide) ?_
            refine lv_icmp_ne (tgt := 131) hx hb dX9_readCitation_115 (by decide) (fun c13 => ?_) (fun c13 => ?_)
            · have h := ite_f c13 h
              exact n131 x1_10 σ9 _ _ hP hD hS _ (lv_sub hl [1, 0] rfl) h
            · have h := ite_t c13 h
              refine lv_iload_n hx hb dX9_readCitation_118 rfl (lv_at hl 2 rfl) ?_
              refine lv_iconst (v := 1) hx hb dX9_readCitation_119 (by decide) ?_
              refine lv_iadd hx hb dX9_readCitation_120 ?_
              refine lv_aload_n hx hb dX9_readCitation_121 rfl (lv_at hl 1 rfl) ?_
              refine va_get (ci := 7) (v := .ref (ad 5)) (C := RX9) (T := TX9) (N := 15) hx hb hts hinX9 hown hK hP 0 rfl rfl 2 (by decide) fl3 (fun _ h9 => h9) rfl dX9_readCitation_122 ?_
              refine va_get (ci := 4) (v := .int (σ9 5 2)) (C := RX6) (T := TX6) (N := 3) hx hb hts hinX6 hown hK hP 5 rfl rfl 2 (by decide) fl4 (fun _ h9 => h9) rfl dX9_readCitation_125 ?_
              refine lv_icmp_ne (tgt := 143) hx hb dX9_readCitation_128 (by decide) (fun c14 => ?_) (fun c14 => ?_)
              · have h := ite_f c14 h
                obtain ⟨x1_15, ex1_15, h⟩ := lt_e h
                refine lv_iinc (v := x1_15) (lv' := [(1, .int x1_15), (0, .ref (ad 0)), (2, .int x2)]) hx hb dX9_readCitation_143 hl (k := 0) rfl (by rw [ex1_15]; rfl) (by decide) rfl (fun ls hl => ?_)
                obtain ⟨x2_16, ex2_16, h⟩ := lt_e h
                refine lv_iinc (v := x2_16) (lv' := [(2, .int x2_16), (1, .int x1_15), (0, .ref (ad 0))]) hx hb dX9_readCitation_146 hl (k := 2) rfl (by rw [ex2_16]; rfl) (by decide) rfl (fun ls hl => ?_)
                refine lv_goto (tgt := 4) hx hb dX9_readCitation_149 (by decide) ?_
                exact ih4 x1_15 x2_16 σ9 _ _ hP hD hS _ (lv_sub hl [2, 1, 0] rfl) h
              · have h := ite_t c14 h
                exact n131 x1_10 σ9 _ _ hP hD hS _ (lv_sub hl [1, 0] rfl) h
          · have h := ite_t c11 h
            refine lv_iload_n hx hb dX9_readCitation_101 rfl (lv_at hl 2 rfl) ?_
            refine lv_iconst (v := 1) hx hb dX9_readCitation_102 (by decide) ?_
            refine lv_iadd hx hb dX9_readCitation_103 ?_
            exact hR (some (.int (x2 + 1))) (wdX9 cI cZ cB ad σ9) _ _ _ _ (by rw [← Option.some.inj h]) (by rw [← Option.some.inj h]) rfl dX9_readCitation_104 hP hS
        · have h := ite_f c7 h
          refine lv_aload_n hx hb dX9_readCitation_45 rfl (lv_at hl 0 rfl) ?_
          refine lv_aload_n hx hb dX9_readCitation_46 rfl (lv_at hl 0 rfl) ?_
          refine va_get (ci := 7) (v := .ref (ad 12)) (C := RX9) (T := TX9) (N := 15) hx hb hts hinX9 hown hK hP 0 rfl rfl 5 (by decide) fl5 (fun _ h9 => h9) rfl dX9_readCitation_47 ?_
          refine va_get (ci := 3) (v := .int (σ6 12 2)) (C := RX4) (T := TX4) (N := 5) hx hb hts hinX4 hown hK hP 12 rfl rfl 2 (by decide) fl7 (fun _ h9 => h9) rfl dX9_readCitation_50 ?_
          obtain ⟨σ17, eσ17, h⟩ := lt_e h
          refine va_put (ci := 7) (v := .int (σ6 12 2)) (ty := .int) (C := RX9) (T := TX9) (N := 15) hx hb hts hinX9 tyX9 tyX9_ok nmX9 hown hK hP hD hS 0 rfl rfl 11 (by decide) fl1 (fun _ h9 => h9) rfl (by decide +kernel) rfl rfl (Nat.le_of_ble_eq_true rfl) dX9_readCitation_53 (fun H locs hP1 hD1 hS => ?_)
          have hP : va_P D vwCl (wdX9 cI cZ cB ad σ17) H := by rw [eσ17]; exact hP1
          have hD : va_D A (wdX9 cI cZ cB ad σ17) := D_of (by rfl) hD
          refine lv_aload_n hx hb dX9_readCitation_56 rfl (lv_at hl 0 rfl) ?_
          refine lv_aload_n hx hb dX9_readCitation_57 rfl (lv_at hl 0 rfl) ?_
          refine va_get (ci := 7) (v := .ref (ad 12)) (C := RX9) (T := TX9) (N := 15) hx hb hts hinX9 hown hK hP 0 rfl rfl 5 (by decide) fl5 (fun _ h9 => h9) rfl dX9_readCitation_58 ?_
          refine va_get (ci := 3) (v := .int (σ17 12 3)) (C := RX4) (T := TX4) (N := 5) hx hb hts hinX4 hown hK hP 12 rfl rfl 3 (by decide) fl12 (fun _ h9 => h9) rfl dX9_readCitation_61 ?_
          obtain ⟨σ18, eσ18, h⟩ := lt_e h
          refine va_put (ci := 7) (v := .int (σ17 12 3)) (ty := .int) (C := RX9) (T := TX9) (N := 15) hx hb hts hinX9 tyX9 tyX9_ok nmX9 hown hK hP hD hS 0 rfl rfl 12 (by decide) fl2 (fun _ h9 => h9) rfl (by decide +kernel) rfl rfl (Nat.le_of_ble_eq_true rfl) dX9_readCitation_64 (fun H locs hP1 hD1 hS => ?_)
          have hP : va_P D vwCl (wdX9 cI cZ cB ad σ18) H := by rw [eσ18]; exact hP1
          have hD : va_D A (wdX9 cI cZ cB ad σ18) := D_of (by rfl) hD
          refine lv_iconst (v := 0) hx hb dX9_readCitation_67 (by decide) ?_
          exact hR (some (.int 0)) (wdX9 cI cZ cB ad σ18) _ _ _ _ (by rw [← Option.some.inj h]) (by rw [← Option.some.inj h]) rfl dX9_readCitation_68 hP hS
  rw [X9_readCitation] at h
  have hS := hS
  refine lv_iconst (v := 0) hx hb dX9_readCitation_0 (by decide) ?_
  refine lv_istore_n (lv' := [(1, .int 0), (0, .ref (ad 0))]) hx hb dX9_readCitation_1 rfl hl (by decide) rfl (fun ls hl => ?_)
  refine lv_iconst (v := 0) hx hb dX9_readCitation_2 (by decide) ?_
  refine lv_istore_n (lv' := [(2, .int 0), (1, .int 0), (0, .ref (ad 0))]) hx hb dX9_readCitation_3 rfl hl (by decide) rfl (fun ls hl => ?_)
  exact n4 FU 0 0 σ _ _ hP hD hS _ (lv_sub hl [2, 1, 0] rfl) h
set_option maxHeartbeats 4000000 in
set_option maxRecDepth 100000 in
theorem mX9_readCitation (K : Nat → Nat) (l : Launch) (D : va_G) (cI cZ cB : ClassId) (ad : Nat → Nat) (σ : Mem) (sz : Nat) (res : Int32 × Mem) (h : X9_readCitation σ = some res) : Met l yX9_readCitation wsX9_readCitation rmX9_readCitation (pWx K D cI cZ cB (wdX9 cI cZ cB ad σ) sz [.ref (ad 0)]) (qW D (some (.int res.1)) (wdX9 cI cZ cB ad res.2) (va_A (wdX9 cI cZ cB ad σ) sz)) 0 0 (va_A (wdX9 cI cZ cB ad σ) sz) := (bX9_readCitation K l D cI cZ cB ad σ res h).met (by decide +kernel) rfl (Nat.le_of_ble_eq_true rfl)
def rmX9_bearsPath : Room := { frames := 1, cells := 0, slots := 0, locals := 23 }
set_option maxHeartbeats 4000000 in
set_option maxRecDepth 100000 in
theorem bX9_bearsPath (l : Launch) (D : va_G) (cI cZ cB : ClassId) (ad : Nat → Nat) (σ : Mem) (a1 : Int32) (a2 : Int32) (res : Int32) (h : X9_bearsPath a1 a2 σ = some res) : BR l yX9_bearsPath wsX9_bearsPath rmX9_bearsPath cX9_bearsPath 5 (some .boolean) D cI cZ cB (wdX9 cI cZ cB ad σ) [.ref (ad 0), .int a1, .int a2] (some (.int res)) := by
  intro p e s m args below meth c ls Q hx hb hml hts hown hK hP hl0 hR
  have hinX3 : ∀ w ∈ u_ws RX3 TX3 7, w ∈ wsX9_bearsPath := (fun _ h => List.mem_cons_of_mem _ (List.mem_append_left _ (List.mem_append_right _ h)))
  have hinX9 : ∀ w ∈ u_ws RX9 TX9 15, w ∈ wsX9_bearsPath := (fun _ h => List.mem_cons_of_mem _ (List.mem_append_left _ (List.mem_append_left _ (List.mem_append_right _ h))))
  have fl1 := hts (.fieldLink RX9 46 "LawNumberer" "items" "LLawNumberer$Items;") (by decide +kernel)
  have fl2 := hts (.fieldLink RX9 53 "LawNumberer" "history" "LLawNumberer$History;") (by decide +kernel)
  have fl3 := hts (.fieldLink RX9 64 "LawNumberer" "path" "[I") (by decide +kernel)
  have fl4 := hts (.fieldLink RX9 162 "LawNumberer$Items" "under" "[I") (by decide +kernel)
  have fl5 := hts (.fieldLink RX9 113 "LawNumberer$Items" "levels" "[I") (by decide +kernel)
  have hl : lv_has ls 5 [(0, .ref (ad 0)), (1, .int a1), (2, .int a2)] := hl0
  have n13 : ∀ (n : Nat) (x3 : Int32) (x4 : Int32) (ls : Array Slot), lv_has ls 5 [(0, .ref (ad 0)), (2, .int a2), (3, .int x3), (4, .int x4)] → X9_bearsPath_13 a1 a2 σ n x3 x4 = some res → W p l e rmX9_bearsPath s m args below meth c s.heap [] 0 0 Q (F0 m 13 ls []) := by
    intro n
    induction n with
    | zero =>
      intro x3 x4 ls hl h
      rw [X9_bearsPath_13] at h
      cases h
    | succ n_13 ih13 =>
      intro x3 x4 ls hl h
      rw [X9_bearsPath_13] at h
      refine lv_iload hx hb dX9_bearsPath_13 (lv_at hl 3 rfl) ?_
      refine lv_if_lt (tgt := 66) hx hb dX9_bearsPath_15 (by decide) (fun c1 => ?_) (fun c1 => ?_)
      · have h := ite_t c1 h
        refine lv_iconst (v := 1) hx hb dX9_bearsPath_66 (by decide) ?_
        exact hR (some (.int 1)) _ _ (by rw [← Option.some.inj h]) nb1 dX9_bearsPath_67
      · have h := ite_f c1 h
        refine lv_aload_n hx hb dX9_bearsPath_18 rfl (lv_at hl 0 rfl) ?_
        refine va_get (ci := 7) (v := .ref (ad 15)) (C := RX9) (T := TX9) (N := 15) hx hb hts hinX9 hown hK hP 0 rfl rfl 6 (by decide) fl1 (fun _ h9 => h9) rfl dX9_bearsPath_19 ?_
        refine lv_iload_n hx hb dX9_bearsPath_22 rfl (lv_at hl 2 rfl) ?_
        obtain ⟨r2, hr2, h⟩ := bd_e h
        refine cl_RV (rest := []) (ci := 2) (q0 := 0) ⟨hx, hb, hml, hown, hts⟩ (mX3_has l D cI cZ cB (mp ad [15, 16, 17, 18, 19, 20]) (mp σ [15, 16, 17, 18, 19, 20]) x3 r2 hr2) (cwV 1 hts gX9_bearsPath_X3_has rfl rfl rfl (by decide +kernel) ⟨Nat.le_of_ble_eq_true rfl, Nat.le_of_ble_eq_true rfl⟩) hK (hP.sub (ws' := wdX3 cI cZ cB (mp ad [15, 16, 17, 18, 19, 20]) (mp σ [15, 16, 17, 18, 19, 20])) [15, 16, 17, 18, 19, 20] rfl) rfl rfl rfl rfl hl.1 rfl (Nat.le_of_ble_eq_true rfl) dX9_bearsPath_23 ⟨Nat.zero_le _, Nat.zero_le _⟩ ?_
        refine W.eq (g2 := F0 m 26 ls [.int r2]) rfl ?_
        refine lv_if_eq (tgt := 66) hx hb dX9_bearsPath_26 (by decide) (fun c3 => ?_) (fun c3 => ?_)
        · have h := ite_t c3 h
          refine lv_iconst (v := 1) hx hb dX9_bearsPath_66 (by decide) ?_
          exact hR (some (.int 1)) _ _ (by rw [← Option.some.inj h]) nb1 dX9_bearsPath_67
        · have h := ite_f c3 h
          refine lv_aload_n hx hb dX9_bearsPath_29 rfl (lv_at hl 0 rfl) ?_
          refine va_get (ci := 7) (v := .ref (ad 21)) (C := RX9) (T := TX9) (N := 15) hx hb hts hinX9 hown hK hP 0 rfl rfl 7 (by decide) fl2 (fun _ h9 => h9) rfl dX9_bearsPath_30 ?_
          refine lv_iload_n hx hb dX9_bearsPath_33 rfl (lv_at hl 2 rfl) ?_
          refine lv_iload_n hx hb dX9_bearsPath_34 rfl (lv_at hl 1 rfl) ?_
          obtain ⟨r4, hr4, h⟩ := bd_e h
          refine cl_RV (rest := []) (ci := 1) (q0 := 0) ⟨hx, hb, hml, hown, hts⟩ (mX2_asOf l D cI cZ cB (mp ad [21, 22, 23, 24, 25, 26]) (mp σ [21, 22, 23, 24, 25, 26, 32]) x3 a2 r4 hr4) (cwV 2 hts gX9_bearsPath_X2_asOf rfl rfl rfl (by decide +kernel) ⟨Nat.le_of_ble_eq_true rfl, Nat.le_of_ble_eq_true rfl⟩) hK (hP.sub (ws' := wdX2 cI cZ cB (mp ad [21, 22, 23, 24, 25, 26]) (mp σ [21, 22, 23, 24, 25, 26, 32])) [21, 22, 23, 24, 25, 26] rfl) rfl rfl rfl rfl hl.1 rfl (Nat.le_of_ble_eq_true rfl) dX9_bearsPath_35 ⟨Nat.zero_le _, Nat.zero_le _⟩ ?_
          refine W.eq (g2 := F0 m 38 ls [.int r4]) rfl ?_
          refine lv_aload_n hx hb dX9_bearsPath_38 rfl (lv_at hl 0 rfl) ?_
          refine va_get (ci := 7) (v := .ref (ad 31)) (C := RX9) (T := TX9) (N := 15) hx hb hts hinX9 hown hK hP 0 rfl rfl 9 (by decide) fl3 (fun _ h9 => h9) rfl dX9_bearsPath_39 ?_
          refine lv_iload hx hb dX9_bearsPath_42 (lv_at hl 3 rfl) ?_
          obtain ⟨hin5, h⟩ := gd_e h
          refine va_iald hx hb hK hP 31 0 rfl rfl hin5 dX9_bearsPath_44 ?_
          refine lv_icmp_eq (tgt := 50) hx hb dX9_bearsPath_45 (by decide) (fun c6 => ?_) (fun c6 => ?_)
          · have h := ite_t c6 h
            refine lv_aload_n hx hb dX9_bearsPath_50 rfl (lv_at hl 0 rfl) ?_
            refine va_get (ci := 7) (v := .ref (ad 15)) (C := RX9) (T := TX9) (N := 15) hx hb hts hinX9 hown hK hP 0 rfl rfl 6 (by decide) fl1 (fun _ h9 => h9) rfl dX9_bearsPath_51 ?_
            refine va_get (ci := 2) (v := .ref (ad 17)) (C := RX3) (T := TX3) (N := 7) hx hb hts hinX3 hown hK hP 15 rfl rfl 1 (by decide) fl4 (fun _ h9 => h9) rfl dX9_bearsPath_54 ?_
            refine lv_iload_n hx hb dX9_bearsPath_57 rfl (lv_at hl 2 rfl) ?_
            obtain ⟨hin7, h⟩ := gd_e h
            refine va_iald hx hb hK hP 17 0 rfl rfl hin7 dX9_bearsPath_58 ?_
            obtain ⟨x3_8, ex3_8, h⟩ := lt_e h
            refine lv_topE ex3_8 ?_
            refine lv_istore_n (lv' := [(3, .int x3_8), (0, .ref (ad 0)), (2, .int a2), (4, .int x4)]) hx hb dX9_bearsPath_59 rfl hl (by decide) rfl (fun ls hl => ?_)
            obtain ⟨x4_9, ex4_9, h⟩ := lt_e h
            refine lv_iinc (v := x4_9) (lv' := [(4, .int x4_9), (3, .int x3_8), (0, .ref (ad 0)), (2, .int a2)]) hx hb dX9_bearsPath_60 hl (k := 3) rfl (by rw [ex4_9]; rfl) (by decide) rfl (fun ls hl => ?_)
            refine lv_goto (tgt := 13) hx hb dX9_bearsPath_63 (by decide) ?_
            exact ih13 x3_8 x4_9 _ (lv_sub hl [2, 3, 1, 0] rfl) h
          · have h := ite_f c6 h
            refine lv_iconst (v := 0) hx hb dX9_bearsPath_48 (by decide) ?_
            exact hR (some (.int 0)) _ _ (by rw [← Option.some.inj h]) nb0 dX9_bearsPath_49
  rw [X9_bearsPath] at h
  refine lv_iload_n hx hb dX9_bearsPath_0 rfl (lv_at hl 1 rfl) ?_
  refine lv_istore_n (lv' := [(3, .int a1), (0, .ref (ad 0)), (1, .int a1), (2, .int a2)]) hx hb dX9_bearsPath_1 rfl hl (by decide) rfl (fun ls hl => ?_)
  refine lv_aload_n hx hb dX9_bearsPath_2 rfl (lv_at hl 1 rfl) ?_
  refine va_get (ci := 7) (v := .ref (ad 15)) (C := RX9) (T := TX9) (N := 15) hx hb hts hinX9 hown hK hP 0 rfl rfl 6 (by decide) fl1 (fun _ h9 => h9) rfl dX9_bearsPath_3 ?_
  refine va_get (ci := 2) (v := .ref (ad 16)) (C := RX3) (T := TX3) (N := 7) hx hb hts hinX3 hown hK hP 15 rfl rfl 0 (by decide) fl5 (fun _ h9 => h9) rfl dX9_bearsPath_6 ?_
  refine lv_iload_n hx hb dX9_bearsPath_9 rfl (lv_at hl 2 rfl) ?_
  obtain ⟨hin10, h⟩ := gd_e h
  refine va_iald hx hb hK hP 16 0 rfl rfl hin10 dX9_bearsPath_10 ?_
  obtain ⟨x4_11, ex4_11, h⟩ := lt_e h
  refine lv_topE ex4_11 ?_
  refine lv_istore (lv' := [(4, .int x4_11), (3, .int a1), (0, .ref (ad 0)), (1, .int a1), (2, .int a2)]) hx hb dX9_bearsPath_11 hl (by decide) rfl (fun ls hl => ?_)
  exact n13 FU a1 x4_11 _ (lv_sub hl [2, 4, 1, 0] rfl) h
set_option maxHeartbeats 4000000 in
set_option maxRecDepth 100000 in
theorem mX9_bearsPath (l : Launch) (D : va_G) (cI cZ cB : ClassId) (ad : Nat → Nat) (σ : Mem) (a1 : Int32) (a2 : Int32) (res : Int32) (h : X9_bearsPath a1 a2 σ = some res) : Met l yX9_bearsPath wsX9_bearsPath rmX9_bearsPath (pR D cI cZ cB (wdX9 cI cZ cB ad σ) [.ref (ad 0), .int a1, .int a2]) (qR (some (.int res))) 0 0 (fun _ => False) := (bX9_bearsPath l D cI cZ cB ad σ a1 a2 res h).met (by decide +kernel) rfl (Nat.le_of_ble_eq_true rfl)
def rmX9_cite : Room := { frames := 6, cells := 0, slots := 0, locals := 141 }
set_option maxHeartbeats 4000000 in
set_option maxRecDepth 100000 in
theorem bX9_cite (K : Nat → Nat) (l : Launch) (D : va_G) (cI cZ cB : ClassId) (ad : Nat → Nat) (σ : Mem) (a1 : Int32) (res : Int32 × Mem) (h : X9_cite a1 σ = some res) : BWx K l yX9_cite wsX9_cite rmX9_cite cX9_cite 6 (some .int) D cI cZ cB (wdX9 cI cZ cB ad σ) [.ref (ad 0), .int a1] (some (.int res.1)) (wdX9 cI cZ cB ad res.2) := by
  intro p e s m args below meth c ls Q A hx hb hml hts hown hX hK hA hP hD hS hl0 hR
  have hX0 := hX
  obtain ⟨⟨hZtS, hTtS, hZtF, hTtF, hZtG, hTtG⟩, ⟨hC1, hC2, hC3⟩, hR1, hR2, hR3, hR4, hR5⟩ := hX0
  have hinX3 : ∀ w ∈ u_ws RX3 TX3 7, w ∈ wsX9_cite := (fun _ h => List.mem_cons_of_mem _ (List.mem_append_left _ (List.mem_append_left _ (List.mem_append_left _ (List.mem_append_right _ h)))))
  have hinX8 : ∀ w ∈ u_ws RX8 TX8 2, w ∈ wsX9_cite := (fun _ h => List.mem_cons_of_mem _ (List.mem_append_left _ (List.mem_append_left _ (List.mem_append_left _ (List.mem_append_left _ (List.mem_append_right _ h))))))
  have hinX9 : ∀ w ∈ u_ws RX9 TX9 15, w ∈ wsX9_cite := (fun _ h => List.mem_cons_of_mem _ (List.mem_append_left _ (List.mem_append_left _ (List.mem_append_left _ (List.mem_append_left _ (List.mem_append_left _ (List.mem_append_right _ h)))))))
  have fl1 := hts (.fieldLink RX9 46 "LawNumberer" "items" "LLawNumberer$Items;") (by decide +kernel)
  have fl2 := hts (.fieldLink RX9 108 "LawNumberer$Items" "size" "I") (by decide +kernel)
  have fl3 := hts (.fieldLink RX9 159 "LawNumberer$Items" "order" "[I") (by decide +kernel)
  have fl4 := hts (.fieldLink RX9 113 "LawNumberer$Items" "levels" "[I") (by decide +kernel)
  have fl5 := hts (.fieldLink RX9 237 "LawNumberer" "bearing" "I") (by decide +kernel)
  have fl6 := hts (.fieldLink RX9 92 "LawNumberer" "faultKind" "I") (by decide +kernel)
  have fl7 := hts (.fieldLink RX9 75 "LawNumberer" "faultPlace" "I") (by decide +kernel)
  have fl8 := hts (.fieldLink RX9 10 "LawNumberer" "tape" "LLawNumberer$Text;") (by decide +kernel)
  have fl9 := hts (.fieldLink RX9 78 "LawNumberer$Text" "length" "I") (by decide +kernel)
  have hl : lv_has ls 6 [(0, .ref (ad 0)), (1, .int a1)] := hl0
  have n58 : ∀ (n : Nat) (x2 : Int32) (x3 : Int32) (x4 : Int32) (σ : Mem) (H : Heap) (locs : List Loc), va_P D vwCl (wdX9 cI cZ cB ad σ) H → va_D A (wdX9 cI cZ cB ad σ) → va_S A s.heap H locs → ∀ (ls : Array Slot), lv_has ls 6 [(0, .ref (ad 0)), (1, .int a1), (2, .int x2), (3, .int x3), (4, .int x4)] → X9_cite_58 a1 n x2 x3 x4 σ = some res → W p l e rmX9_cite s m args below meth c H locs 0 0 Q (F0 m 58 ls []) := by
    intro n
    induction n with
    | zero =>
      intro x2 x3 x4 σ H locs hP hD hS ls hl h
      rw [X9_cite_58] at h
      cases h
    | succ n_58 ih58 =>
      intro x2 x3 x4 σ H locs hP hD hS ls hl h
      rw [X9_cite_58] at h
      refine lv_iload hx hb dX9_cite_58 (lv_at hl 4 rfl) ?_
      refine lv_aload_n hx hb dX9_cite_60 rfl (lv_at hl 0 rfl) ?_
      refine va_get (ci := 7) (v := .ref (ad 15)) (C := RX9) (T := TX9) (N := 15) hx hb hts hinX9 hown hK hP 0 rfl rfl 6 (by decide) fl1 (fun _ h9 => h9) rfl dX9_cite_61 ?_
      refine va_get (ci := 2) (v := .int (σ 15 5)) (C := RX3) (T := TX3) (N := 7) hx hb hts hinX3 hown hK hP 15 rfl rfl 5 (by decide) fl2 (fun _ h9 => h9) rfl dX9_cite_64 ?_
      refine lv_icmp_ge (tgt := 136) hx hb dX9_cite_67 (by decide) (fun c1 => ?_) (fun c1 => ?_)
      · have h := ite_t c1 h
        refine lv_iload_n hx hb dX9_cite_136 rfl (lv_at hl 3 rfl) ?_
        exact hR (some (.int x3)) (wdX9 cI cZ cB ad σ) _ _ _ _ (by rw [← Option.some.inj h]) (by rw [← Option.some.inj h]) rfl dX9_cite_137 hP hS
      · have h := ite_f c1 h
        refine lv_aload_n hx hb dX9_cite_70 rfl (lv_at hl 0 rfl) ?_
        refine va_get (ci := 7) (v := .ref (ad 15)) (C := RX9) (T := TX9) (N := 15) hx hb hts hinX9 hown hK hP 0 rfl rfl 6 (by decide) fl1 (fun _ h9 => h9) rfl dX9_cite_71 ?_
        refine va_get (ci := 2) (v := .ref (ad 20)) (C := RX3) (T := TX3) (N := 7) hx hb hts hinX3 hown hK hP 15 rfl rfl 4 (by decide) fl3 (fun _ h9 => h9) rfl dX9_cite_74 ?_
        refine lv_iload hx hb dX9_cite_77 (lv_at hl 4 rfl) ?_
        obtain ⟨hin2, h⟩ := gd_e h
        refine va_iald hx hb hK hP 20 0 rfl rfl hin2 dX9_cite_79 ?_
        obtain ⟨x5_3, ex5_3, h⟩ := lt_e h
        refine lv_topE ex5_3 ?_
        refine lv_istore (lv' := [(5, .int x5_3), (0, .ref (ad 0)), (1, .int a1), (2, .int x2), (3, .int x3), (4, .int x4)]) hx hb dX9_cite_80 hl (by decide) rfl (fun ls hl => ?_)
        refine lv_aload_n hx hb dX9_cite_82 rfl (lv_at hl 1 rfl) ?_
        refine va_get (ci := 7) (v := .ref (ad 15)) (C := RX9) (T := TX9) (N := 15) hx hb hts hinX9 hown hK hP 0 rfl rfl 6 (by decide) fl1 (fun _ h9 => h9) rfl dX9_cite_83 ?_
        refine va_get (ci := 2) (v := .ref (ad 16)) (C := RX3) (T := TX3) (N := 7) hx hb hts hinX3 hown hK hP 15 rfl rfl 0 (by decide) fl4 (fun _ h9 => h9) rfl dX9_cite_86 ?_
        refine lv_iload hx hb dX9_cite_89 (lv_at hl 0 rfl) ?_
        obtain ⟨hin4, h⟩ := gd_e h
        refine va_iald hx hb hK hP 16 0 rfl rfl hin4 dX9_cite_91 ?_
        refine lv_iload_n hx hb dX9_cite_92 rfl (lv_at hl 3 rfl) ?_
        refine lv_iconst (v := 1) hx hb dX9_cite_93 (by decide) ?_
        refine lv_isub hx hb dX9_cite_94 ?_
        refine lv_icmp_ne (tgt := 130) hx hb dX9_cite_95 (by decide) (fun c5 => ?_) (fun c5 => ?_)
        · have h := ite_f c5 h
          obtain ⟨x4_6, ex4_6, h⟩ := lt_e h
          refine lv_iinc (v := x4_6) (lv' := [(4, .int x4_6), (5, .int x5_3), (0, .ref (ad 0)), (1, .int a1), (2, .int x2), (3, .int x3)]) hx hb dX9_cite_130 hl (k := 5) rfl (by rw [ex4_6]; rfl) (by decide) rfl (fun ls hl => ?_)
          refine lv_goto (tgt := 58) hx hb dX9_cite_133 (by decide) ?_
          exact ih58 x2 x3 x4_6 σ _ _ hP hD hS _ (lv_sub hl [2, 3, 4, 5, 0] rfl) h
        · have h := ite_t c5 h
          refine lv_aload_n hx hb dX9_cite_98 rfl (lv_at hl 1 rfl) ?_
          refine lv_iload hx hb dX9_cite_99 (lv_at hl 0 rfl) ?_
          refine lv_iload_n hx hb dX9_cite_101 rfl (lv_at hl 2 rfl) ?_
          obtain ⟨r7, hr7, h⟩ := bd_e h
          refine cl_RV (rest := []) (ci := 7) (q0 := 0) ⟨hx, hb, hml, hown, hts⟩ (mX9_bearsPath l D cI cZ cB ad σ x5_3 a1 r7 hr7) (cwV 2 hts gX9_cite_X9_bearsPath rfl rfl rfl (by decide +kernel) ⟨Nat.le_of_ble_eq_true rfl, Nat.le_of_ble_eq_true rfl⟩) hK hP rfl rfl rfl rfl hl.1 rfl (Nat.le_of_ble_eq_true rfl) dX9_cite_102 ⟨Nat.zero_le _, Nat.zero_le _⟩ ?_
          refine W.eq (g2 := F0 m 105 ls [.int r7]) rfl ?_
          refine lv_if_eq (tgt := 130) hx hb dX9_cite_105 (by decide) (fun c8 => ?_) (fun c8 => ?_)
          · have h := ite_t c8 h
            obtain ⟨x4_9, ex4_9, h⟩ := lt_e h
            refine lv_iinc (v := x4_9) (lv' := [(4, .int x4_9), (5, .int x5_3), (0, .ref (ad 0)), (1, .int a1), (2, .int x2), (3, .int x3)]) hx hb dX9_cite_130 hl (k := 5) rfl (by rw [ex4_9]; rfl) (by decide) rfl (fun ls hl => ?_)
            refine lv_goto (tgt := 58) hx hb dX9_cite_133 (by decide) ?_
            exact ih58 x2 x3 x4_9 σ _ _ hP hD hS _ (lv_sub hl [2, 3, 4, 5, 0] rfl) h
          · have h := ite_f c8 h
            refine lv_aload_n hx hb dX9_cite_108 rfl (lv_at hl 1 rfl) ?_
            refine lv_dup hx hb dX9_cite_109 rfl ?_
            refine va_get (ci := 7) (v := .int (σ 0 13)) (C := RX9) (T := TX9) (N := 15) hx hb hts hinX9 hown hK hP 0 rfl rfl 13 (by decide) fl5 (fun _ h9 => h9) rfl dX9_cite_110 ?_
            refine lv_iconst (v := 1) hx hb dX9_cite_113 (by decide) ?_
            refine lv_iadd hx hb dX9_cite_114 ?_
            obtain ⟨σ10, eσ10, h⟩ := lt_e h
            refine va_put (ci := 7) (v := .int ((σ 0 13) + 1)) (ty := .int) (C := RX9) (T := TX9) (N := 15) hx hb hts hinX9 tyX9 tyX9_ok nmX9 hown hK hP hD hS 0 rfl rfl 13 (by decide) fl5 (fun _ h9 => h9) rfl (by decide +kernel) rfl rfl (Nat.le_of_ble_eq_true rfl) dX9_cite_115 (fun H locs hP1 hD1 hS => ?_)
            have hP : va_P D vwCl (wdX9 cI cZ cB ad σ10) H := by rw [eσ10]; exact hP1
            have hD : va_D A (wdX9 cI cZ cB ad σ10) := D_of (by rfl) hD
            refine lv_iload_n hx hb dX9_cite_118 rfl (lv_at hl 4 rfl) ?_
            refine lv_iconst (v := (-1)) hx hb dX9_cite_119 (by decide) ?_
            refine lv_icmp_ne (tgt := 128) hx hb dX9_cite_120 (by decide) (fun c11 => ?_) (fun c11 => ?_)
            · have h := ite_f c11 h
              refine lv_iload_n hx hb dX9_cite_128 rfl (lv_at hl 4 rfl) ?_
              refine lv_istore_n (lv' := [(3, .int x3), (5, .int x5_3), (0, .ref (ad 0)), (1, .int a1), (2, .int x2), (4, .int x4)]) hx hb dX9_cite_129 rfl hl (by decide) rfl (fun ls hl => ?_)
              obtain ⟨x4_12, ex4_12, h⟩ := lt_e h
              refine lv_iinc (v := x4_12) (lv' := [(4, .int x4_12), (3, .int x3), (5, .int x5_3), (0, .ref (ad 0)), (1, .int a1), (2, .int x2)]) hx hb dX9_cite_130 hl (k := 5) rfl (by rw [ex4_12]; rfl) (by decide) rfl (fun ls hl => ?_)
              refine lv_goto (tgt := 58) hx hb dX9_cite_133 (by decide) ?_
              exact ih58 x2 x3 x4_12 σ10 _ _ hP hD hS _ (lv_sub hl [3, 4, 5, 1, 0] rfl) h
            · have h := ite_t c11 h
              refine lv_iload hx hb dX9_cite_123 (lv_at hl 0 rfl) ?_
              refine lv_goto (tgt := 129) hx hb dX9_cite_125 (by decide) ?_
              refine lv_istore_n (lv' := [(3, .int x5_3), (5, .int x5_3), (0, .ref (ad 0)), (1, .int a1), (2, .int x2), (4, .int x4)]) hx hb dX9_cite_129 rfl hl (by decide) rfl (fun ls hl => ?_)
              obtain ⟨x4_13, ex4_13, h⟩ := lt_e h
              refine lv_iinc (v := x4_13) (lv' := [(4, .int x4_13), (3, .int x5_3), (5, .int x5_3), (0, .ref (ad 0)), (1, .int a1), (2, .int x2)]) hx hb dX9_cite_130 hl (k := 5) rfl (by rw [ex4_13]; rfl) (by decide) rfl (fun ls hl => ?_)
              refine lv_goto (tgt := 58) hx hb dX9_cite_133 (by decide) ?_
              exact ih58 x2 x5_3 x4_13 σ10 _ _ hP hD hS _ (lv_sub hl [3, 4, 5, 1, 0] rfl) h
  rw [X9_cite] at h
  have hS := hS
  refine lv_aload_n hx hb dX9_cite_0 rfl (lv_at hl 0 rfl) ?_
  refine lv_iconst (v := 0) hx hb dX9_cite_1 (by decide) ?_
  obtain ⟨σ14, eσ14, h⟩ := lt_e h
  refine va_put (ci := 7) (v := .int 0) (ty := .int) (C := RX9) (T := TX9) (N := 15) hx hb hts hinX9 tyX9 tyX9_ok nmX9 hown hK hP hD hS 0 rfl rfl 11 (by decide) fl6 (fun _ h9 => h9) rfl (by decide +kernel) rfl rfl (Nat.le_of_ble_eq_true rfl) dX9_cite_2 (fun H locs hP1 hD1 hS => ?_)
  have hP : va_P D vwCl (wdX9 cI cZ cB ad σ14) H := by rw [eσ14]; exact hP1
  have hD : va_D A (wdX9 cI cZ cB ad σ14) := D_of (by rfl) hD
  refine lv_aload_n hx hb dX9_cite_5 rfl (lv_at hl 0 rfl) ?_
  refine lv_iconst (v := (-1)) hx hb dX9_cite_6 (by decide) ?_
  obtain ⟨σ15, eσ15, h⟩ := lt_e h
  refine va_put (ci := 7) (v := .int (-1)) (ty := .int) (C := RX9) (T := TX9) (N := 15) hx hb hts hinX9 tyX9 tyX9_ok nmX9 hown hK hP hD hS 0 rfl rfl 12 (by decide) fl7 (fun _ h9 => h9) rfl (by decide +kernel) rfl rfl (Nat.le_of_ble_eq_true rfl) dX9_cite_7 (fun H locs hP1 hD1 hS => ?_)
  have hP : va_P D vwCl (wdX9 cI cZ cB ad σ15) H := by rw [eσ15]; exact hP1
  have hD : va_D A (wdX9 cI cZ cB ad σ15) := D_of (by rfl) hD
  refine lv_iload_n hx hb dX9_cite_10 rfl (lv_at hl 1 rfl) ?_
  refine lv_if_ge (tgt := 25) hx hb dX9_cite_11 (by decide) (fun c16 => ?_) (fun c16 => ?_)
  · have h := ite_t c16 h
    refine lv_aload_n hx hb dX9_cite_25 rfl (lv_at hl 0 rfl) ?_
    obtain ⟨r17, hr17, h⟩ := bd_e h
    obtain ⟨σ18, eσ18, h⟩ := lt_e h
    refine cl_WVsx (rest := []) (wn := (wdX9 cI cZ cB ad σ18)) (ci := 7) (q0 := 0) ⟨hx, hb, hml, hown, hts⟩ (mX9_readCitation K l D cI cZ cB ad σ15 H.size r17 hr17) (cwV 0 hts gX9_cite_X9_readCitation rfl rfl rfl (by decide +kernel) ⟨Nat.le_of_ble_eq_true rfl, Nat.le_of_ble_eq_true rfl⟩) hX hK hP hD hS hA (by rw [eσ18]) rfl rfl rfl rfl rfl hl.1 rfl (Nat.le_of_ble_eq_true rfl) dX9_cite_26 ⟨Nat.zero_le _, Nat.zero_le _⟩ (fun H locs hP hD hS => ?_)
    refine W.eq (g2 := F0 m 29 ls [.int r17.1]) rfl ?_
    obtain ⟨x2_19, ex2_19, h⟩ := lt_e h
    refine lv_topE ex2_19 ?_
    refine lv_istore_n (lv' := [(2, .int x2_19), (0, .ref (ad 0)), (1, .int a1)]) hx hb dX9_cite_29 rfl hl (by decide) rfl (fun ls hl => ?_)
    refine lv_aload_n hx hb dX9_cite_30 rfl (lv_at hl 1 rfl) ?_
    refine va_get (ci := 7) (v := .ref (ad 1)) (C := RX9) (T := TX9) (N := 15) hx hb hts hinX9 hown hK hP 0 rfl rfl 0 (by decide) fl8 (fun _ h9 => h9) rfl dX9_cite_31 ?_
    refine lv_iconst (v := 0) hx hb dX9_cite_34 (by decide) ?_
    obtain ⟨σ20, eσ20, h⟩ := lt_e h
    refine va_put (ci := 6) (v := .int 0) (ty := .int) (C := RX8) (T := TX8) (N := 2) hx hb hts hinX8 tyX8 tyX8_ok nmX8 hown hK hP hD hS 1 rfl rfl 1 (by decide) fl9 (fun _ h9 => h9) rfl (by decide +kernel) rfl rfl (Nat.le_of_ble_eq_true rfl) dX9_cite_35 (fun H locs hP1 hD1 hS => ?_)
    have hP : va_P D vwCl (wdX9 cI cZ cB ad σ20) H := by rw [eσ20]; exact hP1
    have hD : va_D A (wdX9 cI cZ cB ad σ20) := D_of (by rfl) hD
    refine lv_aload_n hx hb dX9_cite_38 rfl (lv_at hl 1 rfl) ?_
    refine va_get (ci := 7) (v := .int (σ20 0 11)) (C := RX9) (T := TX9) (N := 15) hx hb hts hinX9 hown hK hP 0 rfl rfl 11 (by decide) fl6 (fun _ h9 => h9) rfl dX9_cite_39 ?_
    refine lv_if_eq (tgt := 48) hx hb dX9_cite_42 (by decide) (fun c21 => ?_) (fun c21 => ?_)
    · have h := ite_t c21 h
      refine lv_aload_n hx hb dX9_cite_48 rfl (lv_at hl 1 rfl) ?_
      refine lv_iconst (v := 0) hx hb dX9_cite_49 (by decide) ?_
      obtain ⟨σ22, eσ22, h⟩ := lt_e h
      refine va_put (ci := 7) (v := .int 0) (ty := .int) (C := RX9) (T := TX9) (N := 15) hx hb hts hinX9 tyX9 tyX9_ok nmX9 hown hK hP hD hS 0 rfl rfl 13 (by decide) fl5 (fun _ h9 => h9) rfl (by decide +kernel) rfl rfl (Nat.le_of_ble_eq_true rfl) dX9_cite_50 (fun H locs hP1 hD1 hS => ?_)
      have hP : va_P D vwCl (wdX9 cI cZ cB ad σ22) H := by rw [eσ22]; exact hP1
      have hD : va_D A (wdX9 cI cZ cB ad σ22) := D_of (by rfl) hD
      refine lv_iconst (v := (-1)) hx hb dX9_cite_53 (by decide) ?_
      refine lv_istore_n (lv' := [(3, .int (-1)), (2, .int x2_19), (0, .ref (ad 0)), (1, .int a1)]) hx hb dX9_cite_54 rfl hl (by decide) rfl (fun ls hl => ?_)
      refine lv_iconst (v := 0) hx hb dX9_cite_55 (by decide) ?_
      refine lv_istore (lv' := [(4, .int 0), (3, .int (-1)), (2, .int x2_19), (0, .ref (ad 0)), (1, .int a1)]) hx hb dX9_cite_56 hl (by decide) rfl (fun ls hl => ?_)
      exact n58 FU x2_19 (-1) 0 σ22 _ _ hP hD hS _ (lv_sub hl [3, 4, 2, 1, 0] rfl) h
    · have h := ite_f c21 h
      refine lv_bipush (v := (-2)) hx hb dX9_cite_45 (by decide) ?_
      exact hR (some (.int (-2))) (wdX9 cI cZ cB ad σ20) _ _ _ _ (by rw [← Option.some.inj h]) (by rw [← Option.some.inj h]) rfl dX9_cite_47 hP hS
  · have h := ite_f c16 h
    refine lv_aload_n hx hb dX9_cite_14 rfl (lv_at hl 0 rfl) ?_
    refine va_get (ci := 7) (v := .ref (ad 1)) (C := RX9) (T := TX9) (N := 15) hx hb hts hinX9 hown hK hP 0 rfl rfl 0 (by decide) fl8 (fun _ h9 => h9) rfl dX9_cite_15 ?_
    refine lv_iconst (v := 0) hx hb dX9_cite_18 (by decide) ?_
    obtain ⟨σ23, eσ23, h⟩ := lt_e h
    refine va_put (ci := 6) (v := .int 0) (ty := .int) (C := RX8) (T := TX8) (N := 2) hx hb hts hinX8 tyX8 tyX8_ok nmX8 hown hK hP hD hS 1 rfl rfl 1 (by decide) fl9 (fun _ h9 => h9) rfl (by decide +kernel) rfl rfl (Nat.le_of_ble_eq_true rfl) dX9_cite_19 (fun H locs hP1 hD1 hS => ?_)
    have hP : va_P D vwCl (wdX9 cI cZ cB ad σ23) H := by rw [eσ23]; exact hP1
    have hD : va_D A (wdX9 cI cZ cB ad σ23) := D_of (by rfl) hD
    refine lv_bipush (v := (-3)) hx hb dX9_cite_22 (by decide) ?_
    exact hR (some (.int (-3))) (wdX9 cI cZ cB ad σ23) _ _ _ _ (by rw [← Option.some.inj h]) (by rw [← Option.some.inj h]) rfl dX9_cite_24 hP hS
set_option maxHeartbeats 4000000 in
set_option maxRecDepth 100000 in
theorem mX9_cite (K : Nat → Nat) (l : Launch) (D : va_G) (cI cZ cB : ClassId) (ad : Nat → Nat) (σ : Mem) (sz : Nat) (a1 : Int32) (res : Int32 × Mem) (h : X9_cite a1 σ = some res) : Met l yX9_cite wsX9_cite rmX9_cite (pWx K D cI cZ cB (wdX9 cI cZ cB ad σ) sz [.ref (ad 0), .int a1]) (qW D (some (.int res.1)) (wdX9 cI cZ cB ad res.2) (va_A (wdX9 cI cZ cB ad σ) sz)) 0 0 (va_A (wdX9 cI cZ cB ad σ) sz) := (bX9_cite K l D cI cZ cB ad σ a1 res h).met (by decide +kernel) rfl (Nat.le_of_ble_eq_true rfl)
def rmX9_place : Room := { frames := 0, cells := 0, slots := 0, locals := 0 }
set_option maxHeartbeats 4000000 in
set_option maxRecDepth 100000 in
theorem bX9_place (l : Launch) (D : va_G) (cI cZ cB : ClassId) (ad : Nat → Nat) (σ : Mem) (res : Int32) (h : X9_place σ = some res) : BR l yX9_place wsX9_place rmX9_place cX9_place 1 (some .int) D cI cZ cB (wdX9 cI cZ cB ad σ) [.ref (ad 0)] (some (.int res)) := by
  intro p e s m args below meth c ls Q hx hb hml hts hown hK hP hl0 hR
  have hinX9 : ∀ w ∈ u_ws RX9 TX9 15, w ∈ wsX9_place := (fun _ h => List.mem_cons_of_mem _ (List.mem_append_right _ h))
  have fl1 := hts (.fieldLink RX9 75 "LawNumberer" "faultPlace" "I") (by decide +kernel)
  have hl : lv_has ls 1 [(0, .ref (ad 0))] := hl0
  rw [X9_place] at h
  refine lv_aload_n hx hb dX9_place_0 rfl (lv_at hl 0 rfl) ?_
  refine va_get (ci := 7) (v := .int (σ 0 12)) (C := RX9) (T := TX9) (N := 15) hx hb hts hinX9 hown hK hP 0 rfl rfl 12 (by decide) fl1 (fun _ h9 => h9) rfl dX9_place_1 ?_
  exact hR (some (.int (σ 0 12))) _ _ (by rw [← Option.some.inj h]) rfl dX9_place_4
set_option maxHeartbeats 4000000 in
set_option maxRecDepth 100000 in
theorem mX9_place (l : Launch) (D : va_G) (cI cZ cB : ClassId) (ad : Nat → Nat) (σ : Mem) (res : Int32) (h : X9_place σ = some res) : Met l yX9_place wsX9_place rmX9_place (pR D cI cZ cB (wdX9 cI cZ cB ad σ) [.ref (ad 0)]) (qR (some (.int res))) 0 0 (fun _ => False) := (bX9_place l D cI cZ cB ad σ res h).met (by decide +kernel) rfl (Nat.le_of_ble_eq_true rfl)
def rmX9_bearers : Room := { frames := 0, cells := 0, slots := 0, locals := 0 }
set_option maxHeartbeats 4000000 in
set_option maxRecDepth 100000 in
theorem bX9_bearers (l : Launch) (D : va_G) (cI cZ cB : ClassId) (ad : Nat → Nat) (σ : Mem) (res : Int32) (h : X9_bearers σ = some res) : BR l yX9_bearers wsX9_bearers rmX9_bearers cX9_bearers 1 (some .int) D cI cZ cB (wdX9 cI cZ cB ad σ) [.ref (ad 0)] (some (.int res)) := by
  intro p e s m args below meth c ls Q hx hb hml hts hown hK hP hl0 hR
  have hinX9 : ∀ w ∈ u_ws RX9 TX9 15, w ∈ wsX9_bearers := (fun _ h => List.mem_cons_of_mem _ (List.mem_append_right _ h))
  have fl1 := hts (.fieldLink RX9 237 "LawNumberer" "bearing" "I") (by decide +kernel)
  have hl : lv_has ls 1 [(0, .ref (ad 0))] := hl0
  rw [X9_bearers] at h
  refine lv_aload_n hx hb dX9_bearers_0 rfl (lv_at hl 0 rfl) ?_
  refine va_get (ci := 7) (v := .int (σ 0 13)) (C := RX9) (T := TX9) (N := 15) hx hb hts hinX9 hown hK hP 0 rfl rfl 13 (by decide) fl1 (fun _ h9 => h9) rfl dX9_bearers_1 ?_
  exact hR (some (.int (σ 0 13))) _ _ (by rw [← Option.some.inj h]) rfl dX9_bearers_4
set_option maxHeartbeats 4000000 in
set_option maxRecDepth 100000 in
theorem mX9_bearers (l : Launch) (D : va_G) (cI cZ cB : ClassId) (ad : Nat → Nat) (σ : Mem) (res : Int32) (h : X9_bearers σ = some res) : Met l yX9_bearers wsX9_bearers rmX9_bearers (pR D cI cZ cB (wdX9 cI cZ cB ad σ) [.ref (ad 0)]) (qR (some (.int res))) 0 0 (fun _ => False) := (bX9_bearers l D cI cZ cB ad σ res h).met (by decide +kernel) rfl (Nat.le_of_ble_eq_true rfl)
def rmX9_read : Room := { frames := 5, cells := 0, slots := 0, locals := 119 }
set_option maxHeartbeats 4000000 in
set_option maxRecDepth 100000 in
theorem bX9_read (K : Nat → Nat) (l : Launch) (D : va_G) (cI cZ cB : ClassId) (ad : Nat → Nat) (σ : Mem) (a1 : Int32) (res : Int32 × Mem) (h : X9_read a1 σ = some res) : BWx K l yX9_read wsX9_read rmX9_read cX9_read 3 (some .int) D cI cZ cB (wdX9 cI cZ cB ad σ) [.ref (ad 0), .int a1] (some (.int res.1)) (wdX9 cI cZ cB ad res.2) := by
  intro p e s m args below meth c ls Q A hx hb hml hts hown hX hK hA hP hD hS hl0 hR
  have hX0 := hX
  obtain ⟨⟨hZtS, hTtS, hZtF, hTtF, hZtG, hTtG⟩, ⟨hC1, hC2, hC3⟩, hR1, hR2, hR3, hR4, hR5⟩ := hX0
  have hinX4 : ∀ w ∈ u_ws RX4 TX4 5, w ∈ wsX9_read := (fun _ h => List.mem_cons_of_mem _ (List.mem_append_left _ (List.mem_append_right _ h)))
  have hinX8 : ∀ w ∈ u_ws RX8 TX8 2, w ∈ wsX9_read := (fun _ h => List.mem_cons_of_mem _ (List.mem_append_right _ h))
  have hinX9 : ∀ w ∈ u_ws RX9 TX9 15, w ∈ wsX9_read := (fun _ h => List.mem_cons_of_mem _ (List.mem_append_left _ (List.mem_append_left _ (List.mem_append_right _ h))))
  have fl1 := hts (.fieldLink RX9 10 "LawNumberer" "tape" "LLawNumberer$Text;") (by decide +kernel)
  have fl2 := hts (.fieldLink RX9 78 "LawNumberer$Text" "length" "I") (by decide +kernel)
  have fl3 := hts (.fieldLink RX9 39 "LawNumberer" "labelReader" "LLawNumberer$LabelReader;") (by decide +kernel)
  have fl4 := hts (.fieldLink RX9 246 "LawNumberer$LabelReader" "fault" "I") (by decide +kernel)
  have fl5 := hts (.fieldLink RX9 247 "LawNumberer$LabelReader" "behind" "I") (by decide +kernel)
  have fl6 := hts (.fieldLink RX9 250 "LawNumberer$LabelReader" "label" "I") (by decide +kernel)
  have fl7 := hts (.fieldLink RX9 259 "LawNumberer" "readSuffix" "I") (by decide +kernel)
  have hl : lv_has ls 3 [(0, .ref (ad 0)), (1, .int a1)] := hl0
  have n76 : ∀ (x2 : Int32) (σ : Mem) (H : Heap) (locs : List Loc), va_P D vwCl (wdX9 cI cZ cB ad σ) H → va_D A (wdX9 cI cZ cB ad σ) → va_S A s.heap H locs → ∀ (ls : Array Slot), lv_has ls 3 [(0, .ref (ad 0)), (2, .int x2)] → X9_read_76 a1 x2 σ = some res → W p l e rmX9_read s m args below meth c H locs 0 0 Q (F0 m 76 ls []) := by
    intro x2 σ H locs hP hD hS ls hl h
    rw [X9_read_76] at h
    refine lv_aload_n hx hb dX9_read_76 rfl (lv_at hl 0 rfl) ?_
    refine va_get (ci := 7) (v := .ref (ad 1)) (C := RX9) (T := TX9) (N := 15) hx hb hts hinX9 hown hK hP 0 rfl rfl 0 (by decide) fl1 (fun _ h9 => h9) rfl dX9_read_77 ?_
    refine lv_iconst (v := 0) hx hb dX9_read_80 (by decide) ?_
    obtain ⟨σ1, eσ1, h⟩ := lt_e h
    refine va_put (ci := 6) (v := .int 0) (ty := .int) (C := RX8) (T := TX8) (N := 2) hx hb hts hinX8 tyX8 tyX8_ok nmX8 hown hK hP hD hS 1 rfl rfl 1 (by decide) fl2 (fun _ h9 => h9) rfl (by decide +kernel) rfl rfl (Nat.le_of_ble_eq_true rfl) dX9_read_81 (fun H locs hP1 hD1 hS => ?_)
    have hP : va_P D vwCl (wdX9 cI cZ cB ad σ1) H := by rw [eσ1]; exact hP1
    have hD : va_D A (wdX9 cI cZ cB ad σ1) := D_of (by rfl) hD
    refine lv_iload_n hx hb dX9_read_84 rfl (lv_at hl 1 rfl) ?_
    exact hR (some (.int x2)) (wdX9 cI cZ cB ad σ1) _ _ _ _ (by rw [← Option.some.inj h]) (by rw [← Option.some.inj h]) rfl dX9_read_85 hP hS
  rw [X9_read] at h
  have hS := hS
  refine lv_iconst (v := (-1)) hx hb dX9_read_0 (by decide) ?_
  refine lv_istore_n (lv' := [(2, .int (-1)), (0, .ref (ad 0)), (1, .int a1)]) hx hb dX9_read_1 rfl hl (by decide) rfl (fun ls hl => ?_)
  refine lv_iload_n hx hb dX9_read_2 rfl (lv_at hl 2 rfl) ?_
  refine lv_if_lt (tgt := 76) hx hb dX9_read_3 (by decide) (fun c2 => ?_) (fun c2 => ?_)
  · have h := ite_t c2 h
    exact n76 (-1) σ _ _ hP hD hS _ (lv_sub hl [1, 0] rfl) h
  · have h := ite_f c2 h
    refine lv_iload_n hx hb dX9_read_6 rfl (lv_at hl 2 rfl) ?_
    refine lv_iconst (v := 4) hx hb dX9_read_7 (by decide) ?_
    refine lv_icmp_ge (tgt := 76) hx hb dX9_read_8 (by decide) (fun c3 => ?_) (fun c3 => ?_)
    · have h := ite_t c3 h
      exact n76 (-1) σ _ _ hP hD hS _ (lv_sub hl [1, 0] rfl) h
    · have h := ite_f c3 h
      refine lv_aload_n hx hb dX9_read_11 rfl (lv_at hl 1 rfl) ?_
      refine va_get (ci := 7) (v := .ref (ad 12)) (C := RX9) (T := TX9) (N := 15) hx hb hts hinX9 hown hK hP 0 rfl rfl 5 (by decide) fl3 (fun _ h9 => h9) rfl dX9_read_12 ?_
      refine lv_aload_n hx hb dX9_read_15 rfl (lv_at hl 1 rfl) ?_
      refine va_get (ci := 7) (v := .ref (ad 1)) (C := RX9) (T := TX9) (N := 15) hx hb hts hinX9 hown hK hP 0 rfl rfl 0 (by decide) fl1 (fun _ h9 => h9) rfl dX9_read_16 ?_
      refine lv_iconst (v := 0) hx hb dX9_read_19 (by decide) ?_
      refine lv_iload_n hx hb dX9_read_20 rfl (lv_at hl 2 rfl) ?_
      obtain ⟨r4, hr4, h⟩ := bd_e h
      obtain ⟨σ5, eσ5, h⟩ := lt_e h
      refine cl_WVx (rest := []) (wn := (wdX9 cI cZ cB ad σ5)) (lp := [12, 13, 14, 1, 2]) (ci := 3) (q0 := 0) ⟨hx, hb, hml, hown, hts⟩ (mX4_readAt K l D cI cZ cB (mp ad [12, 13, 14, 1, 2]) (mp σ [12, 13, 14, 1, 2]) s.heap.size 0 a1 r4 hr4) (cwV 3 hts gX9_read_X4_readAt rfl rfl rfl (by decide +kernel) ⟨Nat.le_of_ble_eq_true rfl, Nat.le_of_ble_eq_true rfl⟩) hX hK hP hD hS hA rfl rfl rfl (by rw [eσ5]; rfl) rfl rfl rfl rfl rfl hl.1 rfl (Nat.le_of_ble_eq_true rfl) dX9_read_21 ⟨Nat.zero_le _, Nat.zero_le _⟩ (fun H locs hP hD hS => ?_)
      refine W.eq (g2 := F0 m 24 ls []) rfl ?_
      refine lv_aload_n hx hb dX9_read_24 rfl (lv_at hl 1 rfl) ?_
      refine va_get (ci := 7) (v := .ref (ad 12)) (C := RX9) (T := TX9) (N := 15) hx hb hts hinX9 hown hK hP 0 rfl rfl 5 (by decide) fl3 (fun _ h9 => h9) rfl dX9_read_25 ?_
      refine va_get (ci := 3) (v := .int (σ5 12 2)) (C := RX4) (T := TX4) (N := 5) hx hb hts hinX4 hown hK hP 12 rfl rfl 2 (by decide) fl4 (fun _ h9 => h9) rfl dX9_read_28 ?_
      refine lv_if_ne (tgt := 76) hx hb dX9_read_31 (by decide) (fun c6 => ?_) (fun c6 => ?_)
      · have h := ite_f c6 h
        exact n76 (-1) σ5 _ _ hP hD hS _ (lv_sub hl [1, 0] rfl) h
      · have h := ite_t c6 h
        refine lv_aload_n hx hb dX9_read_34 rfl (lv_at hl 1 rfl) ?_
        refine va_get (ci := 7) (v := .ref (ad 12)) (C := RX9) (T := TX9) (N := 15) hx hb hts hinX9 hown hK hP 0 rfl rfl 5 (by decide) fl3 (fun _ h9 => h9) rfl dX9_read_35 ?_
        refine va_get (ci := 3) (v := .int (σ5 12 1)) (C := RX4) (T := TX4) (N := 5) hx hb hts hinX4 hown hK hP 12 rfl rfl 1 (by decide) fl5 (fun _ h9 => h9) rfl dX9_read_38 ?_
        refine lv_aload_n hx hb dX9_read_41 rfl (lv_at hl 1 rfl) ?_
        refine va_get (ci := 7) (v := .ref (ad 1)) (C := RX9) (T := TX9) (N := 15) hx hb hts hinX9 hown hK hP 0 rfl rfl 0 (by decide) fl1 (fun _ h9 => h9) rfl dX9_read_42 ?_
        refine va_get (ci := 6) (v := .int (σ5 1 1)) (C := RX8) (T := TX8) (N := 2) hx hb hts hinX8 hown hK hP 1 rfl rfl 1 (by decide) fl2 (fun _ h9 => h9) rfl dX9_read_45 ?_
        refine lv_icmp_ne (tgt := 76) hx hb dX9_read_48 (by decide) (fun c7 => ?_) (fun c7 => ?_)
        · have h := ite_f c7 h
          exact n76 (-1) σ5 _ _ hP hD hS _ (lv_sub hl [1, 0] rfl) h
        · have h := ite_t c7 h
          refine lv_aload_n hx hb dX9_read_51 rfl (lv_at hl 1 rfl) ?_
          refine va_get (ci := 7) (v := .ref (ad 12)) (C := RX9) (T := TX9) (N := 15) hx hb hts hinX9 hown hK hP 0 rfl rfl 5 (by decide) fl3 (fun _ h9 => h9) rfl dX9_read_52 ?_
          refine va_get (ci := 3) (v := .int (σ5 12 0)) (C := RX4) (T := TX4) (N := 5) hx hb hts hinX4 hown hK hP 12 rfl rfl 0 (by decide) fl6 (fun _ h9 => h9) rfl dX9_read_55 ?_
          obtain ⟨r8, hr8, h⟩ := bd_e h
          refine cl_RS (rest := []) ⟨hx, hb, hml, hown, hts⟩ (mX5_numberOf l D cI cZ cB (σ5 12 0) r8 hr8) (va_cwS 1 hts gX9_read_X5_numberOf rfl rfl rfl (by decide +kernel) ⟨Nat.le_of_ble_eq_true rfl, Nat.le_of_ble_eq_true rfl⟩) hK wd0_P rfl hl.1 rfl (Nat.le_of_ble_eq_true rfl) dX9_read_58 ⟨Nat.zero_le _, Nat.zero_le _⟩ ?_
          refine W.eq (g2 := F0 m 61 ls [.int r8]) rfl ?_
          refine lv_istore_n (lv' := [(2, .int r8), (0, .ref (ad 0)), (1, .int a1)]) hx hb dX9_read_61 rfl hl (by decide) rfl (fun ls hl => ?_)
          refine lv_aload_n hx hb dX9_read_62 rfl (lv_at hl 1 rfl) ?_
          refine lv_aload_n hx hb dX9_read_63 rfl (lv_at hl 1 rfl) ?_
          refine va_get (ci := 7) (v := .ref (ad 12)) (C := RX9) (T := TX9) (N := 15) hx hb hts hinX9 hown hK hP 0 rfl rfl 5 (by decide) fl3 (fun _ h9 => h9) rfl dX9_read_64 ?_
          refine va_get (ci := 3) (v := .int (σ5 12 0)) (C := RX4) (T := TX4) (N := 5) hx hb hts hinX4 hown hK hP 12 rfl rfl 0 (by decide) fl6 (fun _ h9 => h9) rfl dX9_read_67 ?_
          obtain ⟨r9, hr9, h⟩ := bd_e h
          refine cl_RS (rest := [.ref (ad 0)]) ⟨hx, hb, hml, hown, hts⟩ (mX5_suffixOf l D cI cZ cB (σ5 12 0) r9 hr9) (va_cwS 1 hts gX9_read_X5_suffixOf rfl rfl rfl (by decide +kernel) ⟨Nat.le_of_ble_eq_true rfl, Nat.le_of_ble_eq_true rfl⟩) hK wd0_P rfl hl.1 rfl (Nat.le_of_ble_eq_true rfl) dX9_read_70 ⟨Nat.zero_le _, Nat.zero_le _⟩ ?_
          refine W.eq (g2 := F0 m 73 ls [.int r9, .ref (ad 0)]) rfl ?_
          obtain ⟨σ10, eσ10, h⟩ := lt_e h
          refine va_put (ci := 7) (v := .int r9) (ty := .int) (C := RX9) (T := TX9) (N := 15) hx hb hts hinX9 tyX9 tyX9_ok nmX9 hown hK hP hD hS 0 rfl rfl 14 (by decide) fl7 (fun _ h9 => h9) rfl (by decide +kernel) rfl rfl (Nat.le_of_ble_eq_true rfl) dX9_read_73 (fun H locs hP1 hD1 hS => ?_)
          have hP : va_P D vwCl (wdX9 cI cZ cB ad σ10) H := by rw [eσ10]; exact hP1
          have hD : va_D A (wdX9 cI cZ cB ad σ10) := D_of (by rfl) hD
          exact n76 r8 σ10 _ _ hP hD hS _ (lv_sub hl [1, 0] rfl) h
set_option maxHeartbeats 4000000 in
set_option maxRecDepth 100000 in
theorem mX9_read (K : Nat → Nat) (l : Launch) (D : va_G) (cI cZ cB : ClassId) (ad : Nat → Nat) (σ : Mem) (sz : Nat) (a1 : Int32) (res : Int32 × Mem) (h : X9_read a1 σ = some res) : Met l yX9_read wsX9_read rmX9_read (pWx K D cI cZ cB (wdX9 cI cZ cB ad σ) sz [.ref (ad 0), .int a1]) (qW D (some (.int res.1)) (wdX9 cI cZ cB ad res.2) (va_A (wdX9 cI cZ cB ad σ) sz)) 0 0 (va_A (wdX9 cI cZ cB ad σ) sz) := (bX9_read K l D cI cZ cB ad σ a1 res h).met (by decide +kernel) rfl (Nat.le_of_ble_eq_true rfl)
def rmX9_suffix : Room := { frames := 0, cells := 0, slots := 0, locals := 0 }
set_option maxHeartbeats 4000000 in
set_option maxRecDepth 100000 in
theorem bX9_suffix (l : Launch) (D : va_G) (cI cZ cB : ClassId) (ad : Nat → Nat) (σ : Mem) (res : Int32) (h : X9_suffix σ = some res) : BR l yX9_suffix wsX9_suffix rmX9_suffix cX9_suffix 1 (some .int) D cI cZ cB (wdX9 cI cZ cB ad σ) [.ref (ad 0)] (some (.int res)) := by
  intro p e s m args below meth c ls Q hx hb hml hts hown hK hP hl0 hR
  have hinX9 : ∀ w ∈ u_ws RX9 TX9 15, w ∈ wsX9_suffix := (fun _ h => List.mem_cons_of_mem _ (List.mem_append_right _ h))
  have fl1 := hts (.fieldLink RX9 259 "LawNumberer" "readSuffix" "I") (by decide +kernel)
  have hl : lv_has ls 1 [(0, .ref (ad 0))] := hl0
  rw [X9_suffix] at h
  refine lv_aload_n hx hb dX9_suffix_0 rfl (lv_at hl 0 rfl) ?_
  refine va_get (ci := 7) (v := .int (σ 0 14)) (C := RX9) (T := TX9) (N := 15) hx hb hts hinX9 hown hK hP 0 rfl rfl 14 (by decide) fl1 (fun _ h9 => h9) rfl dX9_suffix_1 ?_
  exact hR (some (.int (σ 0 14))) _ _ (by rw [← Option.some.inj h]) rfl dX9_suffix_4
set_option maxHeartbeats 4000000 in
set_option maxRecDepth 100000 in
theorem mX9_suffix (l : Launch) (D : va_G) (cI cZ cB : ClassId) (ad : Nat → Nat) (σ : Mem) (res : Int32) (h : X9_suffix σ = some res) : Met l yX9_suffix wsX9_suffix rmX9_suffix (pR D cI cZ cB (wdX9 cI cZ cB ad σ) [.ref (ad 0)]) (qR (some (.int res))) 0 0 (fun _ => False) := (bX9_suffix l D cI cZ cB ad σ res h).met (by decide +kernel) rfl (Nat.le_of_ble_eq_true rfl)
def rmX9_clash : Room := { frames := 3, cells := 0, slots := 0, locals := 71 }
set_option maxHeartbeats 4000000 in
set_option maxRecDepth 100000 in
theorem bX9_clash (l : Launch) (D : va_G) (cI cZ cB : ClassId) (ad : Nat → Nat) (σ : Mem) (res : Int32) (h : X9_clash σ = some res) : BR l yX9_clash wsX9_clash rmX9_clash cX9_clash 5 (some .int) D cI cZ cB (wdX9 cI cZ cB ad σ) [.ref (ad 0)] (some (.int res)) := by
  intro p e s m args below meth c ls Q hx hb hml hts hown hK hP hl0 hR
  have hinX3 : ∀ w ∈ u_ws RX3 TX3 7, w ∈ wsX9_clash := (fun _ h => List.mem_cons_of_mem _ (List.mem_append_left _ (List.mem_append_left _ (List.mem_append_right _ h))))
  have hinX9 : ∀ w ∈ u_ws RX9 TX9 15, w ∈ wsX9_clash := (fun _ h => List.mem_cons_of_mem _ (List.mem_append_left _ (List.mem_append_left _ (List.mem_append_left _ (List.mem_append_right _ h)))))
  have fl1 := hts (.fieldLink RX9 46 "LawNumberer" "items" "LLawNumberer$Items;") (by decide +kernel)
  have fl2 := hts (.fieldLink RX9 108 "LawNumberer$Items" "size" "I") (by decide +kernel)
  have fl3 := hts (.fieldLink RX9 159 "LawNumberer$Items" "order" "[I") (by decide +kernel)
  have fl4 := hts (.fieldLink RX9 113 "LawNumberer$Items" "levels" "[I") (by decide +kernel)
  have fl5 := hts (.fieldLink RX9 53 "LawNumberer" "history" "LLawNumberer$History;") (by decide +kernel)
  have fl6 := hts (.fieldLink RX9 162 "LawNumberer$Items" "under" "[I") (by decide +kernel)
  have fl7 := hts (.fieldLink RX9 22 "LawNumberer" "scheme" "LLawNumberer$Levels;") (by decide +kernel)
  have hl : lv_has ls 5 [(0, .ref (ad 0))] := hl0
  have n2 : ∀ (n : Nat) (x1 : Int32) (ls : Array Slot), lv_has ls 5 [(0, .ref (ad 0)), (1, .int x1)] → X9_clash_2 σ n x1 = some res → W p l e rmX9_clash s m args below meth c s.heap [] 0 0 Q (F0 m 2 ls []) := by
    intro n
    induction n with
    | zero =>
      intro x1 ls hl h
      rw [X9_clash_2] at h
      cases h
    | succ n_2 ih2 =>
      intro x1 ls hl h
      rw [X9_clash_2] at h
      refine lv_iload_n hx hb dX9_clash_2 rfl (lv_at hl 1 rfl) ?_
      refine lv_aload_n hx hb dX9_clash_3 rfl (lv_at hl 0 rfl) ?_
      refine va_get (ci := 7) (v := .ref (ad 15)) (C := RX9) (T := TX9) (N := 15) hx hb hts hinX9 hown hK hP 0 rfl rfl 6 (by decide) fl1 (fun _ h9 => h9) rfl dX9_clash_4 ?_
      refine va_get (ci := 2) (v := .int (σ 15 5)) (C := RX3) (T := TX3) (N := 7) hx hb hts hinX3 hown hK hP 15 rfl rfl 5 (by decide) fl2 (fun _ h9 => h9) rfl dX9_clash_7 ?_
      refine lv_icmp_ge (tgt := 87) hx hb dX9_clash_10 (by decide) (fun c1 => ?_) (fun c1 => ?_)
      · have h := ite_t c1 h
        refine lv_iconst (v := (-1)) hx hb dX9_clash_87 (by decide) ?_
        exact hR (some (.int (-1))) _ _ (by rw [← Option.some.inj h]) rfl dX9_clash_88
      · have h := ite_f c1 h
        refine lv_aload_n hx hb dX9_clash_13 rfl (lv_at hl 0 rfl) ?_
        refine va_get (ci := 7) (v := .ref (ad 15)) (C := RX9) (T := TX9) (N := 15) hx hb hts hinX9 hown hK hP 0 rfl rfl 6 (by decide) fl1 (fun _ h9 => h9) rfl dX9_clash_14 ?_
        refine va_get (ci := 2) (v := .ref (ad 20)) (C := RX3) (T := TX3) (N := 7) hx hb hts hinX3 hown hK hP 15 rfl rfl 4 (by decide) fl3 (fun _ h9 => h9) rfl dX9_clash_17 ?_
        refine lv_iload_n hx hb dX9_clash_20 rfl (lv_at hl 1 rfl) ?_
        obtain ⟨hin2, h⟩ := gd_e h
        refine va_iald hx hb hK hP 20 0 rfl rfl hin2 dX9_clash_21 ?_
        obtain ⟨x2_3, ex2_3, h⟩ := lt_e h
        refine lv_topE ex2_3 ?_
        refine lv_istore_n (lv' := [(2, .int x2_3), (0, .ref (ad 0)), (1, .int x1)]) hx hb dX9_clash_22 rfl hl (by decide) rfl (fun ls hl => ?_)
        refine lv_aload_n hx hb dX9_clash_23 rfl (lv_at hl 1 rfl) ?_
        refine va_get (ci := 7) (v := .ref (ad 15)) (C := RX9) (T := TX9) (N := 15) hx hb hts hinX9 hown hK hP 0 rfl rfl 6 (by decide) fl1 (fun _ h9 => h9) rfl dX9_clash_24 ?_
        refine va_get (ci := 2) (v := .ref (ad 16)) (C := RX3) (T := TX3) (N := 7) hx hb hts hinX3 hown hK hP 15 rfl rfl 0 (by decide) fl4 (fun _ h9 => h9) rfl dX9_clash_27 ?_
        refine lv_iload_n hx hb dX9_clash_30 rfl (lv_at hl 0 rfl) ?_
        obtain ⟨hin4, h⟩ := gd_e h
        refine va_iald hx hb hK hP 16 0 rfl rfl hin4 dX9_clash_31 ?_
        obtain ⟨x3_5, ex3_5, h⟩ := lt_e h
        refine lv_topE ex3_5 ?_
        refine lv_istore_n (lv' := [(3, .int x3_5), (2, .int x2_3), (0, .ref (ad 0)), (1, .int x1)]) hx hb dX9_clash_32 rfl hl (by decide) rfl (fun ls hl => ?_)
        refine lv_aload_n hx hb dX9_clash_33 rfl (lv_at hl 2 rfl) ?_
        refine va_get (ci := 7) (v := .ref (ad 21)) (C := RX9) (T := TX9) (N := 15) hx hb hts hinX9 hown hK hP 0 rfl rfl 7 (by decide) fl5 (fun _ h9 => h9) rfl dX9_clash_34 ?_
        refine lv_iload_n hx hb dX9_clash_37 rfl (lv_at hl 1 rfl) ?_
        obtain ⟨r6, hr6, h⟩ := bd_e h
        refine cl_RV (rest := []) (ci := 1) (q0 := 0) ⟨hx, hb, hml, hown, hts⟩ (mX2_latest l D cI cZ cB (mp ad [21, 22, 23, 24, 25, 26]) (mp σ [21, 22, 23, 24, 25, 26, 32]) x2_3 r6 hr6) (cwV 1 hts gX9_clash_X2_latest rfl rfl rfl (by decide +kernel) ⟨Nat.le_of_ble_eq_true rfl, Nat.le_of_ble_eq_true rfl⟩) hK (hP.sub (ws' := wdX2 cI cZ cB (mp ad [21, 22, 23, 24, 25, 26]) (mp σ [21, 22, 23, 24, 25, 26, 32])) [21, 22, 23, 24, 25, 26] rfl) rfl rfl rfl rfl hl.1 rfl (Nat.le_of_ble_eq_true rfl) dX9_clash_38 ⟨Nat.zero_le _, Nat.zero_le _⟩ ?_
        refine W.eq (g2 := F0 m 41 ls [.int r6]) rfl ?_
        refine lv_istore (lv' := [(4, .int r6), (3, .int x3_5), (2, .int x2_3), (0, .ref (ad 0)), (1, .int x1)]) hx hb dX9_clash_41 hl (by decide) rfl (fun ls hl => ?_)
        refine lv_iload hx hb dX9_clash_43 (lv_at hl 0 rfl) ?_
        refine lv_if_ne (tgt := 51) hx hb dX9_clash_45 (by decide) (fun c7 => ?_) (fun c7 => ?_)
        · have h := ite_f c7 h
          refine lv_iload hx hb dX9_clash_51 (lv_at hl 0 rfl) ?_
          refine lv_aload_n hx hb dX9_clash_53 rfl (lv_at hl 3 rfl) ?_
          refine lv_iload_n hx hb dX9_clash_54 rfl (lv_at hl 4 rfl) ?_
          refine lv_iload_n hx hb dX9_clash_55 rfl (lv_at hl 1 rfl) ?_
          refine lv_aload_n hx hb dX9_clash_56 rfl (lv_at hl 3 rfl) ?_
          refine va_get (ci := 7) (v := .ref (ad 15)) (C := RX9) (T := TX9) (N := 15) hx hb hts hinX9 hown hK hP 0 rfl rfl 6 (by decide) fl1 (fun _ h9 => h9) rfl dX9_clash_57 ?_
          refine va_get (ci := 2) (v := .ref (ad 17)) (C := RX3) (T := TX3) (N := 7) hx hb hts hinX3 hown hK hP 15 rfl rfl 1 (by decide) fl6 (fun _ h9 => h9) rfl dX9_clash_60 ?_
          refine lv_iload_n hx hb dX9_clash_63 rfl (lv_at hl 2 rfl) ?_
          obtain ⟨hin8, h⟩ := gd_e h
          refine va_iald hx hb hK hP 17 0 rfl rfl hin8 dX9_clash_64 ?_
          refine lv_aload_n hx hb dX9_clash_65 rfl (lv_at hl 3 rfl) ?_
          refine va_get (ci := 7) (v := .ref (ad 5)) (C := RX9) (T := TX9) (N := 15) hx hb hts hinX9 hown hK hP 0 rfl rfl 2 (by decide) fl7 (fun _ h9 => h9) rfl dX9_clash_66 ?_
          refine lv_iload_n hx hb dX9_clash_69 rfl (lv_at hl 1 rfl) ?_
          obtain ⟨r9, hr9, h⟩ := bd_e h
          refine cl_RV (rest := [.int (σ 17 (Int32.toNatClampNeg x2_3)), .int x3_5, .int x1, .ref (ad 0), .int r6]) (ci := 4) (q0 := 0) ⟨hx, hb, hml, hown, hts⟩ (mX6_isThrough l D cI cZ cB (mp ad [5, 6, 7]) (mp σ [5, 6, 7]) x3_5 r9 hr9) (cwV 1 hts gX9_clash_X6_isThrough rfl rfl rfl (by decide +kernel) ⟨Nat.le_of_ble_eq_true rfl, Nat.le_of_ble_eq_true rfl⟩) hK (hP.sub (ws' := wdX6 cI cZ cB (mp ad [5, 6, 7]) (mp σ [5, 6, 7])) [5, 6, 7] rfl) rfl rfl rfl rfl hl.1 rfl (Nat.le_of_ble_eq_true rfl) dX9_clash_70 ⟨Nat.zero_le _, Nat.zero_le _⟩ ?_
          refine W.eq (g2 := F0 m 73 ls [.int r9, .int (σ 17 (Int32.toNatClampNeg x2_3)), .int x3_5, .int x1, .ref (ad 0), .int r6]) rfl ?_
          obtain ⟨r10, hr10, h⟩ := bd_e h
          refine cl_RV (rest := [.int r6]) (ci := 7) (q0 := 0) ⟨hx, hb, hml, hown, hts⟩ (mX9_labelAhead l D cI cZ cB ad σ x1 x3_5 (σ 17 (Int32.toNatClampNeg x2_3)) r9 r10 hr10) (cwV 4 hts gX9_clash_X9_labelAhead rfl rfl rfl (by decide +kernel) ⟨Nat.le_of_ble_eq_true rfl, Nat.le_of_ble_eq_true rfl⟩) hK hP rfl rfl rfl rfl hl.1 rfl (Nat.le_of_ble_eq_true rfl) dX9_clash_73 ⟨Nat.zero_le _, Nat.zero_le _⟩ ?_
          refine W.eq (g2 := F0 m 76 ls [.int r10, .int r6]) rfl ?_
          refine lv_icmp_gt (tgt := 81) hx hb dX9_clash_76 (by decide) (fun c11 => ?_) (fun c11 => ?_)
          · have h := ite_t c11 h
            obtain ⟨x1_12, ex1_12, h⟩ := lt_e h
            refine lv_iinc (v := x1_12) (lv' := [(1, .int x1_12), (4, .int r6), (3, .int x3_5), (2, .int x2_3), (0, .ref (ad 0))]) hx hb dX9_clash_81 hl (k := 4) rfl (by rw [ex1_12]; rfl) (by decide) rfl (fun ls hl => ?_)
            refine lv_goto (tgt := 2) hx hb dX9_clash_84 (by decide) ?_
            exact ih2 x1_12 _ (lv_sub hl [4, 0] rfl) h
          · have h := ite_f c11 h
            refine lv_iload_n hx hb dX9_clash_79 rfl (lv_at hl 2 rfl) ?_
            exact hR (some (.int x2_3)) _ _ (by rw [← Option.some.inj h]) rfl dX9_clash_80
        · have h := ite_t c7 h
          refine lv_goto (tgt := 81) hx hb dX9_clash_48 (by decide) ?_
          obtain ⟨x1_13, ex1_13, h⟩ := lt_e h
          refine lv_iinc (v := x1_13) (lv' := [(1, .int x1_13), (4, .int r6), (3, .int x3_5), (2, .int x2_3), (0, .ref (ad 0))]) hx hb dX9_clash_81 hl (k := 4) rfl (by rw [ex1_13]; rfl) (by decide) rfl (fun ls hl => ?_)
          refine lv_goto (tgt := 2) hx hb dX9_clash_84 (by decide) ?_
          exact ih2 x1_13 _ (lv_sub hl [4, 0] rfl) h
  rw [X9_clash] at h
  refine lv_iconst (v := 0) hx hb dX9_clash_0 (by decide) ?_
  refine lv_istore_n (lv' := [(1, .int 0), (0, .ref (ad 0))]) hx hb dX9_clash_1 rfl hl (by decide) rfl (fun ls hl => ?_)
  exact n2 FU 0 _ (lv_sub hl [1, 0] rfl) h
set_option maxHeartbeats 4000000 in
set_option maxRecDepth 100000 in
theorem mX9_clash (l : Launch) (D : va_G) (cI cZ cB : ClassId) (ad : Nat → Nat) (σ : Mem) (res : Int32) (h : X9_clash σ = some res) : Met l yX9_clash wsX9_clash rmX9_clash (pR D cI cZ cB (wdX9 cI cZ cB ad σ) [.ref (ad 0)]) (qR (some (.int res))) 0 0 (fun _ => False) := (bX9_clash l D cI cZ cB ad σ res h).met (by decide +kernel) rfl (Nat.le_of_ble_eq_true rfl)
def rmX9_at : Room := { frames := 0, cells := 0, slots := 0, locals := 0 }
set_option maxHeartbeats 4000000 in
set_option maxRecDepth 100000 in
theorem bX9_at (l : Launch) (D : va_G) (cI cZ cB : ClassId) (ad : Nat → Nat) (σ : Mem) (a1 : Int32) (res : Int32) (h : X9_at a1 σ = some res) : BR l yX9_at wsX9_at rmX9_at cX9_at 2 (some .int) D cI cZ cB (wdX9 cI cZ cB ad σ) [.ref (ad 0), .int a1] (some (.int res)) := by
  intro p e s m args below meth c ls Q hx hb hml hts hown hK hP hl0 hR
  have hinX3 : ∀ w ∈ u_ws RX3 TX3 7, w ∈ wsX9_at := (fun _ h => List.mem_cons_of_mem _ (List.mem_append_right _ h))
  have hinX9 : ∀ w ∈ u_ws RX9 TX9 15, w ∈ wsX9_at := (fun _ h => List.mem_cons_of_mem _ (List.mem_append_left _ (List.mem_append_right _ h)))
  have fl1 := hts (.fieldLink RX9 46 "LawNumberer" "items" "LLawNumberer$Items;") (by decide +kernel)
  have fl2 := hts (.fieldLink RX9 108 "LawNumberer$Items" "size" "I") (by decide +kernel)
  have fl3 := hts (.fieldLink RX9 159 "LawNumberer$Items" "order" "[I") (by decide +kernel)
  have hl : lv_has ls 2 [(0, .ref (ad 0)), (1, .int a1)] := hl0
  rw [X9_at] at h
  refine lv_iload_n hx hb dX9_at_0 rfl (lv_at hl 1 rfl) ?_
  refine lv_if_lt (tgt := 15) hx hb dX9_at_1 (by decide) (fun c1 => ?_) (fun c1 => ?_)
  · have h := ite_t c1 h
    refine lv_iconst (v := (-1)) hx hb dX9_at_15 (by decide) ?_
    refine lv_goto (tgt := 28) hx hb dX9_at_16 (by decide) ?_
    exact hR (some (.int (-1))) _ _ (by rw [← Option.some.inj h]) rfl dX9_at_28
  · have h := ite_f c1 h
    refine lv_iload_n hx hb dX9_at_4 rfl (lv_at hl 1 rfl) ?_
    refine lv_aload_n hx hb dX9_at_5 rfl (lv_at hl 0 rfl) ?_
    refine va_get (ci := 7) (v := .ref (ad 15)) (C := RX9) (T := TX9) (N := 15) hx hb hts hinX9 hown hK hP 0 rfl rfl 6 (by decide) fl1 (fun _ h9 => h9) rfl dX9_at_6 ?_
    refine va_get (ci := 2) (v := .int (σ 15 5)) (C := RX3) (T := TX3) (N := 7) hx hb hts hinX3 hown hK hP 15 rfl rfl 5 (by decide) fl2 (fun _ h9 => h9) rfl dX9_at_9 ?_
    refine lv_icmp_lt (tgt := 19) hx hb dX9_at_12 (by decide) (fun c2 => ?_) (fun c2 => ?_)
    · have h := ite_t c2 h
      refine lv_aload_n hx hb dX9_at_19 rfl (lv_at hl 0 rfl) ?_
      refine va_get (ci := 7) (v := .ref (ad 15)) (C := RX9) (T := TX9) (N := 15) hx hb hts hinX9 hown hK hP 0 rfl rfl 6 (by decide) fl1 (fun _ h9 => h9) rfl dX9_at_20 ?_
      refine va_get (ci := 2) (v := .ref (ad 20)) (C := RX3) (T := TX3) (N := 7) hx hb hts hinX3 hown hK hP 15 rfl rfl 4 (by decide) fl3 (fun _ h9 => h9) rfl dX9_at_23 ?_
      refine lv_iload_n hx hb dX9_at_26 rfl (lv_at hl 1 rfl) ?_
      obtain ⟨hin3, h⟩ := gd_e h
      refine va_iald hx hb hK hP 20 0 rfl rfl hin3 dX9_at_27 ?_
      exact hR (some (.int (σ 20 (Int32.toNatClampNeg a1)))) _ _ (by rw [← Option.some.inj h]) rfl dX9_at_28
    · have h := ite_f c2 h
      refine lv_iconst (v := (-1)) hx hb dX9_at_15 (by decide) ?_
      refine lv_goto (tgt := 28) hx hb dX9_at_16 (by decide) ?_
      exact hR (some (.int (-1))) _ _ (by rw [← Option.some.inj h]) rfl dX9_at_28
set_option maxHeartbeats 4000000 in
set_option maxRecDepth 100000 in
theorem mX9_at (l : Launch) (D : va_G) (cI cZ cB : ClassId) (ad : Nat → Nat) (σ : Mem) (a1 : Int32) (res : Int32) (h : X9_at a1 σ = some res) : Met l yX9_at wsX9_at rmX9_at (pR D cI cZ cB (wdX9 cI cZ cB ad σ) [.ref (ad 0), .int a1]) (qR (some (.int res))) 0 0 (fun _ => False) := (bX9_at l D cI cZ cB ad σ a1 res h).met (by decide +kernel) rfl (Nat.le_of_ble_eq_true rfl)
def rmX9_count : Room := { frames := 0, cells := 0, slots := 0, locals := 0 }
set_option maxHeartbeats 4000000 in
set_option maxRecDepth 100000 in
theorem bX9_count (l : Launch) (D : va_G) (cI cZ cB : ClassId) (ad : Nat → Nat) (σ : Mem) (a1 : Int32) (res : Int32) (h : X9_count a1 σ = some res) : BR l yX9_count wsX9_count rmX9_count cX9_count 2 (some .int) D cI cZ cB (wdX9 cI cZ cB ad σ) [.ref (ad 0), .int a1] (some (.int res)) := by
  intro p e s m args below meth c ls Q hx hb hml hts hown hK hP hl0 hR
  have hinX0 : ∀ w ∈ u_ws RX0 TX0 5, w ∈ wsX9_count := (fun _ h => List.mem_cons_of_mem _ (List.mem_append_left _ (List.mem_append_right _ h)))
  have hinX3 : ∀ w ∈ u_ws RX3 TX3 7, w ∈ wsX9_count := (fun _ h => List.mem_cons_of_mem _ (List.mem_append_left _ (List.mem_append_left _ (List.mem_append_right _ h))))
  have hinX6 : ∀ w ∈ u_ws RX6 TX6 3, w ∈ wsX9_count := (fun _ h => List.mem_cons_of_mem _ (List.mem_append_left _ (List.mem_append_left _ (List.mem_append_left _ (List.mem_append_right _ h)))))
  have hinX8 : ∀ w ∈ u_ws RX8 TX8 2, w ∈ wsX9_count := (fun _ h => List.mem_cons_of_mem _ (List.mem_append_right _ h))
  have hinX9 : ∀ w ∈ u_ws RX9 TX9 15, w ∈ wsX9_count := (fun _ h => List.mem_cons_of_mem _ (List.mem_append_left _ (List.mem_append_left _ (List.mem_append_left _ (List.mem_append_left _ (List.mem_append_right _ h))))))
  have fl1 := hts (.fieldLink RX9 22 "LawNumberer" "scheme" "LLawNumberer$Levels;") (by decide +kernel)
  have fl2 := hts (.fieldLink RX9 71 "LawNumberer$Levels" "size" "I") (by decide +kernel)
  have fl3 := hts (.fieldLink RX9 46 "LawNumberer" "items" "LLawNumberer$Items;") (by decide +kernel)
  have fl4 := hts (.fieldLink RX9 108 "LawNumberer$Items" "size" "I") (by decide +kernel)
  have fl5 := hts (.fieldLink RX9 265 "LawNumberer$Items" "struckSize" "I") (by decide +kernel)
  have fl6 := hts (.fieldLink RX9 105 "LawNumberer" "today" "I") (by decide +kernel)
  have fl7 := hts (.fieldLink RX9 60 "LawNumberer" "acts" "LLawNumberer$Acts;") (by decide +kernel)
  have fl8 := hts (.fieldLink RX9 268 "LawNumberer$Acts" "size" "I") (by decide +kernel)
  have fl9 := hts (.fieldLink RX9 16 "LawNumberer" "out" "LLawNumberer$Text;") (by decide +kernel)
  have fl10 := hts (.fieldLink RX9 78 "LawNumberer$Text" "length" "I") (by decide +kernel)
  have fl11 := hts (.fieldLink RX9 10 "LawNumberer" "tape" "LLawNumberer$Text;") (by decide +kernel)
  have hl : lv_has ls 2 [(0, .ref (ad 0)), (1, .int a1)] := hl0
  rw [X9_count] at h
  refine lv_iload_n hx hb dX9_count_0 rfl (lv_at hl 1 rfl) ?_
  by_cases c1 : a1 = 0
  · have h := ite_t c1 h
    refine lv_tableIn (tgt := 44) (off := 43) hx hb dX9_count_1 (by rw [c1]; decide) (by rw [c1]; decide) (by rw [c1]; rfl) (by decide) ?_
    refine lv_aload_n hx hb dX9_count_44 rfl (lv_at hl 0 rfl) ?_
    refine va_get (ci := 7) (v := .ref (ad 5)) (C := RX9) (T := TX9) (N := 15) hx hb hts hinX9 hown hK hP 0 rfl rfl 2 (by decide) fl1 (fun _ h9 => h9) rfl dX9_count_45 ?_
    refine va_get (ci := 4) (v := .int (σ 5 2)) (C := RX6) (T := TX6) (N := 3) hx hb hts hinX6 hown hK hP 5 rfl rfl 2 (by decide) fl2 (fun _ h9 => h9) rfl dX9_count_48 ?_
    exact hR (some (.int (σ 5 2))) _ _ (by rw [← Option.some.inj h]) rfl dX9_count_51
  have h := ite_f c1 h
  by_cases c2 : a1 = 1
  · have h := ite_t c2 h
    refine lv_tableIn (tgt := 52) (off := 51) hx hb dX9_count_1 (by rw [c2]; decide) (by rw [c2]; decide) (by rw [c2]; rfl) (by decide) ?_
    refine lv_aload_n hx hb dX9_count_52 rfl (lv_at hl 0 rfl) ?_
    refine va_get (ci := 7) (v := .ref (ad 15)) (C := RX9) (T := TX9) (N := 15) hx hb hts hinX9 hown hK hP 0 rfl rfl 6 (by decide) fl3 (fun _ h9 => h9) rfl dX9_count_53 ?_
    refine va_get (ci := 2) (v := .int (σ 15 5)) (C := RX3) (T := TX3) (N := 7) hx hb hts hinX3 hown hK hP 15 rfl rfl 5 (by decide) fl4 (fun _ h9 => h9) rfl dX9_count_56 ?_
    exact hR (some (.int (σ 15 5))) _ _ (by rw [← Option.some.inj h]) rfl dX9_count_59
  have h := ite_f c2 h
  by_cases c3 : a1 = 2
  · have h := ite_t c3 h
    refine lv_tableIn (tgt := 60) (off := 59) hx hb dX9_count_1 (by rw [c3]; decide) (by rw [c3]; decide) (by rw [c3]; rfl) (by decide) ?_
    refine lv_aload_n hx hb dX9_count_60 rfl (lv_at hl 0 rfl) ?_
    refine va_get (ci := 7) (v := .ref (ad 15)) (C := RX9) (T := TX9) (N := 15) hx hb hts hinX9 hown hK hP 0 rfl rfl 6 (by decide) fl3 (fun _ h9 => h9) rfl dX9_count_61 ?_
    refine va_get (ci := 2) (v := .int (σ 15 6)) (C := RX3) (T := TX3) (N := 7) hx hb hts hinX3 hown hK hP 15 rfl rfl 6 (by decide) fl5 (fun _ h9 => h9) rfl dX9_count_64 ?_
    exact hR (some (.int (σ 15 6))) _ _ (by rw [← Option.some.inj h]) rfl dX9_count_67
  have h := ite_f c3 h
  by_cases c4 : a1 = 3
  · have h := ite_t c4 h
    refine lv_tableIn (tgt := 68) (off := 67) hx hb dX9_count_1 (by rw [c4]; decide) (by rw [c4]; decide) (by rw [c4]; rfl) (by decide) ?_
    refine lv_aload_n hx hb dX9_count_68 rfl (lv_at hl 0 rfl) ?_
    refine va_get (ci := 7) (v := .int (σ 0 10)) (C := RX9) (T := TX9) (N := 15) hx hb hts hinX9 hown hK hP 0 rfl rfl 10 (by decide) fl6 (fun _ h9 => h9) rfl dX9_count_69 ?_
    exact hR (some (.int (σ 0 10))) _ _ (by rw [← Option.some.inj h]) rfl dX9_count_72
  have h := ite_f c4 h
  by_cases c5 : a1 = 4
  · have h := ite_t c5 h
    refine lv_tableIn (tgt := 73) (off := 72) hx hb dX9_count_1 (by rw [c5]; decide) (by rw [c5]; decide) (by rw [c5]; rfl) (by decide) ?_
    refine lv_aload_n hx hb dX9_count_73 rfl (lv_at hl 0 rfl) ?_
    refine va_get (ci := 7) (v := .ref (ad 27)) (C := RX9) (T := TX9) (N := 15) hx hb hts hinX9 hown hK hP 0 rfl rfl 8 (by decide) fl7 (fun _ h9 => h9) rfl dX9_count_74 ?_
    refine va_get (ci := 0) (v := .int (σ 27 4)) (C := RX0) (T := TX0) (N := 5) hx hb hts hinX0 hown hK hP 27 rfl rfl 4 (by decide) fl8 (fun _ h9 => h9) rfl dX9_count_77 ?_
    exact hR (some (.int (σ 27 4))) _ _ (by rw [← Option.some.inj h]) rfl dX9_count_80
  have h := ite_f c5 h
  by_cases c6 : a1 = 5
  · have h := ite_t c6 h
    refine lv_tableIn (tgt := 81) (off := 80) hx hb dX9_count_1 (by rw [c6]; decide) (by rw [c6]; decide) (by rw [c6]; rfl) (by decide) ?_
    refine lv_aload_n hx hb dX9_count_81 rfl (lv_at hl 0 rfl) ?_
    refine va_get (ci := 7) (v := .ref (ad 3)) (C := RX9) (T := TX9) (N := 15) hx hb hts hinX9 hown hK hP 0 rfl rfl 1 (by decide) fl9 (fun _ h9 => h9) rfl dX9_count_82 ?_
    refine va_get (ci := 6) (v := .int (σ 3 1)) (C := RX8) (T := TX8) (N := 2) hx hb hts hinX8 hown hK hP 3 rfl rfl 1 (by decide) fl10 (fun _ h9 => h9) rfl dX9_count_85 ?_
    exact hR (some (.int (σ 3 1))) _ _ (by rw [← Option.some.inj h]) rfl dX9_count_88
  have h := ite_f c6 h
  by_cases c7 : a1 = 6
  · have h := ite_t c7 h
    refine lv_tableIn (tgt := 89) (off := 88) hx hb dX9_count_1 (by rw [c7]; decide) (by rw [c7]; decide) (by rw [c7]; rfl) (by decide) ?_
    refine lv_aload_n hx hb dX9_count_89 rfl (lv_at hl 0 rfl) ?_
    refine va_get (ci := 7) (v := .ref (ad 1)) (C := RX9) (T := TX9) (N := 15) hx hb hts hinX9 hown hK hP 0 rfl rfl 0 (by decide) fl11 (fun _ h9 => h9) rfl dX9_count_90 ?_
    refine va_get (ci := 6) (v := .int (σ 1 1)) (C := RX8) (T := TX8) (N := 2) hx hb hts hinX8 hown hK hP 1 rfl rfl 1 (by decide) fl10 (fun _ h9 => h9) rfl dX9_count_93 ?_
    exact hR (some (.int (σ 1 1))) _ _ (by rw [← Option.some.inj h]) rfl dX9_count_96
  have h := ite_f c7 h
  refine lv_tableOut (tgt := 97) hx hb dX9_count_1 (tb_out 0 6 (fun k h1 h2 => by
    rcases (show k = 0 ∨ k = 1 ∨ k = 2 ∨ k = 3 ∨ k = 4 ∨ k = 5 ∨ k = 6 by omega) with rfl | rfl | rfl | rfl | rfl | rfl | rfl
    · exact c1
    · exact c2
    · exact c3
    · exact c4
    · exact c5
    · exact c6
    · exact c7)) (by decide) ?_
  refine lv_iconst (v := (-1)) hx hb dX9_count_97 (by decide) ?_
  exact hR (some (.int (-1))) _ _ (by rw [← Option.some.inj h]) rfl dX9_count_98
set_option maxHeartbeats 4000000 in
set_option maxRecDepth 100000 in
theorem mX9_count (l : Launch) (D : va_G) (cI cZ cB : ClassId) (ad : Nat → Nat) (σ : Mem) (a1 : Int32) (res : Int32) (h : X9_count a1 σ = some res) : Met l yX9_count wsX9_count rmX9_count (pR D cI cZ cB (wdX9 cI cZ cB ad σ) [.ref (ad 0), .int a1]) (qR (some (.int res))) 0 0 (fun _ => False) := (bX9_count l D cI cZ cB ad σ a1 res h).met (by decide +kernel) rfl (Nat.le_of_ble_eq_true rfl)
