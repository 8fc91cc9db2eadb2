/-! printed: the walks of methods that throw -/
def rmX9_about : Room := { frames := 6, cells := 1, slots := 6, locals := 82 }
set_option maxHeartbeats 4000000 in
set_option maxRecDepth 100000 in
theorem bX9_about (K : Nat → Nat) (l : Launch) (D : va_G) (cI cZ cB : ClassId) (ad : Nat → Nat) (σ : Mem) (a1 : Int32) (a2 : Int32) (res : Option Int32) (h : X9_about a1 a2 σ = some res) : BZ K l yX9_about wsZ_about rmX9_about cX9_about 3 D cI cZ cB (wdX9 cI cZ cB ad σ) [.ref (ad 0), .int a1, .int a2] res := by
  intro p e s m args below meth c ls Q hx hb hml hts hown hZ hK hP hl0 hR hT
  obtain ⟨-, -, -, hE15, hE16, hE17⟩ := id hZ
  have hinX3 : ∀ w ∈ u_ws RX3 TX3 7, w ∈ wsZ_about := (fun _ h => List.mem_cons_of_mem _ (List.mem_append_left _ (List.mem_append_left _ (List.mem_append_right _ h))))
  have hinX9 : ∀ w ∈ u_ws RX9 TX9 15, w ∈ wsZ_about := (fun _ h => List.mem_cons_of_mem _ (List.mem_append_left _ (List.mem_append_left _ (List.mem_append_left _ (List.mem_append_right _ h)))))
  have fl1 := hts (.fieldLink RX9 46 "LawNumberer" "items" "LLawNumberer$Items;") (by decide +kernel)
  have fl2 := hts (.fieldLink RX9 113 "LawNumberer$Items" "levels" "[I") (by decide +kernel)
  have fl3 := hts (.fieldLink RX9 162 "LawNumberer$Items" "under" "[I") (by decide +kernel)
  have fl4 := hts (.fieldLink RX9 151 "LawNumberer$Items" "struck" "[Z") (by decide +kernel)
  have fl5 := hts (.fieldLink RX9 22 "LawNumberer" "scheme" "LLawNumberer$Levels;") (by decide +kernel)
  have fl6 := hts (.fieldLink RX9 209 "LawNumberer$Items" "came" "[I") (by decide +kernel)
  have hl : lv_has ls 3 [(0, .ref (ad 0)), (1, .int a1), (2, .int a2)] := hl0
  rw [X9_about] at h
  refine lv_aload_n hx hb dX9_about_0 rfl (lv_at hl 0 rfl) ?_
  refine va_get (ci := 7) (v := .ref (ad 15)) (C := RX9) (T := TX9) (N := 15) hx hb hts hinX9 hown hK hP 0 rfl rfl 6 (by decide) fl1 (fun _ h9 => h9) rfl dX9_about_1 ?_
  refine lv_iload_n hx hb dX9_about_4 rfl (lv_at hl 1 rfl) ?_
  obtain ⟨r1, hr1, h⟩ := bd_e h
  refine cl_RV (rest := []) (ci := 2) (q0 := 0) ⟨hx, hb, hml, hown, hts⟩ (mX3_has l D cI cZ cB (mp ad [15, 16, 17, 18, 19, 20]) (mp σ [15, 16, 17, 18, 19, 20]) a1 r1 hr1) (cwV 1 hts gZ_about_X3_has rfl rfl rfl (by decide +kernel) ⟨Nat.le_of_ble_eq_true rfl, Nat.le_of_ble_eq_true rfl⟩) hK (hP.sub (ws' := wdX3 cI cZ cB (mp ad [15, 16, 17, 18, 19, 20]) (mp σ [15, 16, 17, 18, 19, 20])) [15, 16, 17, 18, 19, 20] rfl) rfl rfl rfl rfl hl.1 rfl (Nat.le_of_ble_eq_true rfl) dX9_about_5 ⟨Nat.zero_le _, Nat.zero_le _⟩ ?_
  refine W.eq (g2 := F0 m 8 ls [.int r1]) rfl ?_
  refine lv_if_ne (tgt := 21) hx hb dX9_about_8 (by decide) (fun c2 => ?_) (fun c2 => ?_)
  · have h := ite_f c2 h
    refine lv_iload_n hx hb dX9_about_21 rfl (lv_at hl 2 rfl) ?_
    by_cases c3 : a2 = 0
    · have h := ite_t c3 h
      refine lv_tableIn (tgt := 60) (off := 38) hx hb dX9_about_22 (by rw [c3]; decide) (by rw [c3]; decide) (by rw [c3]; rfl) (by decide) ?_
      refine lv_aload_n hx hb dX9_about_60 rfl (lv_at hl 0 rfl) ?_
      refine va_get (ci := 7) (v := .ref (ad 15)) (C := RX9) (T := TX9) (N := 15) hx hb hts hinX9 hown hK hP 0 rfl rfl 6 (by decide) fl1 (fun _ h9 => h9) rfl dX9_about_61 ?_
      refine va_get (ci := 2) (v := .ref (ad 16)) (C := RX3) (T := TX3) (N := 7) hx hb hts hinX3 hown hK hP 15 rfl rfl 0 (by decide) fl2 (fun _ h9 => h9) rfl dX9_about_64 ?_
      refine lv_iload_n hx hb dX9_about_67 rfl (lv_at hl 1 rfl) ?_
      obtain ⟨hin4, h⟩ := gd_e h
      refine va_iald hx hb hK hP 16 0 rfl rfl hin4 dX9_about_68 ?_
      exact hR (σ 16 (Int32.toNatClampNeg a1)) _ _ (Option.some.inj h).symm dX9_about_69
    have h := ite_f c3 h
    by_cases c5 : a2 = 1
    · have h := ite_t c5 h
      refine lv_tableIn (tgt := 70) (off := 48) hx hb dX9_about_22 (by rw [c5]; decide) (by rw [c5]; decide) (by rw [c5]; rfl) (by decide) ?_
      refine lv_aload_n hx hb dX9_about_70 rfl (lv_at hl 0 rfl) ?_
      refine va_get (ci := 7) (v := .ref (ad 15)) (C := RX9) (T := TX9) (N := 15) hx hb hts hinX9 hown hK hP 0 rfl rfl 6 (by decide) fl1 (fun _ h9 => h9) rfl dX9_about_71 ?_
      refine va_get (ci := 2) (v := .ref (ad 17)) (C := RX3) (T := TX3) (N := 7) hx hb hts hinX3 hown hK hP 15 rfl rfl 1 (by decide) fl3 (fun _ h9 => h9) rfl dX9_about_74 ?_
      refine lv_iload_n hx hb dX9_about_77 rfl (lv_at hl 1 rfl) ?_
      obtain ⟨hin6, h⟩ := gd_e h
      refine va_iald hx hb hK hP 17 0 rfl rfl hin6 dX9_about_78 ?_
      exact hR (σ 17 (Int32.toNatClampNeg a1)) _ _ (Option.some.inj h).symm dX9_about_79
    have h := ite_f c5 h
    by_cases c7 : a2 = 2
    · have h := ite_t c7 h
      refine lv_tableIn (tgt := 80) (off := 58) hx hb dX9_about_22 (by rw [c7]; decide) (by rw [c7]; decide) (by rw [c7]; rfl) (by decide) ?_
      refine lv_aload_n hx hb dX9_about_80 rfl (lv_at hl 0 rfl) ?_
      refine va_get (ci := 7) (v := .ref (ad 15)) (C := RX9) (T := TX9) (N := 15) hx hb hts hinX9 hown hK hP 0 rfl rfl 6 (by decide) fl1 (fun _ h9 => h9) rfl dX9_about_81 ?_
      refine va_get (ci := 2) (v := .ref (ad 19)) (C := RX3) (T := TX3) (N := 7) hx hb hts hinX3 hown hK hP 15 rfl rfl 3 (by decide) fl4 (fun _ h9 => h9) rfl dX9_about_84 ?_
      refine lv_iload_n hx hb dX9_about_87 rfl (lv_at hl 1 rfl) ?_
      obtain ⟨hin8, h⟩ := gd_e h
      refine va_zald hx hb hK hP 19 1 rfl rfl hin8 dX9_about_88 ?_
      refine lv_if_eq (tgt := 96) hx hb dX9_about_89 (by decide) (fun c9 => ?_) (fun c9 => ?_)
      · have h := ite_t c9 h
        refine lv_iconst (v := 0) hx hb dX9_about_96 (by decide) ?_
        exact hR 0 _ _ (Option.some.inj h).symm dX9_about_97
      · have h := ite_f c9 h
        refine lv_iconst (v := 1) hx hb dX9_about_92 (by decide) ?_
        refine lv_goto (tgt := 97) hx hb dX9_about_93 (by decide) ?_
        exact hR 1 _ _ (Option.some.inj h).symm dX9_about_97
    have h := ite_f c7 h
    by_cases c10 : a2 = 3
    · have h := ite_t c10 h
      refine lv_tableIn (tgt := 98) (off := 76) hx hb dX9_about_22 (by rw [c10]; decide) (by rw [c10]; decide) (by rw [c10]; rfl) (by decide) ?_
      refine lv_aload_n hx hb dX9_about_98 rfl (lv_at hl 0 rfl) ?_
      refine va_get (ci := 7) (v := .ref (ad 15)) (C := RX9) (T := TX9) (N := 15) hx hb hts hinX9 hown hK hP 0 rfl rfl 6 (by decide) fl1 (fun _ h9 => h9) rfl dX9_about_99 ?_
      refine lv_iload_n hx hb dX9_about_102 rfl (lv_at hl 1 rfl) ?_
      refine lv_aload_n hx hb dX9_about_103 rfl (lv_at hl 0 rfl) ?_
      refine va_get (ci := 7) (v := .ref (ad 5)) (C := RX9) (T := TX9) (N := 15) hx hb hts hinX9 hown hK hP 0 rfl rfl 2 (by decide) fl5 (fun _ h9 => h9) rfl dX9_about_104 ?_
      refine lv_aload_n hx hb dX9_about_107 rfl (lv_at hl 0 rfl) ?_
      refine va_get (ci := 7) (v := .ref (ad 15)) (C := RX9) (T := TX9) (N := 15) hx hb hts hinX9 hown hK hP 0 rfl rfl 6 (by decide) fl1 (fun _ h9 => h9) rfl dX9_about_108 ?_
      refine va_get (ci := 2) (v := .ref (ad 16)) (C := RX3) (T := TX3) (N := 7) hx hb hts hinX3 hown hK hP 15 rfl rfl 0 (by decide) fl2 (fun _ h9 => h9) rfl dX9_about_111 ?_
      refine lv_iload_n hx hb dX9_about_114 rfl (lv_at hl 1 rfl) ?_
      obtain ⟨hin11, h⟩ := gd_e h
      refine va_iald hx hb hK hP 16 0 rfl rfl hin11 dX9_about_115 ?_
      obtain ⟨r12, hr12, h⟩ := bd_e h
      refine cl_RV (rest := [.int a1, .ref (ad 15)]) (ci := 4) (q0 := 0) ⟨hx, hb, hml, hown, hts⟩ (mX6_isThrough l D cI cZ cB (mp ad [5, 6, 7]) (mp σ [5, 6, 7]) (σ 16 (Int32.toNatClampNeg a1)) r12 hr12) (cwV 1 hts gZ_about_X6_isThrough rfl rfl rfl (by decide +kernel) ⟨Nat.le_of_ble_eq_true rfl, Nat.le_of_ble_eq_true rfl⟩) hK (hP.sub (ws' := wdX6 cI cZ cB (mp ad [5, 6, 7]) (mp σ [5, 6, 7])) [5, 6, 7] rfl) rfl rfl rfl rfl hl.1 rfl (Nat.le_of_ble_eq_true rfl) dX9_about_116 ⟨Nat.zero_le _, Nat.zero_le _⟩ ?_
      refine W.eq (g2 := F0 m 119 ls [.int r12, .int a1, .ref (ad 15)]) rfl ?_
      obtain ⟨r13, hr13, h⟩ := bd_e h
      refine cl_RV (rest := []) (ci := 2) (q0 := 0) ⟨hx, hb, hml, hown, hts⟩ (mX3_placeInRow l D cI cZ cB (mp ad [15, 16, 17, 18, 19, 20]) (mp σ [15, 16, 17, 18, 19, 20]) a1 r12 r13 hr13) (cwV 2 hts gZ_about_X3_placeInRow rfl rfl rfl (by decide +kernel) ⟨Nat.le_of_ble_eq_true rfl, Nat.le_of_ble_eq_true rfl⟩) hK (hP.sub (ws' := wdX3 cI cZ cB (mp ad [15, 16, 17, 18, 19, 20]) (mp σ [15, 16, 17, 18, 19, 20])) [15, 16, 17, 18, 19, 20] rfl) rfl rfl rfl rfl hl.1 rfl (Nat.le_of_ble_eq_true rfl) dX9_about_119 ⟨Nat.zero_le _, Nat.zero_le _⟩ ?_
      refine W.eq (g2 := F0 m 122 ls [.int r13]) rfl ?_
      exact hR r13 _ _ (Option.some.inj h).symm dX9_about_122
    have h := ite_f c10 h
    by_cases c14 : a2 = 4
    · have h := ite_t c14 h
      refine lv_tableIn (tgt := 123) (off := 101) hx hb dX9_about_22 (by rw [c14]; decide) (by rw [c14]; decide) (by rw [c14]; rfl) (by decide) ?_
      refine lv_aload_n hx hb dX9_about_123 rfl (lv_at hl 0 rfl) ?_
      refine va_get (ci := 7) (v := .ref (ad 15)) (C := RX9) (T := TX9) (N := 15) hx hb hts hinX9 hown hK hP 0 rfl rfl 6 (by decide) fl1 (fun _ h9 => h9) rfl dX9_about_124 ?_
      refine lv_iload_n hx hb dX9_about_127 rfl (lv_at hl 1 rfl) ?_
      obtain ⟨r15, hr15, h⟩ := bd_e h
      refine cl_RV (rest := []) (ci := 2) (q0 := 0) ⟨hx, hb, hml, hown, hts⟩ (mX3_placeOf l D cI cZ cB (mp ad [15, 16, 17, 18, 19, 20]) (mp σ [15, 16, 17, 18, 19, 20]) a1 r15 hr15) (cwV 1 hts gZ_about_X3_placeOf rfl rfl rfl (by decide +kernel) ⟨Nat.le_of_ble_eq_true rfl, Nat.le_of_ble_eq_true rfl⟩) hK (hP.sub (ws' := wdX3 cI cZ cB (mp ad [15, 16, 17, 18, 19, 20]) (mp σ [15, 16, 17, 18, 19, 20])) [15, 16, 17, 18, 19, 20] rfl) rfl rfl rfl rfl hl.1 rfl (Nat.le_of_ble_eq_true rfl) dX9_about_128 ⟨Nat.zero_le _, Nat.zero_le _⟩ ?_
      refine W.eq (g2 := F0 m 131 ls [.int r15]) rfl ?_
      exact hR r15 _ _ (Option.some.inj h).symm dX9_about_131
    have h := ite_f c14 h
    by_cases c16 : a2 = 5
    · have h := ite_t c16 h
      refine lv_tableIn (tgt := 132) (off := 110) hx hb dX9_about_22 (by rw [c16]; decide) (by rw [c16]; decide) (by rw [c16]; rfl) (by decide) ?_
      refine lv_aload_n hx hb dX9_about_132 rfl (lv_at hl 0 rfl) ?_
      refine va_get (ci := 7) (v := .ref (ad 15)) (C := RX9) (T := TX9) (N := 15) hx hb hts hinX9 hown hK hP 0 rfl rfl 6 (by decide) fl1 (fun _ h9 => h9) rfl dX9_about_133 ?_
      refine va_get (ci := 2) (v := .ref (ad 18)) (C := RX3) (T := TX3) (N := 7) hx hb hts hinX3 hown hK hP 15 rfl rfl 2 (by decide) fl6 (fun _ h9 => h9) rfl dX9_about_136 ?_
      refine lv_iload_n hx hb dX9_about_139 rfl (lv_at hl 1 rfl) ?_
      obtain ⟨hin17, h⟩ := gd_e h
      refine va_iald hx hb hK hP 18 0 rfl rfl hin17 dX9_about_140 ?_
      exact hR (σ 18 (Int32.toNatClampNeg a1)) _ _ (Option.some.inj h).symm dX9_about_141
    have h := ite_f c16 h
    refine lv_tableOut (tgt := 142) hx hb dX9_about_22 (tb_out 0 5 (fun k h1 h2 => by
      rcases (show k = 0 ∨ k = 1 ∨ k = 2 ∨ k = 3 ∨ k = 4 ∨ k = 5 by omega) with rfl | rfl | rfl | rfl | rfl | rfl
      · exact c3
      · exact c5
      · exact c7
      · exact c10
      · exact c14
      · exact c16)) (by decide) ?_
    exact hT 142 212 (K 16) "nothing such is told of an item" _ (Option.some.inj h).symm hE16 dX9_about_142 dX9_about_145 dX9_about_146 dX9_about_148 dX9_about_151 hl.1
  · have h := ite_t c2 h
    exact hT 11 197 (K 15) "no such item" _ (Option.some.inj h).symm hE15 dX9_about_11 dX9_about_14 dX9_about_15 dX9_about_17 dX9_about_20 hl.1
set_option maxHeartbeats 4000000 in
set_option maxRecDepth 100000 in
theorem mX9_about (K : Nat → Nat) (l : Launch) (D : va_G) (cI cZ cB : ClassId) (ad : Nat → Nat) (σ : Mem) (a1 : Int32) (a2 : Int32) (hfl : l.stackTraces = false) (res : Option Int32) (h : X9_about a1 a2 σ = some res) : vx_Met l yX9_about wsZ_about rmX9_about (pZ K D cI cZ cB (wdX9 cI cZ cB ad σ) [.ref (ad 0), .int a1, .int a2]) (qT res) (xT res) 1 6 (fun _ => False) := (bX9_about K l D cI cZ cB ad σ a1 a2 res h).met hfl (by decide +kernel) rfl rfl (Nat.le_of_ble_eq_true rfl) (by decide +kernel) (by decide +kernel) (by decide +kernel) (Nat.le_of_ble_eq_true rfl) (Nat.le_of_ble_eq_true rfl) rfl rfl
def rmX9_octet : Room := { frames := 6, cells := 1, slots := 6, locals := 82 }
set_option maxHeartbeats 4000000 in
set_option maxRecDepth 100000 in
theorem bX9_octet (K : Nat → Nat) (l : Launch) (D : va_G) (cI cZ cB : ClassId) (ad : Nat → Nat) (σ : Mem) (a1 : Int32) (res : Option Int32) (h : X9_octet a1 σ = some res) : BZ K l yX9_octet wsZ_octet rmX9_octet cX9_octet 2 D cI cZ cB (wdX9 cI cZ cB ad σ) [.ref (ad 0), .int a1] res := by
  intro p e s m args below meth c ls Q hx hb hml hts hown hZ hK hP hl0 hR hT
  obtain ⟨-, -, -, hE15, hE16, hE17⟩ := id hZ
  have hinX8 : ∀ w ∈ u_ws RX8 TX8 2, w ∈ wsZ_octet := (fun _ h => List.mem_cons_of_mem _ (List.mem_append_left _ (List.mem_append_right _ h)))
  have hinX9 : ∀ w ∈ u_ws RX9 TX9 15, w ∈ wsZ_octet := (fun _ h => List.mem_cons_of_mem _ (List.mem_append_left _ (List.mem_append_left _ (List.mem_append_right _ h))))
  have fl1 := hts (.fieldLink RX9 16 "LawNumberer" "out" "LLawNumberer$Text;") (by decide +kernel)
  have fl2 := hts (.fieldLink RX9 78 "LawNumberer$Text" "length" "I") (by decide +kernel)
  have hl : lv_has ls 2 [(0, .ref (ad 0)), (1, .int a1)] := hl0
  have n15 : ∀ (ls : Array Slot), lv_has ls 2 [] → X9_octet_15 a1 σ = some res → W p l e rmX9_octet s m args below meth c s.heap [] 0 0 Q (F0 m 15 ls []) := by
    intro ls hl h
    rw [X9_octet_15] at h
    exact hT 15 229 (K 17) "no such byte" _ (Option.some.inj h).symm hE17 dX9_octet_15 dX9_octet_18 dX9_octet_19 dX9_octet_21 dX9_octet_24 hl.1
  rw [X9_octet] at h
  refine lv_iload_n hx hb dX9_octet_0 rfl (lv_at hl 1 rfl) ?_
  refine lv_if_lt (tgt := 15) hx hb dX9_octet_1 (by decide) (fun c1 => ?_) (fun c1 => ?_)
  · have h := ite_t c1 h
    exact n15 _ (lv_sub hl [] rfl) h
  · have h := ite_f c1 h
    refine lv_iload_n hx hb dX9_octet_4 rfl (lv_at hl 1 rfl) ?_
    refine lv_aload_n hx hb dX9_octet_5 rfl (lv_at hl 0 rfl) ?_
    refine va_get (ci := 7) (v := .ref (ad 3)) (C := RX9) (T := TX9) (N := 15) hx hb hts hinX9 hown hK hP 0 rfl rfl 1 (by decide) fl1 (fun _ h9 => h9) rfl dX9_octet_6 ?_
    refine va_get (ci := 6) (v := .int (σ 3 1)) (C := RX8) (T := TX8) (N := 2) hx hb hts hinX8 hown hK hP 3 rfl rfl 1 (by decide) fl2 (fun _ h9 => h9) rfl dX9_octet_9 ?_
    refine lv_icmp_lt (tgt := 25) hx hb dX9_octet_12 (by decide) (fun c2 => ?_) (fun c2 => ?_)
    · have h := ite_t c2 h
      refine lv_aload_n hx hb dX9_octet_25 rfl (lv_at hl 0 rfl) ?_
      refine va_get (ci := 7) (v := .ref (ad 3)) (C := RX9) (T := TX9) (N := 15) hx hb hts hinX9 hown hK hP 0 rfl rfl 1 (by decide) fl1 (fun _ h9 => h9) rfl dX9_octet_26 ?_
      refine lv_iload_n hx hb dX9_octet_29 rfl (lv_at hl 1 rfl) ?_
      obtain ⟨r3, hr3, h⟩ := bd_e h
      refine cl_RV (rest := []) (ci := 6) (q0 := 0) ⟨hx, hb, hml, hown, hts⟩ (mX8_byteAt l D cI cZ cB (mp ad [3, 4]) (mp σ [3, 4]) a1 r3 hr3) (cwV 1 hts gZ_octet_X8_byteAt rfl rfl rfl (by decide +kernel) ⟨Nat.le_of_ble_eq_true rfl, Nat.le_of_ble_eq_true rfl⟩) hK (hP.sub (ws' := wdX8 cI cZ cB (mp ad [3, 4]) (mp σ [3, 4])) [3, 4] rfl) rfl rfl rfl rfl hl.1 rfl (Nat.le_of_ble_eq_true rfl) dX9_octet_30 ⟨Nat.zero_le _, Nat.zero_le _⟩ ?_
      refine W.eq (g2 := F0 m 33 ls [.int r3]) rfl ?_
      exact hR r3 _ _ (Option.some.inj h).symm dX9_octet_33
    · have h := ite_f c2 h
      exact n15 _ (lv_sub hl [] rfl) h
set_option maxHeartbeats 4000000 in
set_option maxRecDepth 100000 in
theorem mX9_octet (K : Nat → Nat) (l : Launch) (D : va_G) (cI cZ cB : ClassId) (ad : Nat → Nat) (σ : Mem) (a1 : Int32) (hfl : l.stackTraces = false) (res : Option Int32) (h : X9_octet a1 σ = some res) : vx_Met l yX9_octet wsZ_octet rmX9_octet (pZ K D cI cZ cB (wdX9 cI cZ cB ad σ) [.ref (ad 0), .int a1]) (qT res) (xT res) 1 6 (fun _ => False) := (bX9_octet K l D cI cZ cB ad σ a1 res h).met hfl (by decide +kernel) rfl rfl (Nat.le_of_ble_eq_true rfl) (by decide +kernel) (by decide +kernel) (by decide +kernel) (Nat.le_of_ble_eq_true rfl) (Nat.le_of_ble_eq_true rfl) rfl rfl
