/-! printed: the walks -/
def rmX10_letters : Room := { frames := 1, cells := 0, slots := 0, locals := 21 }
set_option maxHeartbeats 4000000 in
set_option maxRecDepth 100000 in
theorem bX10_letters (l : Launch) (D : va_G) (cI cZ cB : ClassId) (ad : Nat → Nat) (w : Int64) (σ : Mem) (a1 : Int32) (res : Mem) (h : X10_letters a1 σ = some res) : BW l yX10_letters wsX10_letters rmX10_letters cX10_letters 4 none D cI cZ cB (wdX10 cI cZ cB ad w σ) [.ref (ad 0), .int a1] none (wdX10 cI cZ cB ad w res) := by
  intro p e s m args below meth c ls Q A hx hb hml hts hown hK hA hP hD hS hl0 hR
  have hl : lv_has ls 4 [(0, .ref (ad 0)), (1, .int a1)] := hl0
  have n50 : ∀ (σ : Mem) (H : Heap) (locs : List Loc), va_P D vwCl (wdX10 cI cZ cB ad w σ) H → va_D A (wdX10 cI cZ cB ad w σ) → va_S A s.heap H locs → ∀ (ls : Array Slot), lv_has ls 4 [(0, .ref (ad 0)), (1, .int a1)] → X10_letters_50 a1 σ = some res → W p l e rmX10_letters s m args below meth c H locs 0 0 Q (F0 m 50 ls []) := by
    intro σ H locs hP hD hS ls hl h
    rw [X10_letters_50] at h
    refine lv_aload_n hx hb dX10_letters_50 rfl (lv_at hl 0 rfl) ?_
    refine lv_bipush (v := 97) hx hb dX10_letters_51 (by decide) ?_
    refine lv_iload_n hx hb dX10_letters_53 rfl (lv_at hl 1 rfl) ?_
    refine lv_iconst (v := 1) hx hb dX10_letters_54 (by decide) ?_
    refine lv_isub hx hb dX10_letters_55 ?_
    refine lv_bipush (v := 26) hx hb dX10_letters_56 (by decide) ?_
    refine lv_irem hx hb dX10_letters_58 (by decide) ?_
    refine lv_iadd hx hb dX10_letters_59 ?_
    obtain ⟨r1, hr1, h⟩ := bd_e h
    obtain ⟨σ2, eσ2, h⟩ := lt_e h
    refine cl_WVs (rest := []) (wn := (wdX10 cI cZ cB ad w σ2)) (ci := 8) (q0 := 0) ⟨hx, hb, hml, hown, hts⟩ (mX10_put l D cI cZ cB ad w σ H.size (97 + ((a1 - 1) - (a1 - 1) / 26 * 26)) r1 hr1) (cwV 1 hts gX10_letters_X10_put rfl rfl rfl (by decide +kernel) ⟨Nat.le_of_ble_eq_true rfl, Nat.le_of_ble_eq_true rfl⟩) hK hP hD hS hA (by rw [eσ2]) rfl rfl rfl rfl rfl hl.1 rfl (Nat.le_of_ble_eq_true rfl) dX10_letters_60 ⟨Nat.zero_le _, Nat.zero_le _⟩ (fun H locs hP hD hS => ?_)
    refine W.eq (g2 := F0 m 63 ls []) rfl ?_
    exact hR none (wdX10 cI cZ cB ad w σ2) _ _ _ _ rfl (by rw [← Option.some.inj h]) trivial dX10_letters_63 hP hS
  have n33 : ∀ (x3 : Int32) (σ : Mem) (H : Heap) (locs : List Loc), va_P D vwCl (wdX10 cI cZ cB ad w σ) H → va_D A (wdX10 cI cZ cB ad w σ) → va_S A s.heap H locs → ∀ (ls : Array Slot), lv_has ls 4 [(0, .ref (ad 0)), (1, .int a1), (3, .int x3)] → X10_letters_33 a1 x3 σ = some res → W p l e rmX10_letters s m args below meth c H locs 0 0 Q (F0 m 33 ls []) := by
    intro x3 σ H locs hP hD hS ls hl h
    rw [X10_letters_33] at h
    refine lv_iload_n hx hb dX10_letters_33 rfl (lv_at hl 1 rfl) ?_
    refine lv_bipush (v := 26) hx hb dX10_letters_34 (by decide) ?_
    refine lv_icmp_le (tgt := 50) hx hb dX10_letters_36 (by decide) (fun c3 => ?_) (fun c3 => ?_)
    · have h := ite_t c3 h
      exact n50 σ _ _ hP hD hS _ (lv_sub hl [0, 1] rfl) h
    · have h := ite_f c3 h
      refine lv_aload_n hx hb dX10_letters_39 rfl (lv_at hl 0 rfl) ?_
      refine lv_bipush (v := 97) hx hb dX10_letters_40 (by decide) ?_
      refine lv_iload_n hx hb dX10_letters_42 rfl (lv_at hl 2 rfl) ?_
      refine lv_bipush (v := 26) hx hb dX10_letters_43 (by decide) ?_
      refine lv_irem hx hb dX10_letters_45 (by decide) ?_
      refine lv_iadd hx hb dX10_letters_46 ?_
      obtain ⟨r4, hr4, h⟩ := bd_e h
      obtain ⟨σ5, eσ5, h⟩ := lt_e h
      refine cl_WVs (rest := []) (wn := (wdX10 cI cZ cB ad w σ5)) (ci := 8) (q0 := 0) ⟨hx, hb, hml, hown, hts⟩ (mX10_put l D cI cZ cB ad w σ H.size (97 + (x3 - x3 / 26 * 26)) r4 hr4) (cwV 1 hts gX10_letters_X10_put rfl rfl rfl (by decide +kernel) ⟨Nat.le_of_ble_eq_true rfl, Nat.le_of_ble_eq_true rfl⟩) hK hP hD hS hA (by rw [eσ5]) rfl rfl rfl rfl rfl hl.1 rfl (Nat.le_of_ble_eq_true rfl) dX10_letters_47 ⟨Nat.zero_le _, Nat.zero_le _⟩ (fun H locs hP hD hS => ?_)
      refine W.eq (g2 := F0 m 50 ls []) rfl ?_
      exact n50 σ5 _ _ hP hD hS _ (lv_sub hl [0, 1] rfl) h
  rw [X10_letters] at h
  have hS := hS
  refine lv_iload_n hx hb dX10_letters_0 rfl (lv_at hl 1 rfl) ?_
  refine lv_sipush (v := 703) hx hb dX10_letters_1 (by decide) ?_
  refine lv_isub hx hb dX10_letters_4 ?_
  refine lv_sipush (v := 676) hx hb dX10_letters_5 (by decide) ?_
  refine lv_idiv hx hb dX10_letters_8 (by decide) ?_
  obtain ⟨x2_6, ex2_6, h⟩ := lt_e h
  refine lv_topE ex2_6 ?_
  refine lv_istore_n (lv' := [(2, .int x2_6), (0, .ref (ad 0)), (1, .int a1)]) hx hb dX10_letters_9 rfl hl (by decide) rfl (fun ls hl => ?_)
  refine lv_iload_n hx hb dX10_letters_10 rfl (lv_at hl 2 rfl) ?_
  refine lv_bipush (v := 27) hx hb dX10_letters_11 (by decide) ?_
  refine lv_isub hx hb dX10_letters_13 ?_
  refine lv_bipush (v := 26) hx hb dX10_letters_14 (by decide) ?_
  refine lv_idiv hx hb dX10_letters_16 (by decide) ?_
  obtain ⟨x3_7, ex3_7, h⟩ := lt_e h
  refine lv_topE ex3_7 ?_
  refine lv_istore_n (lv' := [(3, .int x3_7), (2, .int x2_6), (0, .ref (ad 0)), (1, .int a1)]) hx hb dX10_letters_17 rfl hl (by decide) rfl (fun ls hl => ?_)
  refine lv_iload_n hx hb dX10_letters_18 rfl (lv_at hl 3 rfl) ?_
  refine lv_sipush (v := 702) hx hb dX10_letters_19 (by decide) ?_
  refine lv_icmp_le (tgt := 33) hx hb dX10_letters_22 (by decide) (fun c8 => ?_) (fun c8 => ?_)
  · have h := ite_t c8 h
    exact n33 x3_7 σ _ _ hP hD hS _ (lv_sub hl [2, 3, 0] rfl) h
  · have h := ite_f c8 h
    refine lv_aload_n hx hb dX10_letters_25 rfl (lv_at hl 2 rfl) ?_
    refine lv_bipush (v := 97) hx hb dX10_letters_26 (by decide) ?_
    refine lv_iload_n hx hb dX10_letters_28 rfl (lv_at hl 1 rfl) ?_
    refine lv_iadd hx hb dX10_letters_29 ?_
    obtain ⟨r9, hr9, h⟩ := bd_e h
    obtain ⟨σ10, eσ10, h⟩ := lt_e h
    refine cl_WVs (rest := []) (wn := (wdX10 cI cZ cB ad w σ10)) (ci := 8) (q0 := 0) ⟨hx, hb, hml, hown, hts⟩ (mX10_put l D cI cZ cB ad w σ s.heap.size (97 + x2_6) r9 hr9) (cwV 1 hts gX10_letters_X10_put rfl rfl rfl (by decide +kernel) ⟨Nat.le_of_ble_eq_true rfl, Nat.le_of_ble_eq_true rfl⟩) hK hP hD hS hA (by rw [eσ10]) rfl rfl rfl rfl rfl hl.1 rfl (Nat.le_of_ble_eq_true rfl) dX10_letters_30 ⟨Nat.zero_le _, Nat.zero_le _⟩ (fun H locs hP hD hS => ?_)
    refine W.eq (g2 := F0 m 33 ls []) rfl ?_
    exact n33 x3_7 σ10 _ _ hP hD hS _ (lv_sub hl [2, 3, 0] rfl) h
set_option maxHeartbeats 4000000 in
set_option maxRecDepth 100000 in
theorem mX10_letters (l : Launch) (D : va_G) (cI cZ cB : ClassId) (ad : Nat → Nat) (w : Int64) (σ : Mem) (sz : Nat) (a1 : Int32) (res : Mem) (h : X10_letters a1 σ = some res) : Met l yX10_letters wsX10_letters rmX10_letters (pW D cI cZ cB (wdX10 cI cZ cB ad w σ) sz [.ref (ad 0), .int a1]) (qW D none (wdX10 cI cZ cB ad w res) (va_A (wdX10 cI cZ cB ad w σ) sz)) 0 0 (va_A (wdX10 cI cZ cB ad w σ) sz) := (bX10_letters l D cI cZ cB ad w σ a1 res h).metv (by decide +kernel) rfl (Nat.le_of_ble_eq_true rfl)
def rmX10_write : Room := { frames := 2, cells := 0, slots := 0, locals := 45 }
set_option maxHeartbeats 4000000 in
set_option maxRecDepth 100000 in
theorem bX10_write (l : Launch) (D : va_G) (cI cZ cB : ClassId) (ad : Nat → Nat) (w : Int64) (σ : Mem) (a1 : Int32) (a2 : Int32) (res : Mem) (h : X10_write a1 a2 σ = some res) : BW l yX10_write wsX10_write rmX10_write cX10_write 6 none D cI cZ cB (wdX10 cI cZ cB ad w σ) [.ref (ad 0), .int a1, .int a2] none (wdX10 cI cZ cB ad w res) := by
  intro p e s m args below meth c ls Q A hx hb hml hts hown hK hA hP hD hS hl0 hR
  have fl1 := hts (.constant RX10 173 (531441)) (by decide +kernel)
  have hl : lv_has ls 6 [(0, .ref (ad 0)), (1, .int a1), (2, .int a2)] := hl0
  have n70 : ∀ (n : Nat) (x4 : Int32) (x5 : Int32) (σ : Mem) (H : Heap) (locs : List Loc), va_P D vwCl (wdX10 cI cZ cB ad w σ) H → va_D A (wdX10 cI cZ cB ad w σ) → va_S A s.heap H locs → ∀ (ls : Array Slot), lv_has ls 6 [(0, .ref (ad 0)), (4, .int x4), (5, .int x5)] → X10_write_70 a1 a2 n x4 x5 σ = some res → W p l e rmX10_write s m args below meth c H locs 0 0 Q (F0 m 70 ls []) := by
    intro n
    induction n with
    | zero =>
      intro x4 x5 σ H locs hP hD hS ls hl h
      rw [X10_write_70] at h
      cases h
    | succ n_70 ih70 =>
      intro x4 x5 σ H locs hP hD hS ls hl h
      rw [X10_write_70] at h
      refine lv_iload hx hb dX10_write_70 (lv_at hl 2 rfl) ?_
      refine lv_iload hx hb dX10_write_72 (lv_at hl 1 rfl) ?_
      obtain ⟨r1, hr1, h⟩ := bd_e h
      refine cl_RS (rest := [.int x5]) ⟨hx, hb, hml, hown, hts⟩ (mX10_lettersOf l D cI cZ cB x4 r1 hr1) (va_cwS 1 hts gX10_write_X10_lettersOf rfl rfl rfl (by decide +kernel) ⟨Nat.le_of_ble_eq_true rfl, Nat.le_of_ble_eq_true rfl⟩) hK wd0_P rfl hl.1 rfl (Nat.le_of_ble_eq_true rfl) dX10_write_74 ⟨Nat.zero_le _, Nat.zero_le _⟩ ?_
      refine W.eq (g2 := F0 m 77 ls [.int r1, .int x5]) rfl ?_
      refine lv_icmp_ge (tgt := 100) hx hb dX10_write_77 (by decide) (fun c2 => ?_) (fun c2 => ?_)
      · have h := ite_t c2 h
        exact hR none (wdX10 cI cZ cB ad w σ) _ _ _ _ rfl (by rw [← Option.some.inj h]) trivial dX10_write_100 hP hS
      · have h := ite_f c2 h
        refine lv_aload_n hx hb dX10_write_80 rfl (lv_at hl 0 rfl) ?_
        refine lv_bipush (v := 64) hx hb dX10_write_81 (by decide) ?_
        refine lv_iload hx hb dX10_write_83 (lv_at hl 1 rfl) ?_
        refine lv_iload hx hb dX10_write_85 (lv_at hl 2 rfl) ?_
        obtain ⟨r3, hr3, h⟩ := bd_e h
        refine cl_RS (rest := [.int 64, .ref (ad 0)]) ⟨hx, hb, hml, hown, hts⟩ (mX10_letterAt l D cI cZ cB x4 x5 r3 hr3) (va_cwS 2 hts gX10_write_X10_letterAt rfl rfl rfl (by decide +kernel) ⟨Nat.le_of_ble_eq_true rfl, Nat.le_of_ble_eq_true rfl⟩) hK wd0_P rfl hl.1 rfl (Nat.le_of_ble_eq_true rfl) dX10_write_87 ⟨Nat.zero_le _, Nat.zero_le _⟩ ?_
        refine W.eq (g2 := F0 m 90 ls [.int r3, .int 64, .ref (ad 0)]) rfl ?_
        refine lv_iadd hx hb dX10_write_90 ?_
        obtain ⟨r4, hr4, h⟩ := bd_e h
        obtain ⟨σ5, eσ5, h⟩ := lt_e h
        refine cl_WVs (rest := []) (wn := (wdX10 cI cZ cB ad w σ5)) (ci := 8) (q0 := 0) ⟨hx, hb, hml, hown, hts⟩ (mX10_put l D cI cZ cB ad w σ H.size (64 + r3) r4 hr4) (cwV 1 hts gX10_write_X10_put rfl rfl rfl (by decide +kernel) ⟨Nat.le_of_ble_eq_true rfl, Nat.le_of_ble_eq_true rfl⟩) hK hP hD hS hA (by rw [eσ5]) rfl rfl rfl rfl rfl hl.1 rfl (Nat.le_of_ble_eq_true rfl) dX10_write_91 ⟨Nat.zero_le _, Nat.zero_le _⟩ (fun H locs hP hD hS => ?_)
        refine W.eq (g2 := F0 m 94 ls []) rfl ?_
        obtain ⟨x5_6, ex5_6, h⟩ := lt_e h
        refine lv_iinc (v := x5_6) (lv' := [(5, .int x5_6), (0, .ref (ad 0)), (4, .int x4)]) hx hb dX10_write_94 hl (k := 2) rfl (by rw [ex5_6]; rfl) (by decide) rfl (fun ls hl => ?_)
        refine lv_goto (tgt := 70) hx hb dX10_write_97 (by decide) ?_
        exact ih70 x4 x5_6 σ5 _ _ hP hD hS _ (lv_sub hl [1, 2, 0] rfl) h
  have n46 : ∀ (σ : Mem) (H : Heap) (locs : List Loc), va_P D vwCl (wdX10 cI cZ cB ad w σ) H → va_D A (wdX10 cI cZ cB ad w σ) → va_S A s.heap H locs → ∀ (ls : Array Slot), lv_has ls 6 [(0, .ref (ad 0)), (1, .int a1), (2, .int a2)] → X10_write_46 a1 a2 σ = some res → W p l e rmX10_write s m args below meth c H locs 0 0 Q (F0 m 46 ls []) := by
    intro σ H locs hP hD hS ls hl h
    rw [X10_write_46] at h
    refine lv_iload_n hx hb dX10_write_46 rfl (lv_at hl 1 rfl) ?_
    refine lv_ldc (v := 531441) hx hb hown fl1 dX10_write_47 ?_
    refine lv_irem hx hb dX10_write_49 (by decide) ?_
    obtain ⟨x4_7, ex4_7, h⟩ := lt_e h
    refine lv_topE ex4_7 ?_
    refine lv_istore (lv' := [(4, .int x4_7), (0, .ref (ad 0)), (1, .int a1), (2, .int a2)]) hx hb dX10_write_50 hl (by decide) rfl (fun ls hl => ?_)
    refine lv_iload hx hb dX10_write_52 (lv_at hl 0 rfl) ?_
    refine lv_if_le (tgt := 67) hx hb dX10_write_54 (by decide) (fun c8 => ?_) (fun c8 => ?_)
    · have h := ite_t c8 h
      refine lv_iconst (v := 0) hx hb dX10_write_67 (by decide) ?_
      refine lv_istore (lv' := [(5, .int 0), (4, .int x4_7), (0, .ref (ad 0)), (1, .int a1), (2, .int a2)]) hx hb dX10_write_68 hl (by decide) rfl (fun ls hl => ?_)
      exact n70 FU x4_7 0 σ _ _ hP hD hS _ (lv_sub hl [2, 1, 0] rfl) h
    · have h := ite_f c8 h
      refine lv_iload_n hx hb dX10_write_57 rfl (lv_at hl 3 rfl) ?_
      refine lv_if_eq (tgt := 67) hx hb dX10_write_58 (by decide) (fun c9 => ?_) (fun c9 => ?_)
      · have h := ite_t c9 h
        refine lv_iconst (v := 0) hx hb dX10_write_67 (by decide) ?_
        refine lv_istore (lv' := [(5, .int 0), (4, .int x4_7), (0, .ref (ad 0)), (1, .int a1), (2, .int a2)]) hx hb dX10_write_68 hl (by decide) rfl (fun ls hl => ?_)
        exact n70 FU x4_7 0 σ _ _ hP hD hS _ (lv_sub hl [2, 1, 0] rfl) h
      · have h := ite_f c9 h
        refine lv_aload_n hx hb dX10_write_61 rfl (lv_at hl 1 rfl) ?_
        refine lv_bipush (v := 45) hx hb dX10_write_62 (by decide) ?_
        obtain ⟨r10, hr10, h⟩ := bd_e h
        obtain ⟨σ11, eσ11, h⟩ := lt_e h
        refine cl_WVs (rest := []) (wn := (wdX10 cI cZ cB ad w σ11)) (ci := 8) (q0 := 0) ⟨hx, hb, hml, hown, hts⟩ (mX10_put l D cI cZ cB ad w σ H.size 45 r10 hr10) (cwV 1 hts gX10_write_X10_put rfl rfl rfl (by decide +kernel) ⟨Nat.le_of_ble_eq_true rfl, Nat.le_of_ble_eq_true rfl⟩) hK hP hD hS hA (by rw [eσ11]) rfl rfl rfl rfl rfl hl.1 rfl (Nat.le_of_ble_eq_true rfl) dX10_write_64 ⟨Nat.zero_le _, Nat.zero_le _⟩ (fun H locs hP hD hS => ?_)
        refine W.eq (g2 := F0 m 67 ls []) rfl ?_
        refine lv_iconst (v := 0) hx hb dX10_write_67 (by decide) ?_
        refine lv_istore (lv' := [(5, .int 0), (4, .int x4_7), (0, .ref (ad 0)), (1, .int a1), (2, .int a2)]) hx hb dX10_write_68 hl (by decide) rfl (fun ls hl => ?_)
        exact n70 FU x4_7 0 σ11 _ _ hP hD hS _ (lv_sub hl [2, 1, 0] rfl) h
  have n43 : ∀ (y1 : Int32) (y2 : Int32) (σ : Mem) (H : Heap) (locs : List Loc), va_P D vwCl (wdX10 cI cZ cB ad w σ) H → va_D A (wdX10 cI cZ cB ad w σ) → va_S A s.heap H locs → ∀ (ls : Array Slot), lv_has ls 6 [(0, .ref (ad 0)), (1, .int a1), (2, .int a2)] → X10_write_43 a1 a2 y1 y2 σ = some res → W p l e rmX10_write s m args below meth c H locs 0 0 Q (F0 m 43 ls [.int y2, .int y1, .ref (ad 0)]) := by
    intro y1 y2 σ H locs hP hD hS ls hl h
    rw [X10_write_43] at h
    obtain ⟨r12, hr12, h⟩ := bd_e h
    obtain ⟨σ13, eσ13, h⟩ := lt_e h
    refine cl_WVs (rest := []) (wn := (wdX10 cI cZ cB ad w σ13)) (ci := 8) (q0 := 0) ⟨hx, hb, hml, hown, hts⟩ (mX10_roman l D cI cZ cB ad w σ H.size y1 y2 r12 hr12) (cwV 2 hts gX10_write_X10_roman rfl rfl rfl (by decide +kernel) ⟨Nat.le_of_ble_eq_true rfl, Nat.le_of_ble_eq_true rfl⟩) hK hP hD hS hA (by rw [eσ13]) rfl rfl rfl rfl rfl hl.1 rfl (Nat.le_of_ble_eq_true rfl) dX10_write_43 ⟨Nat.zero_le _, Nat.zero_le _⟩ (fun H locs hP hD hS => ?_)
    refine W.eq (g2 := F0 m 46 ls []) rfl ?_
    exact n46 σ13 _ _ hP hD hS _ (lv_sub hl [0, 1, 2] rfl) h
  rw [X10_write] at h
  have hS := hS
  refine lv_iload_n hx hb dX10_write_0 rfl (lv_at hl 1 rfl) ?_
  refine lv_ldc (v := 531441) hx hb hown fl1 dX10_write_1 ?_
  refine lv_idiv hx hb dX10_write_3 (by decide) ?_
  obtain ⟨x3_14, ex3_14, h⟩ := lt_e h
  refine lv_topE ex3_14 ?_
  refine lv_istore_n (lv' := [(3, .int x3_14), (0, .ref (ad 0)), (1, .int a1), (2, .int a2)]) hx hb dX10_write_4 rfl hl (by decide) rfl (fun ls hl => ?_)
  refine lv_iload_n hx hb dX10_write_5 rfl (lv_at hl 3 rfl) ?_
  refine lv_if_ne (tgt := 17) hx hb dX10_write_6 (by decide) (fun c15 => ?_) (fun c15 => ?_)
  · have h := ite_f c15 h
    refine lv_iload_n hx hb dX10_write_17 rfl (lv_at hl 3 rfl) ?_
    refine lv_iconst (v := 2) hx hb dX10_write_18 (by decide) ?_
    refine lv_icmp_ne (tgt := 30) hx hb dX10_write_19 (by decide) (fun c16 => ?_) (fun c16 => ?_)
    · have h := ite_f c16 h
      refine lv_aload_n hx hb dX10_write_30 rfl (lv_at hl 1 rfl) ?_
      refine lv_iload_n hx hb dX10_write_31 rfl (lv_at hl 0 rfl) ?_
      refine lv_iload_n hx hb dX10_write_32 rfl (lv_at hl 3 rfl) ?_
      refine lv_iconst (v := 3) hx hb dX10_write_33 (by decide) ?_
      refine lv_icmp_ne (tgt := 42) hx hb dX10_write_34 (by decide) (fun c17 => ?_) (fun c17 => ?_)
      · have h := ite_f c17 h
        refine lv_iconst (v := 0) hx hb dX10_write_42 (by decide) ?_
        exact n43 x3_14 0 σ _ _ hP hD hS _ (lv_sub hl [1, 2, 3] rfl) h
      · have h := ite_t c17 h
        refine lv_bipush (v := 32) hx hb dX10_write_37 (by decide) ?_
        refine lv_goto (tgt := 43) hx hb dX10_write_39 (by decide) ?_
        exact n43 x3_14 32 σ _ _ hP hD hS _ (lv_sub hl [1, 2, 3] rfl) h
    · have h := ite_t c16 h
      refine lv_aload_n hx hb dX10_write_22 rfl (lv_at hl 1 rfl) ?_
      refine lv_iload_n hx hb dX10_write_23 rfl (lv_at hl 0 rfl) ?_
      obtain ⟨r18, hr18, h⟩ := bd_e h
      obtain ⟨σ19, eσ19, h⟩ := lt_e h
      refine cl_WVs (rest := []) (wn := (wdX10 cI cZ cB ad w σ19)) (ci := 8) (q0 := 0) ⟨hx, hb, hml, hown, hts⟩ (mX10_letters l D cI cZ cB ad w σ s.heap.size x3_14 r18 hr18) (cwV 1 hts gX10_write_X10_letters rfl rfl rfl (by decide +kernel) ⟨Nat.le_of_ble_eq_true rfl, Nat.le_of_ble_eq_true rfl⟩) hK hP hD hS hA (by rw [eσ19]) rfl rfl rfl rfl rfl hl.1 rfl (Nat.le_of_ble_eq_true rfl) dX10_write_24 ⟨Nat.zero_le _, Nat.zero_le _⟩ (fun H locs hP hD hS => ?_)
      refine W.eq (g2 := F0 m 27 ls []) rfl ?_
      refine lv_goto (tgt := 46) hx hb dX10_write_27 (by decide) ?_
      exact n46 σ19 _ _ hP hD hS _ (lv_sub hl [1, 2, 3] rfl) h
  · have h := ite_t c15 h
    refine lv_aload_n hx hb dX10_write_9 rfl (lv_at hl 1 rfl) ?_
    refine lv_iload_n hx hb dX10_write_10 rfl (lv_at hl 0 rfl) ?_
    obtain ⟨r20, hr20, h⟩ := bd_e h
    obtain ⟨σ21, eσ21, h⟩ := lt_e h
    refine cl_WVs (rest := []) (wn := (wdX10 cI cZ cB ad w σ21)) (ci := 8) (q0 := 0) ⟨hx, hb, hml, hown, hts⟩ (mX10_decimal l D cI cZ cB ad w σ s.heap.size x3_14 r20 hr20) (cwV 1 hts gX10_write_X10_decimal rfl rfl rfl (by decide +kernel) ⟨Nat.le_of_ble_eq_true rfl, Nat.le_of_ble_eq_true rfl⟩) hK hP hD hS hA (by rw [eσ21]) rfl rfl rfl rfl rfl hl.1 rfl (Nat.le_of_ble_eq_true rfl) dX10_write_11 ⟨Nat.zero_le _, Nat.zero_le _⟩ (fun H locs hP hD hS => ?_)
    refine W.eq (g2 := F0 m 14 ls []) rfl ?_
    refine lv_goto (tgt := 46) hx hb dX10_write_14 (by decide) ?_
    exact n46 σ21 _ _ hP hD hS _ (lv_sub hl [1, 2, 3] rfl) h
set_option maxHeartbeats 4000000 in
set_option maxRecDepth 100000 in
theorem mX10_write (l : Launch) (D : va_G) (cI cZ cB : ClassId) (ad : Nat → Nat) (w : Int64) (σ : Mem) (sz : Nat) (a1 : Int32) (a2 : Int32) (res : Mem) (h : X10_write a1 a2 σ = some res) : Met l yX10_write wsX10_write rmX10_write (pW D cI cZ cB (wdX10 cI cZ cB ad w σ) sz [.ref (ad 0), .int a1, .int a2]) (qW D none (wdX10 cI cZ cB ad w res) (va_A (wdX10 cI cZ cB ad w σ) sz)) 0 0 (va_A (wdX10 cI cZ cB ad w σ) sz) := (bX10_write l D cI cZ cB ad w σ a1 a2 res h).metv (by decide +kernel) rfl (Nat.le_of_ble_eq_true rfl)
def rmX10_label : Room := { frames := 3, cells := 0, slots := 0, locals := 70 }
set_option maxHeartbeats 4000000 in
set_option maxRecDepth 100000 in
theorem bX10_label (l : Launch) (D : va_G) (cI cZ cB : ClassId) (ad : Nat → Nat) (w : Int64) (σ : Mem) (a1 : Int32) (a2 : Int32) (res : Int32 × Mem) (h : X10_label a1 a2 σ = some res) : BW l yX10_label wsX10_label rmX10_label cX10_label 4 (some .int) D cI cZ cB (wdX10 cI cZ cB ad w σ) [.ref (ad 0), .int a1, .int a2] (some (.int res.1)) (wdX10 cI cZ cB ad w res.2) := by
  intro p e s m args below meth c ls Q A hx hb hml hts hown hK hA hP hD hS hl0 hR
  have hinX10 : ∀ w ∈ u_ws RX10 TX10 42, w ∈ wsX10_label := (fun _ h => List.mem_cons_of_mem _ (List.mem_append_right _ h))
  have fl1 := hts (.fieldLink RX10 213 "LawNumbererModel" "outMany" "I") (by decide +kernel)
  have fl2 := hts (.fieldLink RX10 13 "LawNumbererModel" "form" "[I") (by decide +kernel)
  have fl3 := hts (.fieldLink RX10 34 "LawNumbererModel" "level" "[I") (by decide +kernel)
  have fl4 := hts (.fieldLink RX10 86 "LawNumbererModel" "thrown" "I") (by decide +kernel)
  have hl : lv_has ls 4 [(0, .ref (ad 0)), (1, .int a1), (2, .int a2)] := hl0
  have n27 : ∀ (y0 : Int32) (σ : Mem) (H : Heap) (locs : List Loc), va_P D vwCl (wdX10 cI cZ cB ad w σ) H → va_D A (wdX10 cI cZ cB ad w σ) → va_S A s.heap H locs → ∀ (ls : Array Slot), lv_has ls 4 [(0, .ref (ad 0)), (1, .int a1)] → X10_label_27 a1 a2 y0 σ = some res → W p l e rmX10_label s m args below meth c H locs 0 0 Q (F0 m 27 ls [.int y0]) := by
    intro y0 σ H locs hP hD hS ls hl h
    rw [X10_label_27] at h
    refine lv_istore_n (lv' := [(3, .int y0), (0, .ref (ad 0)), (1, .int a1)]) hx hb dX10_label_27 rfl hl (by decide) rfl (fun ls hl => ?_)
    refine lv_iload_n hx hb dX10_label_28 rfl (lv_at hl 0 rfl) ?_
    refine lv_if_ne (tgt := 34) hx hb dX10_label_29 (by decide) (fun c1 => ?_) (fun c1 => ?_)
    · have h := ite_f c1 h
      refine lv_aload_n hx hb dX10_label_34 rfl (lv_at hl 1 rfl) ?_
      refine lv_iconst (v := 0) hx hb dX10_label_35 (by decide) ?_
      obtain ⟨σ2, eσ2, h⟩ := lt_e h
      refine va_put (ci := 8) (v := .int 0) (ty := .int) (C := RX10) (T := TX10) (N := 42) hx hb hts hinX10 tyX10 tyX10_ok nmX10 hown hK hP hD hS 0 rfl rfl 32 (by decide) fl1 (fun _ h9 => h9) rfl (by decide +kernel) rfl rfl (Nat.le_of_ble_eq_true rfl) dX10_label_36 (fun H locs hP1 hD1 hS => ?_)
      have hP : va_P D vwCl (wdX10 cI cZ cB ad w σ2) H := by rw [eσ2]; exact hP1
      have hD : va_D A (wdX10 cI cZ cB ad w σ2) := D_of (by rfl) hD
      refine lv_aload_n hx hb dX10_label_39 rfl (lv_at hl 1 rfl) ?_
      refine lv_iload_n hx hb dX10_label_40 rfl (lv_at hl 0 rfl) ?_
      refine lv_aload_n hx hb dX10_label_41 rfl (lv_at hl 1 rfl) ?_
      refine va_get (ci := 8) (v := .ref (ad 2)) (C := RX10) (T := TX10) (N := 42) hx hb hts hinX10 hown hK hP 0 rfl rfl 5 (by decide) fl2 (fun _ h9 => h9) rfl dX10_label_42 ?_
      refine lv_aload_n hx hb dX10_label_45 rfl (lv_at hl 1 rfl) ?_
      refine va_get (ci := 8) (v := .ref (ad 6)) (C := RX10) (T := TX10) (N := 42) hx hb hts hinX10 hown hK hP 0 rfl rfl 16 (by decide) fl3 (fun _ h9 => h9) rfl dX10_label_46 ?_
      refine lv_iload_n hx hb dX10_label_49 rfl (lv_at hl 2 rfl) ?_
      obtain ⟨hin3, h⟩ := gd_e h
      refine va_iald hx hb hK hP 6 0 rfl rfl hin3 dX10_label_50 ?_
      obtain ⟨hin4, h⟩ := gd_e h
      refine va_iald hx hb hK hP 2 0 rfl rfl hin4 dX10_label_51 ?_
      obtain ⟨r5, hr5, h⟩ := bd_e h
      obtain ⟨σ6, eσ6, h⟩ := lt_e h
      refine cl_WVs (rest := []) (wn := (wdX10 cI cZ cB ad w σ6)) (ci := 8) (q0 := 0) ⟨hx, hb, hml, hown, hts⟩ (mX10_write l D cI cZ cB ad w σ2 H.size y0 (σ2 2 (Int32.toNatClampNeg (σ2 6 (Int32.toNatClampNeg a1)))) r5 hr5) (cwV 2 hts gX10_label_X10_write rfl rfl rfl (by decide +kernel) ⟨Nat.le_of_ble_eq_true rfl, Nat.le_of_ble_eq_true rfl⟩) hK hP hD hS hA (by rw [eσ6]) rfl rfl rfl rfl rfl hl.1 rfl (Nat.le_of_ble_eq_true rfl) dX10_label_52 ⟨Nat.zero_le _, Nat.zero_le _⟩ (fun H locs hP hD hS => ?_)
      refine W.eq (g2 := F0 m 55 ls []) rfl ?_
      refine lv_aload_n hx hb dX10_label_55 rfl (lv_at hl 1 rfl) ?_
      refine va_get (ci := 8) (v := .int (σ6 0 32)) (C := RX10) (T := TX10) (N := 42) hx hb hts hinX10 hown hK hP 0 rfl rfl 32 (by decide) fl1 (fun _ h9 => h9) rfl dX10_label_56 ?_
      exact hR (some (.int (σ6 0 32))) (wdX10 cI cZ cB ad w σ6) _ _ _ _ (by rw [← Option.some.inj h]) (by rw [← Option.some.inj h]) rfl dX10_label_59 hP hS
    · have h := ite_t c1 h
      refine lv_iconst (v := (-1)) hx hb dX10_label_32 (by decide) ?_
      exact hR (some (.int (-1))) (wdX10 cI cZ cB ad w σ) _ _ _ _ (by rw [← Option.some.inj h]) (by rw [← Option.some.inj h]) rfl dX10_label_33 hP hS
  have n26 : ∀ (σ : Mem) (H : Heap) (locs : List Loc), va_P D vwCl (wdX10 cI cZ cB ad w σ) H → va_D A (wdX10 cI cZ cB ad w σ) → va_S A s.heap H locs → ∀ (ls : Array Slot), lv_has ls 4 [(0, .ref (ad 0)), (1, .int a1)] → X10_label_26 a1 a2 σ = some res → W p l e rmX10_label s m args below meth c H locs 0 0 Q (F0 m 26 ls []) := by
    intro σ H locs hP hD hS ls hl h
    rw [X10_label_26] at h
    refine lv_iconst (v := 0) hx hb dX10_label_26 (by decide) ?_
    exact n27 0 σ _ _ hP hD hS _ (lv_sub hl [0, 1] rfl) h
  rw [X10_label] at h
  have hS := hS
  refine lv_aload_n hx hb dX10_label_0 rfl (lv_at hl 0 rfl) ?_
  refine lv_iconst (v := 0) hx hb dX10_label_1 (by decide) ?_
  obtain ⟨σ7, eσ7, h⟩ := lt_e h
  refine va_put (ci := 8) (v := .int 0) (ty := .int) (C := RX10) (T := TX10) (N := 42) hx hb hts hinX10 tyX10 tyX10_ok nmX10 hown hK hP hD hS 0 rfl rfl 0 (by decide) fl4 (fun _ h9 => h9) rfl (by decide +kernel) rfl rfl (Nat.le_of_ble_eq_true rfl) dX10_label_2 (fun H locs hP1 hD1 hS => ?_)
  have hP : va_P D vwCl (wdX10 cI cZ cB ad w σ7) H := by rw [eσ7]; exact hP1
  have hD : va_D A (wdX10 cI cZ cB ad w σ7) := D_of (by rfl) hD
  refine lv_aload_n hx hb dX10_label_5 rfl (lv_at hl 0 rfl) ?_
  refine lv_iload_n hx hb dX10_label_6 rfl (lv_at hl 1 rfl) ?_
  obtain ⟨r8, hr8, h⟩ := bd_e h
  refine cl_RV (rest := []) (ci := 8) (q0 := 0) ⟨hx, hb, hml, hown, hts⟩ (mX10_isItem l D cI cZ cB ad w σ7 a1 r8 hr8) (cwV 1 hts gX10_label_X10_isItem rfl rfl rfl (by decide +kernel) ⟨Nat.le_of_ble_eq_true rfl, Nat.le_of_ble_eq_true rfl⟩) hK hP rfl rfl rfl rfl hl.1 rfl (Nat.le_of_ble_eq_true rfl) dX10_label_7 ⟨Nat.zero_le _, Nat.zero_le _⟩ ?_
  refine W.eq (g2 := F0 m 10 ls [.int r8]) rfl ?_
  refine lv_if_eq (tgt := 26) hx hb dX10_label_10 (by decide) (fun c9 => ?_) (fun c9 => ?_)
  · have h := ite_t c9 h
    exact n26 σ7 _ _ hP hD hS _ (lv_sub hl [0, 1] rfl) h
  · have h := ite_f c9 h
    refine lv_iload_n hx hb dX10_label_13 rfl (lv_at hl 2 rfl) ?_
    refine lv_if_lt (tgt := 26) hx hb dX10_label_14 (by decide) (fun c10 => ?_) (fun c10 => ?_)
    · have h := ite_t c10 h
      exact n26 σ7 _ _ hP hD hS _ (lv_sub hl [0, 1] rfl) h
    · have h := ite_f c10 h
      refine lv_aload_n hx hb dX10_label_17 rfl (lv_at hl 0 rfl) ?_
      refine lv_iload_n hx hb dX10_label_18 rfl (lv_at hl 1 rfl) ?_
      refine lv_iload_n hx hb dX10_label_19 rfl (lv_at hl 2 rfl) ?_
      obtain ⟨r11, hr11, h⟩ := bd_e h
      refine cl_RV (rest := []) (ci := 8) (q0 := 0) ⟨hx, hb, hml, hown, hts⟩ (mX10_labelOf l D cI cZ cB ad w σ7 a1 a2 r11 hr11) (cwV 2 hts gX10_label_X10_labelOf rfl rfl rfl (by decide +kernel) ⟨Nat.le_of_ble_eq_true rfl, Nat.le_of_ble_eq_true rfl⟩) hK hP rfl rfl rfl rfl hl.1 rfl (Nat.le_of_ble_eq_true rfl) dX10_label_20 ⟨Nat.zero_le _, Nat.zero_le _⟩ ?_
      refine W.eq (g2 := F0 m 23 ls [.int r11]) rfl ?_
      refine lv_goto (tgt := 27) hx hb dX10_label_23 (by decide) ?_
      exact n27 r11 σ7 _ _ hP hD hS _ (lv_sub hl [0, 1] rfl) h
set_option maxHeartbeats 4000000 in
set_option maxRecDepth 100000 in
theorem mX10_label (l : Launch) (D : va_G) (cI cZ cB : ClassId) (ad : Nat → Nat) (w : Int64) (σ : Mem) (sz : Nat) (a1 : Int32) (a2 : Int32) (res : Int32 × Mem) (h : X10_label a1 a2 σ = some res) : Met l yX10_label wsX10_label rmX10_label (pW D cI cZ cB (wdX10 cI cZ cB ad w σ) sz [.ref (ad 0), .int a1, .int a2]) (qW D (some (.int res.1)) (wdX10 cI cZ cB ad w res.2) (va_A (wdX10 cI cZ cB ad w σ) sz)) 0 0 (va_A (wdX10 cI cZ cB ad w σ) sz) := (bX10_label l D cI cZ cB ad w σ a1 a2 res h).met (by decide +kernel) rfl (Nat.le_of_ble_eq_true rfl)
def rmX10_over : Room := { frames := 0, cells := 0, slots := 0, locals := 0 }
set_option maxHeartbeats 4000000 in
set_option maxRecDepth 100000 in
theorem bX10_over (l : Launch) (D : va_G) (cI cZ cB : ClassId) (ad : Nat → Nat) (w : Int64) (σ : Mem) (a1 : Int32) (a2 : Int32) (res : Int32) (h : X10_over a1 a2 σ = some res) : BR l yX10_over wsX10_over rmX10_over cX10_over 4 (some .int) D cI cZ cB (wdX10 cI cZ cB ad w σ) [.ref (ad 0), .int a1, .int a2] (some (.int res)) := by
  intro p e s m args below meth c ls Q hx hb hml hts hown hK hP hl0 hR
  have hinX10 : ∀ w ∈ u_ws RX10 TX10 42, w ∈ wsX10_over := (fun _ h => List.mem_cons_of_mem _ (List.mem_append_right _ h))
  have fl1 := hts (.fieldLink RX10 34 "LawNumbererModel" "level" "[I") (by decide +kernel)
  have fl2 := hts (.fieldLink RX10 37 "LawNumbererModel" "up" "[I") (by decide +kernel)
  have hl : lv_has ls 4 [(0, .ref (ad 0)), (1, .int a1), (2, .int a2)] := hl0
  have n2 : ∀ (n : Nat) (x3 : Int32) (ls : Array Slot), lv_has ls 4 [(0, .ref (ad 0)), (2, .int a2), (3, .int x3)] → X10_over_2 a1 a2 σ n x3 = some res → W p l e rmX10_over s m args below meth c s.heap [] 0 0 Q (F0 m 2 ls []) := by
    intro n
    induction n with
    | zero =>
      intro x3 ls hl h
      rw [X10_over_2] at h
      cases h
    | succ n_2 ih2 =>
      intro x3 ls hl h
      rw [X10_over_2] at h
      refine lv_aload_n hx hb dX10_over_2 rfl (lv_at hl 0 rfl) ?_
      refine va_get (ci := 8) (v := .ref (ad 6)) (C := RX10) (T := TX10) (N := 42) hx hb hts hinX10 hown hK hP 0 rfl rfl 16 (by decide) fl1 (fun _ h9 => h9) rfl dX10_over_3 ?_
      refine lv_iload_n hx hb dX10_over_6 rfl (lv_at hl 2 rfl) ?_
      obtain ⟨hin1, h⟩ := gd_e h
      refine va_iald hx hb hK hP 6 0 rfl rfl hin1 dX10_over_7 ?_
      refine lv_iload_n hx hb dX10_over_8 rfl (lv_at hl 1 rfl) ?_
      refine lv_icmp_le (tgt := 22) hx hb dX10_over_9 (by decide) (fun c2 => ?_) (fun c2 => ?_)
      · have h := ite_t c2 h
        refine lv_iload_n hx hb dX10_over_22 rfl (lv_at hl 2 rfl) ?_
        exact hR (some (.int x3)) _ _ (by rw [← Option.some.inj h]) rfl dX10_over_23
      · have h := ite_f c2 h
        refine lv_aload_n hx hb dX10_over_12 rfl (lv_at hl 0 rfl) ?_
        refine va_get (ci := 8) (v := .ref (ad 7)) (C := RX10) (T := TX10) (N := 42) hx hb hts hinX10 hown hK hP 0 rfl rfl 17 (by decide) fl2 (fun _ h9 => h9) rfl dX10_over_13 ?_
        refine lv_iload_n hx hb dX10_over_16 rfl (lv_at hl 2 rfl) ?_
        obtain ⟨hin3, h⟩ := gd_e h
        refine va_iald hx hb hK hP 7 0 rfl rfl hin3 dX10_over_17 ?_
        obtain ⟨x3_4, ex3_4, h⟩ := lt_e h
        refine lv_topE ex3_4 ?_
        refine lv_istore_n (lv' := [(3, .int x3_4), (0, .ref (ad 0)), (2, .int a2)]) hx hb dX10_over_18 rfl hl (by decide) rfl (fun ls hl => ?_)
        refine lv_goto (tgt := 2) hx hb dX10_over_19 (by decide) ?_
        exact ih2 x3_4 _ (lv_sub hl [1, 2, 0] rfl) h
  rw [X10_over] at h
  refine lv_iload_n hx hb dX10_over_0 rfl (lv_at hl 1 rfl) ?_
  refine lv_istore_n (lv' := [(3, .int a1), (0, .ref (ad 0)), (1, .int a1), (2, .int a2)]) hx hb dX10_over_1 rfl hl (by decide) rfl (fun ls hl => ?_)
  exact n2 FU a1 _ (lv_sub hl [1, 3, 0] rfl) h
set_option maxHeartbeats 4000000 in
set_option maxRecDepth 100000 in
theorem mX10_over (l : Launch) (D : va_G) (cI cZ cB : ClassId) (ad : Nat → Nat) (w : Int64) (σ : Mem) (a1 : Int32) (a2 : Int32) (res : Int32) (h : X10_over a1 a2 σ = some res) : Met l yX10_over wsX10_over rmX10_over (pR D cI cZ cB (wdX10 cI cZ cB ad w σ) [.ref (ad 0), .int a1, .int a2]) (qR (some (.int res))) 0 0 (fun _ => False) := (bX10_over l D cI cZ cB ad w σ a1 a2 res h).met (by decide +kernel) rfl (Nat.le_of_ble_eq_true rfl)
def rmX10_cited : Room := { frames := 3, cells := 0, slots := 0, locals := 70 }
set_option maxHeartbeats 4000000 in
set_option maxRecDepth 100000 in
theorem bX10_cited (l : Launch) (D : va_G) (cI cZ cB : ClassId) (ad : Nat → Nat) (w : Int64) (σ : Mem) (a1 : Int32) (a2 : Int32) (res : Int32 × Mem) (h : X10_cited a1 a2 σ = some res) : BW l yX10_cited wsX10_cited rmX10_cited cX10_cited 4 (some .int) D cI cZ cB (wdX10 cI cZ cB ad w σ) [.ref (ad 0), .int a1, .int a2] (some (.int res.1)) (wdX10 cI cZ cB ad w res.2) := by
  intro p e s m args below meth c ls Q A hx hb hml hts hown hK hA hP hD hS hl0 hR
  have hinX10 : ∀ w ∈ u_ws RX10 TX10 42, w ∈ wsX10_cited := (fun _ h => List.mem_cons_of_mem _ (List.mem_append_right _ h))
  have fl1 := hts (.fieldLink RX10 13 "LawNumbererModel" "form" "[I") (by decide +kernel)
  have fl2 := hts (.fieldLink RX10 34 "LawNumbererModel" "level" "[I") (by decide +kernel)
  have fl3 := hts (.fieldLink RX10 213 "LawNumbererModel" "outMany" "I") (by decide +kernel)
  have fl4 := hts (.fieldLink RX10 86 "LawNumbererModel" "thrown" "I") (by decide +kernel)
  have hl : lv_has ls 4 [(0, .ref (ad 0)), (1, .int a1), (2, .int a2)] := hl0
  have n60 : ∀ (n : Nat) (x3 : Int32) (σ : Mem) (H : Heap) (locs : List Loc), va_P D vwCl (wdX10 cI cZ cB ad w σ) H → va_D A (wdX10 cI cZ cB ad w σ) → va_S A s.heap H locs → ∀ (ls : Array Slot), lv_has ls 4 [(0, .ref (ad 0)), (1, .int a1), (2, .int a2), (3, .int x3)] → X10_cited_60 a1 a2 n x3 σ = some res → W p l e rmX10_cited s m args below meth c H locs 0 0 Q (F0 m 60 ls []) := by
    intro n
    induction n with
    | zero =>
      intro x3 σ H locs hP hD hS ls hl h
      rw [X10_cited_60] at h
      cases h
    | succ n_60 ih60 =>
      have n80 : ∀ (x3 : Int32) (σ : Mem) (H : Heap) (locs : List Loc), va_P D vwCl (wdX10 cI cZ cB ad w σ) H → va_D A (wdX10 cI cZ cB ad w σ) → va_S A s.heap H locs → ∀ (ls : Array Slot), lv_has ls 4 [(0, .ref (ad 0)), (1, .int a1), (2, .int a2), (3, .int x3)] → X10_cited_80 a1 a2 (X10_cited_60 a1 a2 n_60) x3 σ = some res → W p l e rmX10_cited s m args below meth c H locs 0 0 Q (F0 m 80 ls []) := by
        intro x3 σ H locs hP hD hS ls hl h
        rw [X10_cited_80] at h
        refine lv_aload_n hx hb dX10_cited_80 rfl (lv_at hl 0 rfl) ?_
        refine lv_aload_n hx hb dX10_cited_81 rfl (lv_at hl 0 rfl) ?_
        refine lv_aload_n hx hb dX10_cited_82 rfl (lv_at hl 0 rfl) ?_
        refine lv_iload_n hx hb dX10_cited_83 rfl (lv_at hl 1 rfl) ?_
        refine lv_iload_n hx hb dX10_cited_84 rfl (lv_at hl 3 rfl) ?_
        obtain ⟨r1, hr1, h⟩ := bd_e h
        refine cl_RV (rest := [.ref (ad 0), .ref (ad 0)]) (ci := 8) (q0 := 0) ⟨hx, hb, hml, hown, hts⟩ (mX10_over l D cI cZ cB ad w σ a1 x3 r1 hr1) (cwV 2 hts gX10_cited_X10_over rfl rfl rfl (by decide +kernel) ⟨Nat.le_of_ble_eq_true rfl, Nat.le_of_ble_eq_true rfl⟩) hK hP rfl rfl rfl rfl hl.1 rfl (Nat.le_of_ble_eq_true rfl) dX10_cited_85 ⟨Nat.zero_le _, Nat.zero_le _⟩ ?_
        refine W.eq (g2 := F0 m 88 ls [.int r1, .ref (ad 0), .ref (ad 0)]) rfl ?_
        refine lv_iload_n hx hb dX10_cited_88 rfl (lv_at hl 2 rfl) ?_
        obtain ⟨r2, hr2, h⟩ := bd_e h
        refine cl_RV (rest := [.ref (ad 0)]) (ci := 8) (q0 := 0) ⟨hx, hb, hml, hown, hts⟩ (mX10_labelOf l D cI cZ cB ad w σ r1 a2 r2 hr2) (cwV 2 hts gX10_cited_X10_labelOf rfl rfl rfl (by decide +kernel) ⟨Nat.le_of_ble_eq_true rfl, Nat.le_of_ble_eq_true rfl⟩) hK hP rfl rfl rfl rfl hl.1 rfl (Nat.le_of_ble_eq_true rfl) dX10_cited_89 ⟨Nat.zero_le _, Nat.zero_le _⟩ ?_
        refine W.eq (g2 := F0 m 92 ls [.int r2, .ref (ad 0)]) rfl ?_
        refine lv_aload_n hx hb dX10_cited_92 rfl (lv_at hl 0 rfl) ?_
        refine va_get (ci := 8) (v := .ref (ad 2)) (C := RX10) (T := TX10) (N := 42) hx hb hts hinX10 hown hK hP 0 rfl rfl 5 (by decide) fl1 (fun _ h9 => h9) rfl dX10_cited_93 ?_
        refine lv_iload_n hx hb dX10_cited_96 rfl (lv_at hl 3 rfl) ?_
        obtain ⟨hin3, h⟩ := gd_e h
        refine va_iald hx hb hK hP 2 0 rfl rfl hin3 dX10_cited_97 ?_
        obtain ⟨r4, hr4, h⟩ := bd_e h
        obtain ⟨σ5, eσ5, h⟩ := lt_e h
        refine cl_WVs (rest := []) (wn := (wdX10 cI cZ cB ad w σ5)) (ci := 8) (q0 := 0) ⟨hx, hb, hml, hown, hts⟩ (mX10_write l D cI cZ cB ad w σ H.size r2 (σ 2 (Int32.toNatClampNeg x3)) r4 hr4) (cwV 2 hts gX10_cited_X10_write rfl rfl rfl (by decide +kernel) ⟨Nat.le_of_ble_eq_true rfl, Nat.le_of_ble_eq_true rfl⟩) hK hP hD hS hA (by rw [eσ5]) rfl rfl rfl rfl rfl hl.1 rfl (Nat.le_of_ble_eq_true rfl) dX10_cited_98 ⟨Nat.zero_le _, Nat.zero_le _⟩ (fun H locs hP hD hS => ?_)
        refine W.eq (g2 := F0 m 101 ls []) rfl ?_
        obtain ⟨x3_6, ex3_6, h⟩ := lt_e h
        refine lv_iinc (v := x3_6) (lv' := [(3, .int x3_6), (0, .ref (ad 0)), (1, .int a1), (2, .int a2)]) hx hb dX10_cited_101 hl (k := 3) rfl (by rw [ex3_6]; rfl) (by decide) rfl (fun ls hl => ?_)
        refine lv_goto (tgt := 60) hx hb dX10_cited_104 (by decide) ?_
        exact ih60 x3_6 σ5 _ _ hP hD hS _ (lv_sub hl [1, 2, 3, 0] rfl) h
      intro x3 σ H locs hP hD hS ls hl h
      rw [X10_cited_60] at h
      refine lv_iload_n hx hb dX10_cited_60 rfl (lv_at hl 3 rfl) ?_
      refine lv_aload_n hx hb dX10_cited_61 rfl (lv_at hl 0 rfl) ?_
      refine va_get (ci := 8) (v := .ref (ad 6)) (C := RX10) (T := TX10) (N := 42) hx hb hts hinX10 hown hK hP 0 rfl rfl 16 (by decide) fl2 (fun _ h9 => h9) rfl dX10_cited_62 ?_
      refine lv_iload_n hx hb dX10_cited_65 rfl (lv_at hl 1 rfl) ?_
      obtain ⟨hin7, h⟩ := gd_e h
      refine va_iald hx hb hK hP 6 0 rfl rfl hin7 dX10_cited_66 ?_
      refine lv_icmp_gt (tgt := 107) hx hb dX10_cited_67 (by decide) (fun c8 => ?_) (fun c8 => ?_)
      · have h := ite_t c8 h
        refine lv_aload_n hx hb dX10_cited_107 rfl (lv_at hl 0 rfl) ?_
        refine va_get (ci := 8) (v := .int (σ 0 32)) (C := RX10) (T := TX10) (N := 42) hx hb hts hinX10 hown hK hP 0 rfl rfl 32 (by decide) fl3 (fun _ h9 => h9) rfl dX10_cited_108 ?_
        exact hR (some (.int (σ 0 32))) (wdX10 cI cZ cB ad w σ) _ _ _ _ (by rw [← Option.some.inj h]) (by rw [← Option.some.inj h]) rfl dX10_cited_111 hP hS
      · have h := ite_f c8 h
        refine lv_iload_n hx hb dX10_cited_70 rfl (lv_at hl 3 rfl) ?_
        refine lv_if_le (tgt := 80) hx hb dX10_cited_71 (by decide) (fun c9 => ?_) (fun c9 => ?_)
        · have h := ite_t c9 h
          exact n80 x3 σ _ _ hP hD hS _ (lv_sub hl [0, 1, 2, 3] rfl) h
        · have h := ite_f c9 h
          refine lv_aload_n hx hb dX10_cited_74 rfl (lv_at hl 0 rfl) ?_
          refine lv_bipush (v := 46) hx hb dX10_cited_75 (by decide) ?_
          obtain ⟨r10, hr10, h⟩ := bd_e h
          obtain ⟨σ11, eσ11, h⟩ := lt_e h
          refine cl_WVs (rest := []) (wn := (wdX10 cI cZ cB ad w σ11)) (ci := 8) (q0 := 0) ⟨hx, hb, hml, hown, hts⟩ (mX10_put l D cI cZ cB ad w σ H.size 46 r10 hr10) (cwV 1 hts gX10_cited_X10_put rfl rfl rfl (by decide +kernel) ⟨Nat.le_of_ble_eq_true rfl, Nat.le_of_ble_eq_true rfl⟩) hK hP hD hS hA (by rw [eσ11]) rfl rfl rfl rfl rfl hl.1 rfl (Nat.le_of_ble_eq_true rfl) dX10_cited_77 ⟨Nat.zero_le _, Nat.zero_le _⟩ (fun H locs hP hD hS => ?_)
          refine W.eq (g2 := F0 m 80 ls []) rfl ?_
          exact n80 x3 σ11 _ _ hP hD hS _ (lv_sub hl [0, 1, 2, 3] rfl) h
  have n21 : ∀ (n : Nat) (x3 : Int32) (σ : Mem) (H : Heap) (locs : List Loc), va_P D vwCl (wdX10 cI cZ cB ad w σ) H → va_D A (wdX10 cI cZ cB ad w σ) → va_S A s.heap H locs → ∀ (ls : Array Slot), lv_has ls 4 [(0, .ref (ad 0)), (1, .int a1), (2, .int a2), (3, .int x3)] → X10_cited_21 a1 a2 n x3 σ = some res → W p l e rmX10_cited s m args below meth c H locs 0 0 Q (F0 m 21 ls []) := by
    intro n
    induction n with
    | zero =>
      intro x3 σ H locs hP hD hS ls hl h
      rw [X10_cited_21] at h
      cases h
    | succ n_21 ih21 =>
      intro x3 σ H locs hP hD hS ls hl h
      rw [X10_cited_21] at h
      refine lv_iload_n hx hb dX10_cited_21 rfl (lv_at hl 3 rfl) ?_
      refine lv_aload_n hx hb dX10_cited_22 rfl (lv_at hl 0 rfl) ?_
      refine va_get (ci := 8) (v := .ref (ad 6)) (C := RX10) (T := TX10) (N := 42) hx hb hts hinX10 hown hK hP 0 rfl rfl 16 (by decide) fl2 (fun _ h9 => h9) rfl dX10_cited_23 ?_
      refine lv_iload_n hx hb dX10_cited_26 rfl (lv_at hl 1 rfl) ?_
      obtain ⟨hin12, h⟩ := gd_e h
      refine va_iald hx hb hK hP 6 0 rfl rfl hin12 dX10_cited_27 ?_
      refine lv_icmp_gt (tgt := 53) hx hb dX10_cited_28 (by decide) (fun c13 => ?_) (fun c13 => ?_)
      · have h := ite_t c13 h
        refine lv_aload_n hx hb dX10_cited_53 rfl (lv_at hl 0 rfl) ?_
        refine lv_iconst (v := 0) hx hb dX10_cited_54 (by decide) ?_
        obtain ⟨σ14, eσ14, h⟩ := lt_e h
        refine va_put (ci := 8) (v := .int 0) (ty := .int) (C := RX10) (T := TX10) (N := 42) hx hb hts hinX10 tyX10 tyX10_ok nmX10 hown hK hP hD hS 0 rfl rfl 32 (by decide) fl3 (fun _ h9 => h9) rfl (by decide +kernel) rfl rfl (Nat.le_of_ble_eq_true rfl) dX10_cited_55 (fun H locs hP1 hD1 hS => ?_)
        have hP : va_P D vwCl (wdX10 cI cZ cB ad w σ14) H := by rw [eσ14]; exact hP1
        have hD : va_D A (wdX10 cI cZ cB ad w σ14) := D_of (by rfl) hD
        refine lv_iconst (v := 0) hx hb dX10_cited_58 (by decide) ?_
        refine lv_istore_n (lv' := [(3, .int 0), (0, .ref (ad 0)), (1, .int a1), (2, .int a2)]) hx hb dX10_cited_59 rfl hl (by decide) rfl (fun ls hl => ?_)
        exact n60 FU 0 σ14 _ _ hP hD hS _ (lv_sub hl [1, 2, 3, 0] rfl) h
      · have h := ite_f c13 h
        refine lv_aload_n hx hb dX10_cited_31 rfl (lv_at hl 0 rfl) ?_
        refine lv_aload_n hx hb dX10_cited_32 rfl (lv_at hl 0 rfl) ?_
        refine lv_iload_n hx hb dX10_cited_33 rfl (lv_at hl 1 rfl) ?_
        refine lv_iload_n hx hb dX10_cited_34 rfl (lv_at hl 3 rfl) ?_
        obtain ⟨r15, hr15, h⟩ := bd_e h
        refine cl_RV (rest := [.ref (ad 0)]) (ci := 8) (q0 := 0) ⟨hx, hb, hml, hown, hts⟩ (mX10_over l D cI cZ cB ad w σ a1 x3 r15 hr15) (cwV 2 hts gX10_cited_X10_over rfl rfl rfl (by decide +kernel) ⟨Nat.le_of_ble_eq_true rfl, Nat.le_of_ble_eq_true rfl⟩) hK hP rfl rfl rfl rfl hl.1 rfl (Nat.le_of_ble_eq_true rfl) dX10_cited_35 ⟨Nat.zero_le _, Nat.zero_le _⟩ ?_
        refine W.eq (g2 := F0 m 38 ls [.int r15, .ref (ad 0)]) rfl ?_
        refine lv_iload_n hx hb dX10_cited_38 rfl (lv_at hl 2 rfl) ?_
        obtain ⟨r16, hr16, h⟩ := bd_e h
        refine cl_RV (rest := []) (ci := 8) (q0 := 0) ⟨hx, hb, hml, hown, hts⟩ (mX10_labelOf l D cI cZ cB ad w σ r15 a2 r16 hr16) (cwV 2 hts gX10_cited_X10_labelOf rfl rfl rfl (by decide +kernel) ⟨Nat.le_of_ble_eq_true rfl, Nat.le_of_ble_eq_true rfl⟩) hK hP rfl rfl rfl rfl hl.1 rfl (Nat.le_of_ble_eq_true rfl) dX10_cited_39 ⟨Nat.zero_le _, Nat.zero_le _⟩ ?_
        refine W.eq (g2 := F0 m 42 ls [.int r16]) rfl ?_
        refine lv_if_ne (tgt := 47) hx hb dX10_cited_42 (by decide) (fun c17 => ?_) (fun c17 => ?_)
        · have h := ite_f c17 h
          obtain ⟨x3_18, ex3_18, h⟩ := lt_e h
          refine lv_iinc (v := x3_18) (lv' := [(3, .int x3_18), (0, .ref (ad 0)), (1, .int a1), (2, .int a2)]) hx hb dX10_cited_47 hl (k := 3) rfl (by rw [ex3_18]; rfl) (by decide) rfl (fun ls hl => ?_)
          refine lv_goto (tgt := 21) hx hb dX10_cited_50 (by decide) ?_
          exact ih21 x3_18 σ _ _ hP hD hS _ (lv_sub hl [1, 2, 3, 0] rfl) h
        · have h := ite_t c17 h
          refine lv_iconst (v := (-1)) hx hb dX10_cited_45 (by decide) ?_
          exact hR (some (.int (-1))) (wdX10 cI cZ cB ad w σ) _ _ _ _ (by rw [← Option.some.inj h]) (by rw [← Option.some.inj h]) rfl dX10_cited_46 hP hS
  rw [X10_cited] at h
  have hS := hS
  refine lv_aload_n hx hb dX10_cited_0 rfl (lv_at hl 0 rfl) ?_
  refine lv_iconst (v := 0) hx hb dX10_cited_1 (by decide) ?_
  obtain ⟨σ19, eσ19, h⟩ := lt_e h
  refine va_put (ci := 8) (v := .int 0) (ty := .int) (C := RX10) (T := TX10) (N := 42) hx hb hts hinX10 tyX10 tyX10_ok nmX10 hown hK hP hD hS 0 rfl rfl 0 (by decide) fl4 (fun _ h9 => h9) rfl (by decide +kernel) rfl rfl (Nat.le_of_ble_eq_true rfl) dX10_cited_2 (fun H locs hP1 hD1 hS => ?_)
  have hP : va_P D vwCl (wdX10 cI cZ cB ad w σ19) H := by rw [eσ19]; exact hP1
  have hD : va_D A (wdX10 cI cZ cB ad w σ19) := D_of (by rfl) hD
  refine lv_aload_n hx hb dX10_cited_5 rfl (lv_at hl 0 rfl) ?_
  refine lv_iload_n hx hb dX10_cited_6 rfl (lv_at hl 1 rfl) ?_
  obtain ⟨r20, hr20, h⟩ := bd_e h
  refine cl_RV (rest := []) (ci := 8) (q0 := 0) ⟨hx, hb, hml, hown, hts⟩ (mX10_isItem l D cI cZ cB ad w σ19 a1 r20 hr20) (cwV 1 hts gX10_cited_X10_isItem rfl rfl rfl (by decide +kernel) ⟨Nat.le_of_ble_eq_true rfl, Nat.le_of_ble_eq_true rfl⟩) hK hP rfl rfl rfl rfl hl.1 rfl (Nat.le_of_ble_eq_true rfl) dX10_cited_7 ⟨Nat.zero_le _, Nat.zero_le _⟩ ?_
  refine W.eq (g2 := F0 m 10 ls [.int r20]) rfl ?_
  refine lv_if_eq (tgt := 17) hx hb dX10_cited_10 (by decide) (fun c21 => ?_) (fun c21 => ?_)
  · have h := ite_t c21 h
    refine lv_iconst (v := (-1)) hx hb dX10_cited_17 (by decide) ?_
    exact hR (some (.int (-1))) (wdX10 cI cZ cB ad w σ19) _ _ _ _ (by rw [← Option.some.inj h]) (by rw [← Option.some.inj h]) rfl dX10_cited_18 hP hS
  · have h := ite_f c21 h
    refine lv_iload_n hx hb dX10_cited_13 rfl (lv_at hl 2 rfl) ?_
    refine lv_if_ge (tgt := 19) hx hb dX10_cited_14 (by decide) (fun c22 => ?_) (fun c22 => ?_)
    · have h := ite_t c22 h
      refine lv_iconst (v := 0) hx hb dX10_cited_19 (by decide) ?_
      refine lv_istore_n (lv' := [(3, .int 0), (0, .ref (ad 0)), (1, .int a1), (2, .int a2)]) hx hb dX10_cited_20 rfl hl (by decide) rfl (fun ls hl => ?_)
      exact n21 FU 0 σ19 _ _ hP hD hS _ (lv_sub hl [1, 2, 3, 0] rfl) h
    · have h := ite_f c22 h
      refine lv_iconst (v := (-1)) hx hb dX10_cited_17 (by decide) ?_
      exact hR (some (.int (-1))) (wdX10 cI cZ cB ad w σ19) _ _ _ _ (by rw [← Option.some.inj h]) (by rw [← Option.some.inj h]) rfl dX10_cited_18 hP hS
set_option maxHeartbeats 4000000 in
set_option maxRecDepth 100000 in
theorem mX10_cited (l : Launch) (D : va_G) (cI cZ cB : ClassId) (ad : Nat → Nat) (w : Int64) (σ : Mem) (sz : Nat) (a1 : Int32) (a2 : Int32) (res : Int32 × Mem) (h : X10_cited a1 a2 σ = some res) : Met l yX10_cited wsX10_cited rmX10_cited (pW D cI cZ cB (wdX10 cI cZ cB ad w σ) sz [.ref (ad 0), .int a1, .int a2]) (qW D (some (.int res.1)) (wdX10 cI cZ cB ad w res.2) (va_A (wdX10 cI cZ cB ad w σ) sz)) 0 0 (va_A (wdX10 cI cZ cB ad w σ) sz) := (bX10_cited l D cI cZ cB ad w σ a1 a2 res h).met (by decide +kernel) rfl (Nat.le_of_ble_eq_true rfl)
def rmX10_octet : Room := { frames := 1, cells := 0, slots := 0, locals := 21 }
set_option maxHeartbeats 4000000 in
set_option maxRecDepth 100000 in
theorem bX10_octet (l : Launch) (D : va_G) (cI cZ cB : ClassId) (ad : Nat → Nat) (w : Int64) (σ : Mem) (a1 : Int32) (res : Int32 × Mem) (h : X10_octet a1 σ = some res) : BW l yX10_octet wsX10_octet rmX10_octet cX10_octet 2 (some .int) D cI cZ cB (wdX10 cI cZ cB ad w σ) [.ref (ad 0), .int a1] (some (.int res.1)) (wdX10 cI cZ cB ad w res.2) := by
  intro p e s m args below meth c ls Q A hx hb hml hts hown hK hA hP hD hS hl0 hR
  have hinX10 : ∀ w ∈ u_ws RX10 TX10 42, w ∈ wsX10_octet := (fun _ h => List.mem_cons_of_mem _ (List.mem_append_right _ h))
  have fl1 := hts (.fieldLink RX10 71 "LawNumbererModel" "out" "[B") (by decide +kernel)
  have fl2 := hts (.fieldLink RX10 213 "LawNumbererModel" "outMany" "I") (by decide +kernel)
  have hl : lv_has ls 2 [(0, .ref (ad 0)), (1, .int a1)] := hl0
  have n18 : ∀ (y1 : Int32) (σ : Mem) (H : Heap) (locs : List Loc), va_P D vwCl (wdX10 cI cZ cB ad w σ) H → va_D A (wdX10 cI cZ cB ad w σ) → va_S A s.heap H locs → ∀ (ls : Array Slot), lv_has ls 2 [(0, .ref (ad 0)), (1, .int a1)] → X10_octet_18 a1 y1 σ = some res → W p l e rmX10_octet s m args below meth c H locs 0 0 Q (F0 m 18 ls [.int y1, .ref (ad 0)]) := by
    intro y1 σ H locs hP hD hS ls hl h
    rw [X10_octet_18] at h
    obtain ⟨r1, hr1, h⟩ := bd_e h
    obtain ⟨σ2, eσ2, h⟩ := lt_e h
    refine cl_WVs (rest := []) (wn := (wdX10 cI cZ cB ad w σ2)) (ci := 8) (q0 := 0) ⟨hx, hb, hml, hown, hts⟩ (mX10_throwsIf l D cI cZ cB ad w σ H.size y1 r1 hr1) (cwV 1 hts gX10_octet_X10_throwsIf rfl rfl rfl (by decide +kernel) ⟨Nat.le_of_ble_eq_true rfl, Nat.le_of_ble_eq_true rfl⟩) hK hP hD hS hA (by rw [eσ2]) rfl rfl rfl rfl rfl hl.1 rfl (Nat.le_of_ble_eq_true rfl) dX10_octet_18 ⟨Nat.zero_le _, Nat.zero_le _⟩ (fun H locs hP hD hS => ?_)
    refine W.eq (g2 := F0 m 21 ls [.int r1.1]) rfl ?_
    refine lv_if_eq (tgt := 28) hx hb dX10_octet_21 (by decide) (fun c3 => ?_) (fun c3 => ?_)
    · have h := ite_t c3 h
      refine lv_aload_n hx hb dX10_octet_28 rfl (lv_at hl 0 rfl) ?_
      refine va_get (ci := 8) (v := .ref (ad 18)) (C := RX10) (T := TX10) (N := 42) hx hb hts hinX10 hown hK hP 0 rfl rfl 31 (by decide) fl1 (fun _ h9 => h9) rfl dX10_octet_29 ?_
      refine lv_iload_n hx hb dX10_octet_32 rfl (lv_at hl 1 rfl) ?_
      obtain ⟨hin4, h⟩ := gd_e h
      refine va_bald hx hb hK hP 18 2 rfl rfl hin4 dX10_octet_33 ?_
      exact hR (some (.int (σ2 18 (Int32.toNatClampNeg a1)))) (wdX10 cI cZ cB ad w σ2) _ _ _ _ (by rw [← Option.some.inj h]) (by rw [← Option.some.inj h]) rfl dX10_octet_34 hP hS
    · have h := ite_f c3 h
      refine lv_iconst (v := 0) hx hb dX10_octet_24 (by decide) ?_
      refine lv_goto (tgt := 34) hx hb dX10_octet_25 (by decide) ?_
      exact hR (some (.int 0)) (wdX10 cI cZ cB ad w σ2) _ _ _ _ (by rw [← Option.some.inj h]) (by rw [← Option.some.inj h]) rfl dX10_octet_34 hP hS
  have n13 : ∀ (σ : Mem) (H : Heap) (locs : List Loc), va_P D vwCl (wdX10 cI cZ cB ad w σ) H → va_D A (wdX10 cI cZ cB ad w σ) → va_S A s.heap H locs → ∀ (ls : Array Slot), lv_has ls 2 [(0, .ref (ad 0)), (1, .int a1)] → X10_octet_13 a1 σ = some res → W p l e rmX10_octet s m args below meth c H locs 0 0 Q (F0 m 13 ls [.ref (ad 0)]) := by
    intro σ H locs hP hD hS ls hl h
    rw [X10_octet_13] at h
    refine lv_iconst (v := 1) hx hb dX10_octet_13 (by decide) ?_
    refine lv_goto (tgt := 18) hx hb dX10_octet_14 (by decide) ?_
    exact n18 1 σ _ _ hP hD hS _ (lv_sub hl [0, 1] rfl) h
  rw [X10_octet] at h
  have hS := hS
  refine lv_aload_n hx hb dX10_octet_0 rfl (lv_at hl 0 rfl) ?_
  refine lv_iload_n hx hb dX10_octet_1 rfl (lv_at hl 1 rfl) ?_
  refine lv_if_lt (tgt := 13) hx hb dX10_octet_2 (by decide) (fun c5 => ?_) (fun c5 => ?_)
  · have h := ite_t c5 h
    exact n13 σ _ _ hP hD hS _ (lv_sub hl [0, 1] rfl) h
  · have h := ite_f c5 h
    refine lv_iload_n hx hb dX10_octet_5 rfl (lv_at hl 1 rfl) ?_
    refine lv_aload_n hx hb dX10_octet_6 rfl (lv_at hl 0 rfl) ?_
    refine va_get (ci := 8) (v := .int (σ 0 32)) (C := RX10) (T := TX10) (N := 42) hx hb hts hinX10 hown hK hP 0 rfl rfl 32 (by decide) fl2 (fun _ h9 => h9) rfl dX10_octet_7 ?_
    refine lv_icmp_lt (tgt := 17) hx hb dX10_octet_10 (by decide) (fun c6 => ?_) (fun c6 => ?_)
    · have h := ite_t c6 h
      refine lv_iconst (v := 0) hx hb dX10_octet_17 (by decide) ?_
      exact n18 0 σ _ _ hP hD hS _ (lv_sub hl [0, 1] rfl) h
    · have h := ite_f c6 h
      exact n13 σ _ _ hP hD hS _ (lv_sub hl [0, 1] rfl) h
set_option maxHeartbeats 4000000 in
set_option maxRecDepth 100000 in
theorem mX10_octet (l : Launch) (D : va_G) (cI cZ cB : ClassId) (ad : Nat → Nat) (w : Int64) (σ : Mem) (sz : Nat) (a1 : Int32) (res : Int32 × Mem) (h : X10_octet a1 σ = some res) : Met l yX10_octet wsX10_octet rmX10_octet (pW D cI cZ cB (wdX10 cI cZ cB ad w σ) sz [.ref (ad 0), .int a1]) (qW D (some (.int res.1)) (wdX10 cI cZ cB ad w res.2) (va_A (wdX10 cI cZ cB ad w σ) sz)) 0 0 (va_A (wdX10 cI cZ cB ad w σ) sz) := (bX10_octet l D cI cZ cB ad w σ a1 res h).met (by decide +kernel) rfl (Nat.le_of_ble_eq_true rfl)
def rmX10_breaks : Room := { frames := 0, cells := 0, slots := 0, locals := 0 }
set_option maxHeartbeats 4000000 in
set_option maxRecDepth 100000 in
theorem bX10_breaks (l : Launch) (D : va_G) (cI cZ cB : ClassId) (ad : Nat → Nat) (w : Int64) (σ : Mem) (a1 : Int32) (a2 : Int32) (res : Int32 × Mem) (h : X10_breaks a1 a2 σ = some res) : BW l yX10_breaks wsX10_breaks rmX10_breaks cX10_breaks 3 (some .boolean) D cI cZ cB (wdX10 cI cZ cB ad w σ) [.ref (ad 0), .int a1, .int a2] (some (.int res.1)) (wdX10 cI cZ cB ad w res.2) := by
  intro p e s m args below meth c ls Q A hx hb hml hts hown hK hA hP hD hS hl0 hR
  have hinX10 : ∀ w ∈ u_ws RX10 TX10 42, w ∈ wsX10_breaks := (fun _ h => List.mem_cons_of_mem _ (List.mem_append_right _ h))
  have fl1 := hts (.fieldLink RX10 237 "LawNumbererModel" "kind" "I") (by decide +kernel)
  have fl2 := hts (.fieldLink RX10 240 "LawNumbererModel" "where" "I") (by decide +kernel)
  have hl : lv_has ls 3 [(0, .ref (ad 0)), (1, .int a1), (2, .int a2)] := hl0
  rw [X10_breaks] at h
  have hS := hS
  refine lv_aload_n hx hb dX10_breaks_0 rfl (lv_at hl 0 rfl) ?_
  refine lv_iload_n hx hb dX10_breaks_1 rfl (lv_at hl 1 rfl) ?_
  obtain ⟨σ1, eσ1, h⟩ := lt_e h
  refine va_put (ci := 8) (v := .int a1) (ty := .int) (C := RX10) (T := TX10) (N := 42) hx hb hts hinX10 tyX10 tyX10_ok nmX10 hown hK hP hD hS 0 rfl rfl 36 (by decide) fl1 (fun _ h9 => h9) rfl (by decide +kernel) rfl rfl (Nat.le_of_ble_eq_true rfl) dX10_breaks_2 (fun H locs hP1 hD1 hS => ?_)
  have hP : va_P D vwCl (wdX10 cI cZ cB ad w σ1) H := by rw [eσ1]; exact hP1
  have hD : va_D A (wdX10 cI cZ cB ad w σ1) := D_of (by rfl) hD
  refine lv_aload_n hx hb dX10_breaks_5 rfl (lv_at hl 0 rfl) ?_
  refine lv_iload_n hx hb dX10_breaks_6 rfl (lv_at hl 2 rfl) ?_
  obtain ⟨σ2, eσ2, h⟩ := lt_e h
  refine va_put (ci := 8) (v := .int a2) (ty := .int) (C := RX10) (T := TX10) (N := 42) hx hb hts hinX10 tyX10 tyX10_ok nmX10 hown hK hP hD hS 0 rfl rfl 37 (by decide) fl2 (fun _ h9 => h9) rfl (by decide +kernel) rfl rfl (Nat.le_of_ble_eq_true rfl) dX10_breaks_7 (fun H locs hP1 hD1 hS => ?_)
  have hP : va_P D vwCl (wdX10 cI cZ cB ad w σ2) H := by rw [eσ2]; exact hP1
  have hD : va_D A (wdX10 cI cZ cB ad w σ2) := D_of (by rfl) hD
  refine lv_iconst (v := 0) hx hb dX10_breaks_10 (by decide) ?_
  exact hR (some (.int 0)) (wdX10 cI cZ cB ad w σ2) _ _ _ _ (by rw [← Option.some.inj h]) (by rw [← Option.some.inj h]) nb0 dX10_breaks_11 hP hS
set_option maxHeartbeats 4000000 in
set_option maxRecDepth 100000 in
theorem mX10_breaks (l : Launch) (D : va_G) (cI cZ cB : ClassId) (ad : Nat → Nat) (w : Int64) (σ : Mem) (sz : Nat) (a1 : Int32) (a2 : Int32) (res : Int32 × Mem) (h : X10_breaks a1 a2 σ = some res) : Met l yX10_breaks wsX10_breaks rmX10_breaks (pW D cI cZ cB (wdX10 cI cZ cB ad w σ) sz [.ref (ad 0), .int a1, .int a2]) (qW D (some (.int res.1)) (wdX10 cI cZ cB ad w res.2) (va_A (wdX10 cI cZ cB ad w σ) sz)) 0 0 (va_A (wdX10 cI cZ cB ad w σ) sz) := (bX10_breaks l D cI cZ cB ad w σ a1 a2 res h).met (by decide +kernel) rfl (Nat.le_of_ble_eq_true rfl)
def rmX10_fitsForm : Room := { frames := 1, cells := 0, slots := 0, locals := 20 }
set_option maxHeartbeats 4000000 in
set_option maxRecDepth 100000 in
theorem bX10_fitsForm (l : Launch) (D : va_G) (cI cZ cB : ClassId) (a0 : Int32) (a1 : Int32) (res : Int32) (h : X10_fitsForm a0 a1 = some res) : BR l yX10_fitsForm wsX10_fitsForm rmX10_fitsForm cX10_fitsForm 4 (some .boolean) D cI cZ cB wd0 [.int a0, .int a1] (some (.int res)) := by
  intro p e s m args below meth c ls Q hx hb hml hts hown hK hP hl0 hR
  have hl : lv_has ls 4 [(0, .int a0), (1, .int a1)] := hl0
  have n49 : ∀ (n : Nat) (x2 : Int32) (x3 : Int32) (ls : Array Slot), lv_has ls 4 [(2, .int x2), (3, .int x3)] → X10_fitsForm_49 a0 a1 n x2 x3 = some res → W p l e rmX10_fitsForm s m args below meth c s.heap [] 0 0 Q (F0 m 49 ls []) := by
    intro n
    induction n with
    | zero =>
      intro x2 x3 ls hl h
      rw [X10_fitsForm_49] at h
      cases h
    | succ n_49 ih49 =>
      intro x2 x3 ls hl h
      rw [X10_fitsForm_49] at h
      refine lv_iload_n hx hb dX10_fitsForm_49 rfl (lv_at hl 1 rfl) ?_
      refine lv_bipush (v := 8) hx hb dX10_fitsForm_50 (by decide) ?_
      refine lv_icmp_ge (tgt := 71) hx hb dX10_fitsForm_52 (by decide) (fun c1 => ?_) (fun c1 => ?_)
      · have h := ite_t c1 h
        refine lv_iconst (v := 0) hx hb dX10_fitsForm_71 (by decide) ?_
        exact hR (some (.int 0)) _ _ (by rw [← Option.some.inj h]) nb0 dX10_fitsForm_72
      · have h := ite_f c1 h
        refine lv_iload_n hx hb dX10_fitsForm_55 rfl (lv_at hl 1 rfl) ?_
        obtain ⟨r2, hr2, h⟩ := bd_e h
        refine cl_RS (rest := []) ⟨hx, hb, hml, hown, hts⟩ (mX10_romanLetter l D cI cZ cB x3 r2 hr2) (va_cwS 1 hts gX10_fitsForm_X10_romanLetter rfl rfl rfl (by decide +kernel) ⟨Nat.le_of_ble_eq_true rfl, Nat.le_of_ble_eq_true rfl⟩) hK hP rfl hl.1 rfl (Nat.le_of_ble_eq_true rfl) dX10_fitsForm_56 ⟨Nat.zero_le _, Nat.zero_le _⟩ ?_
        refine W.eq (g2 := F0 m 59 ls [.int r2]) rfl ?_
        refine lv_iload_n hx hb dX10_fitsForm_59 rfl (lv_at hl 0 rfl) ?_
        refine lv_icmp_ne (tgt := 65) hx hb dX10_fitsForm_60 (by decide) (fun c3 => ?_) (fun c3 => ?_)
        · have h := ite_f c3 h
          obtain ⟨x3_4, ex3_4, h⟩ := lt_e h
          refine lv_iinc (v := x3_4) (lv' := [(3, .int x3_4), (2, .int x2)]) hx hb dX10_fitsForm_65 hl (k := 1) rfl (by rw [ex3_4]; rfl) (by decide) rfl (fun ls hl => ?_)
          refine lv_goto (tgt := 49) hx hb dX10_fitsForm_68 (by decide) ?_
          exact ih49 x2 x3_4 _ (lv_sub hl [1, 0] rfl) h
        · have h := ite_t c3 h
          refine lv_iconst (v := 1) hx hb dX10_fitsForm_63 (by decide) ?_
          exact hR (some (.int 1)) _ _ (by rw [← Option.some.inj h]) nb1 dX10_fitsForm_64
  have n32 : ∀ (y0 : Int32) (ls : Array Slot), lv_has ls 4 [(0, .int a0), (1, .int a1)] → X10_fitsForm_32 a0 a1 y0 = some res → W p l e rmX10_fitsForm s m args below meth c s.heap [] 0 0 Q (F0 m 32 ls [.int y0]) := by
    intro y0 ls hl h
    rw [X10_fitsForm_32] at h
    refine lv_istore_n (lv' := [(2, .int y0), (0, .int a0), (1, .int a1)]) hx hb dX10_fitsForm_32 rfl hl (by decide) rfl (fun ls hl => ?_)
    refine lv_iload_n hx hb dX10_fitsForm_33 rfl (lv_at hl 2 rfl) ?_
    refine lv_iconst (v := 3) hx hb dX10_fitsForm_34 (by decide) ?_
    refine lv_icmp_ne (tgt := 47) hx hb dX10_fitsForm_35 (by decide) (fun c5 => ?_) (fun c5 => ?_)
    · have h := ite_f c5 h
      refine lv_iconst (v := 1) hx hb dX10_fitsForm_47 (by decide) ?_
      refine lv_istore_n (lv' := [(3, .int 1), (2, .int y0), (0, .int a0), (1, .int a1)]) hx hb dX10_fitsForm_48 rfl hl (by decide) rfl (fun ls hl => ?_)
      exact n49 FU y0 1 _ (lv_sub hl [1, 0] rfl) h
    · have h := ite_t c5 h
      refine lv_iload_n hx hb dX10_fitsForm_38 rfl (lv_at hl 1 rfl) ?_
      obtain ⟨r6, hr6, h⟩ := bd_e h
      refine cl_RS (rest := []) ⟨hx, hb, hml, hown, hts⟩ (mX10_isSmall l D cI cZ cB a0 r6 hr6) (va_cwS 1 hts gX10_fitsForm_X10_isSmall rfl rfl rfl (by decide +kernel) ⟨Nat.le_of_ble_eq_true rfl, Nat.le_of_ble_eq_true rfl⟩) hK hP rfl hl.1 rfl (Nat.le_of_ble_eq_true rfl) dX10_fitsForm_39 ⟨Nat.zero_le _, Nat.zero_le _⟩ ?_
      refine W.eq (g2 := F0 m 42 ls [.int r6]) rfl ?_
      refine lv_if_ne (tgt := 47) hx hb dX10_fitsForm_42 (by decide) (fun c7 => ?_) (fun c7 => ?_)
      · have h := ite_f c7 h
        refine lv_iconst (v := 1) hx hb dX10_fitsForm_47 (by decide) ?_
        refine lv_istore_n (lv' := [(3, .int 1), (2, .int y0), (0, .int a0), (1, .int a1)]) hx hb dX10_fitsForm_48 rfl hl (by decide) rfl (fun ls hl => ?_)
        exact n49 FU y0 1 _ (lv_sub hl [1, 0] rfl) h
      · have h := ite_t c7 h
        refine lv_iconst (v := 0) hx hb dX10_fitsForm_45 (by decide) ?_
        exact hR (some (.int 0)) _ _ (by rw [← Option.some.inj h]) nb0 dX10_fitsForm_46
  rw [X10_fitsForm] at h
  refine lv_iload_n hx hb dX10_fitsForm_0 rfl (lv_at hl 1 rfl) ?_
  refine lv_if_ne (tgt := 9) hx hb dX10_fitsForm_1 (by decide) (fun c8 => ?_) (fun c8 => ?_)
  · have h := ite_f c8 h
    refine lv_iload_n hx hb dX10_fitsForm_9 rfl (lv_at hl 1 rfl) ?_
    refine lv_iconst (v := 2) hx hb dX10_fitsForm_10 (by decide) ?_
    refine lv_icmp_ne (tgt := 19) hx hb dX10_fitsForm_11 (by decide) (fun c9 => ?_) (fun c9 => ?_)
    · have h := ite_f c9 h
      refine lv_iload_n hx hb dX10_fitsForm_19 rfl (lv_at hl 1 rfl) ?_
      refine lv_iconst (v := 3) hx hb dX10_fitsForm_20 (by decide) ?_
      refine lv_icmp_ne (tgt := 31) hx hb dX10_fitsForm_21 (by decide) (fun c10 => ?_) (fun c10 => ?_)
      · have h := ite_f c10 h
        refine lv_iload_n hx hb dX10_fitsForm_31 rfl (lv_at hl 0 rfl) ?_
        exact n32 a0 _ (lv_sub hl [0, 1] rfl) h
      · have h := ite_t c10 h
        refine lv_iload_n hx hb dX10_fitsForm_24 rfl (lv_at hl 0 rfl) ?_
        refine lv_bipush (v := 32) hx hb dX10_fitsForm_25 (by decide) ?_
        refine lv_isub hx hb dX10_fitsForm_27 ?_
        refine lv_goto (tgt := 32) hx hb dX10_fitsForm_28 (by decide) ?_
        exact n32 (a0 - 32) _ (lv_sub hl [0, 1] rfl) h
    · have h := ite_t c9 h
      refine lv_iload_n hx hb dX10_fitsForm_14 rfl (lv_at hl 0 rfl) ?_
      obtain ⟨r11, hr11, h⟩ := bd_e h
      refine cl_RS (rest := []) ⟨hx, hb, hml, hown, hts⟩ (mX10_isSmall l D cI cZ cB a0 r11 hr11) (va_cwS 1 hts gX10_fitsForm_X10_isSmall rfl rfl rfl (by decide +kernel) ⟨Nat.le_of_ble_eq_true rfl, Nat.le_of_ble_eq_true rfl⟩) hK hP rfl hl.1 rfl (Nat.le_of_ble_eq_true rfl) dX10_fitsForm_15 ⟨Nat.zero_le _, Nat.zero_le _⟩ ?_
      refine W.eq (g2 := F0 m 18 ls [.int r11]) rfl ?_
      obtain ⟨hg12, h⟩ := gp_e h
      exact hR (some (.int r11)) _ _ (by rw [← Option.some.inj h]) (nb_of hg12) dX10_fitsForm_18
  · have h := ite_t c8 h
    refine lv_iload_n hx hb dX10_fitsForm_4 rfl (lv_at hl 0 rfl) ?_
    obtain ⟨r13, hr13, h⟩ := bd_e h
    refine cl_RS (rest := []) ⟨hx, hb, hml, hown, hts⟩ (mX10_isDigit l D cI cZ cB a0 r13 hr13) (va_cwS 1 hts gX10_fitsForm_X10_isDigit rfl rfl rfl (by decide +kernel) ⟨Nat.le_of_ble_eq_true rfl, Nat.le_of_ble_eq_true rfl⟩) hK hP rfl hl.1 rfl (Nat.le_of_ble_eq_true rfl) dX10_fitsForm_5 ⟨Nat.zero_le _, Nat.zero_le _⟩ ?_
    refine W.eq (g2 := F0 m 8 ls [.int r13]) rfl ?_
    obtain ⟨hg14, h⟩ := gp_e h
    exact hR (some (.int r13)) _ _ (by rw [← Option.some.inj h]) (nb_of hg14) dX10_fitsForm_8
set_option maxHeartbeats 4000000 in
set_option maxRecDepth 100000 in
theorem mX10_fitsForm (l : Launch) (D : va_G) (cI cZ cB : ClassId) (a0 : Int32) (a1 : Int32) (res : Int32) (h : X10_fitsForm a0 a1 = some res) : Met l yX10_fitsForm wsX10_fitsForm rmX10_fitsForm (pR D cI cZ cB wd0 [.int a0, .int a1]) (qR (some (.int res))) 0 0 (fun _ => False) := (bX10_fitsForm l D cI cZ cB a0 a1 res h).met (by decide +kernel) rfl (Nat.le_of_ble_eq_true rfl)
def rmX10_romanWorth : Room := { frames := 0, cells := 0, slots := 0, locals := 0 }
set_option maxHeartbeats 4000000 in
set_option maxRecDepth 100000 in
theorem bX10_romanWorth (l : Launch) (D : va_G) (cI cZ cB : ClassId) (a0 : Int32) (res : Int32) (h : X10_romanWorth a0 = some res) : BR l yX10_romanWorth wsX10_romanWorth rmX10_romanWorth cX10_romanWorth 1 (some .int) D cI cZ cB wd0 [.int a0] (some (.int res)) := by
  intro p e s m args below meth c ls Q hx hb hml hts hown hK hP hl0 hR
  have hl : lv_has ls 1 [(0, .int a0)] := hl0
  rw [X10_romanWorth] at h
  refine lv_iload_n hx hb dX10_romanWorth_0 rfl (lv_at hl 0 rfl) ?_
  refine lv_bipush (v := 73) hx hb dX10_romanWorth_1 (by decide) ?_
  refine lv_icmp_ne (tgt := 10) hx hb dX10_romanWorth_3 (by decide) (fun c1 => ?_) (fun c1 => ?_)
  · have h := ite_f c1 h
    refine lv_iload_n hx hb dX10_romanWorth_10 rfl (lv_at hl 0 rfl) ?_
    refine lv_bipush (v := 86) hx hb dX10_romanWorth_11 (by decide) ?_
    refine lv_icmp_ne (tgt := 20) hx hb dX10_romanWorth_13 (by decide) (fun c2 => ?_) (fun c2 => ?_)
    · have h := ite_f c2 h
      refine lv_iload_n hx hb dX10_romanWorth_20 rfl (lv_at hl 0 rfl) ?_
      refine lv_bipush (v := 88) hx hb dX10_romanWorth_21 (by decide) ?_
      refine lv_icmp_ne (tgt := 31) hx hb dX10_romanWorth_23 (by decide) (fun c3 => ?_) (fun c3 => ?_)
      · have h := ite_f c3 h
        refine lv_iload_n hx hb dX10_romanWorth_31 rfl (lv_at hl 0 rfl) ?_
        refine lv_bipush (v := 76) hx hb dX10_romanWorth_32 (by decide) ?_
        refine lv_icmp_ne (tgt := 42) hx hb dX10_romanWorth_34 (by decide) (fun c4 => ?_) (fun c4 => ?_)
        · have h := ite_f c4 h
          refine lv_iload_n hx hb dX10_romanWorth_42 rfl (lv_at hl 0 rfl) ?_
          refine lv_bipush (v := 67) hx hb dX10_romanWorth_43 (by decide) ?_
          refine lv_icmp_ne (tgt := 53) hx hb dX10_romanWorth_45 (by decide) (fun c5 => ?_) (fun c5 => ?_)
          · have h := ite_f c5 h
            refine lv_iload_n hx hb dX10_romanWorth_53 rfl (lv_at hl 0 rfl) ?_
            refine lv_bipush (v := 68) hx hb dX10_romanWorth_54 (by decide) ?_
            refine lv_icmp_ne (tgt := 65) hx hb dX10_romanWorth_56 (by decide) (fun c6 => ?_) (fun c6 => ?_)
            · have h := ite_f c6 h
              refine lv_sipush (v := 1000) hx hb dX10_romanWorth_65 (by decide) ?_
              exact hR (some (.int 1000)) _ _ (by rw [← Option.some.inj h]) rfl dX10_romanWorth_68
            · have h := ite_t c6 h
              refine lv_sipush (v := 500) hx hb dX10_romanWorth_59 (by decide) ?_
              refine lv_goto (tgt := 68) hx hb dX10_romanWorth_62 (by decide) ?_
              exact hR (some (.int 500)) _ _ (by rw [← Option.some.inj h]) rfl dX10_romanWorth_68
          · have h := ite_t c5 h
            refine lv_bipush (v := 100) hx hb dX10_romanWorth_48 (by decide) ?_
            refine lv_goto (tgt := 68) hx hb dX10_romanWorth_50 (by decide) ?_
            exact hR (some (.int 100)) _ _ (by rw [← Option.some.inj h]) rfl dX10_romanWorth_68
        · have h := ite_t c4 h
          refine lv_bipush (v := 50) hx hb dX10_romanWorth_37 (by decide) ?_
          refine lv_goto (tgt := 68) hx hb dX10_romanWorth_39 (by decide) ?_
          exact hR (some (.int 50)) _ _ (by rw [← Option.some.inj h]) rfl dX10_romanWorth_68
      · have h := ite_t c3 h
        refine lv_bipush (v := 10) hx hb dX10_romanWorth_26 (by decide) ?_
        refine lv_goto (tgt := 68) hx hb dX10_romanWorth_28 (by decide) ?_
        exact hR (some (.int 10)) _ _ (by rw [← Option.some.inj h]) rfl dX10_romanWorth_68
    · have h := ite_t c2 h
      refine lv_iconst (v := 5) hx hb dX10_romanWorth_16 (by decide) ?_
      refine lv_goto (tgt := 68) hx hb dX10_romanWorth_17 (by decide) ?_
      exact hR (some (.int 5)) _ _ (by rw [← Option.some.inj h]) rfl dX10_romanWorth_68
  · have h := ite_t c1 h
    refine lv_iconst (v := 1) hx hb dX10_romanWorth_6 (by decide) ?_
    refine lv_goto (tgt := 68) hx hb dX10_romanWorth_7 (by decide) ?_
    exact hR (some (.int 1)) _ _ (by rw [← Option.some.inj h]) rfl dX10_romanWorth_68
set_option maxHeartbeats 4000000 in
set_option maxRecDepth 100000 in
theorem mX10_romanWorth (l : Launch) (D : va_G) (cI cZ cB : ClassId) (a0 : Int32) (res : Int32) (h : X10_romanWorth a0 = some res) : Met l yX10_romanWorth wsX10_romanWorth rmX10_romanWorth (pR D cI cZ cB wd0 [.int a0]) (qR (some (.int res))) 0 0 (fun _ => False) := (bX10_romanWorth l D cI cZ cB a0 res h).met (by decide +kernel) rfl (Nat.le_of_ble_eq_true rfl)
def rmX10_isWritten : Room := { frames := 3, cells := 0, slots := 0, locals := 70 }
set_option maxHeartbeats 4000000 in
set_option maxRecDepth 100000 in
theorem bX10_isWritten (l : Launch) (D : va_G) (cI cZ cB : ClassId) (ad : Nat → Nat) (w : Int64) (σ : Mem) (a1 : Int32) (a2 : Int32) (res : Int32 × Mem) (h : X10_isWritten a1 a2 σ = some res) : BW l yX10_isWritten wsX10_isWritten rmX10_isWritten cX10_isWritten 6 (some .boolean) D cI cZ cB (wdX10 cI cZ cB ad w σ) [.ref (ad 0), .int a1, .int a2] (some (.int res.1)) (wdX10 cI cZ cB ad w res.2) := by
  intro p e s m args below meth c ls Q A hx hb hml hts hown hK hA hP hD hS hl0 hR
  have hinX10 : ∀ w ∈ u_ws RX10 TX10 42, w ∈ wsX10_isWritten := (fun _ h => List.mem_cons_of_mem _ (List.mem_append_right _ h))
  have fl1 := hts (.fieldLink RX10 213 "LawNumbererModel" "outMany" "I") (by decide +kernel)
  have fl2 := hts (.fieldLink RX10 71 "LawNumbererModel" "out" "[B") (by decide +kernel)
  have fl3 := hts (.fieldLink RX10 80 "LawNumbererModel" "again" "[B") (by decide +kernel)
  have fl4 := hts (.fieldLink RX10 7 "LawNumbererModel" "tape" "[B") (by decide +kernel)
  have fl5 := hts (.fieldLink RX10 256 "LawNumbererModel" "read" "I") (by decide +kernel)
  have fl6 := hts (.fieldLink RX10 99 "LawNumbererModel" "p" "I") (by decide +kernel)
  have hl : lv_has ls 6 [(0, .ref (ad 0)), (1, .int a1), (2, .int a2)] := hl0
  have n120 : ∀ (n : Nat) (x3 : Int32) (x4 : Int32) (x5 : Int32) (σ : Mem) (H : Heap) (locs : List Loc), va_P D vwCl (wdX10 cI cZ cB ad w σ) H → va_D A (wdX10 cI cZ cB ad w σ) → va_S A s.heap H locs → ∀ (ls : Array Slot), lv_has ls 6 [(0, .ref (ad 0)), (3, .int x3), (4, .int x4), (5, .int x5)] → X10_isWritten_120 a1 a2 n x3 x4 x5 σ = some res → W p l e rmX10_isWritten s m args below meth c H locs 0 0 Q (F0 m 120 ls []) := by
    intro n
    induction n with
    | zero =>
      intro x3 x4 x5 σ H locs hP hD hS ls hl h
      rw [X10_isWritten_120] at h
      cases h
    | succ n_120 ih120 =>
      intro x3 x4 x5 σ H locs hP hD hS ls hl h
      rw [X10_isWritten_120] at h
      refine lv_iload hx hb dX10_isWritten_120 (lv_at hl 3 rfl) ?_
      refine lv_iload_n hx hb dX10_isWritten_122 rfl (lv_at hl 1 rfl) ?_
      refine lv_icmp_ge (tgt := 146) hx hb dX10_isWritten_123 (by decide) (fun c1 => ?_) (fun c1 => ?_)
      · have h := ite_t c1 h
        refine lv_aload_n hx hb dX10_isWritten_146 rfl (lv_at hl 0 rfl) ?_
        refine lv_iload_n hx hb dX10_isWritten_147 rfl (lv_at hl 1 rfl) ?_
        obtain ⟨σ2, eσ2, h⟩ := lt_e h
        refine va_put (ci := 8) (v := .int x3) (ty := .int) (C := RX10) (T := TX10) (N := 42) hx hb hts hinX10 tyX10 tyX10_ok nmX10 hown hK hP hD hS 0 rfl rfl 32 (by decide) fl1 (fun _ h9 => h9) rfl (by decide +kernel) rfl rfl (Nat.le_of_ble_eq_true rfl) dX10_isWritten_148 (fun H locs hP1 hD1 hS => ?_)
        have hP : va_P D vwCl (wdX10 cI cZ cB ad w σ2) H := by rw [eσ2]; exact hP1
        have hD : va_D A (wdX10 cI cZ cB ad w σ2) := D_of (by rfl) hD
        refine lv_iload hx hb dX10_isWritten_151 (lv_at hl 2 rfl) ?_
        obtain ⟨hg3, h⟩ := gp_e h
        exact hR (some (.int x4)) (wdX10 cI cZ cB ad w σ2) _ _ _ _ (by rw [← Option.some.inj h]) (by rw [← Option.some.inj h]) (nb_of hg3) dX10_isWritten_153 hP hS
      · have h := ite_f c1 h
        refine lv_aload_n hx hb dX10_isWritten_126 rfl (lv_at hl 0 rfl) ?_
        refine va_get (ci := 8) (v := .ref (ad 18)) (C := RX10) (T := TX10) (N := 42) hx hb hts hinX10 hown hK hP 0 rfl rfl 31 (by decide) fl2 (fun _ h9 => h9) rfl dX10_isWritten_127 ?_
        refine lv_iload hx hb dX10_isWritten_130 (lv_at hl 3 rfl) ?_
        refine lv_aload_n hx hb dX10_isWritten_132 rfl (lv_at hl 0 rfl) ?_
        refine va_get (ci := 8) (v := .ref (ad 21)) (C := RX10) (T := TX10) (N := 42) hx hb hts hinX10 hown hK hP 0 rfl rfl 38 (by decide) fl3 (fun _ h9 => h9) rfl dX10_isWritten_133 ?_
        refine lv_iload hx hb dX10_isWritten_136 (lv_at hl 3 rfl) ?_
        obtain ⟨hin4, h⟩ := gd_e h
        refine va_bald hx hb hK hP 21 2 rfl rfl hin4 dX10_isWritten_138 ?_
        obtain ⟨hin5, h⟩ := gd_e h
        obtain ⟨σ6, eσ6, h⟩ := lt_e h
        refine va_bast hx hb hK hP hD hS 18 2 rfl rfl hin5 dX10_isWritten_139 (fun H locs hP1 hD1 hS => ?_)
        have hP : va_P D vwCl (wdX10 cI cZ cB ad w σ6) H := by rw [eσ6]; exact hP1
        have hD : va_D A (wdX10 cI cZ cB ad w σ6) := D_of (by rfl) hD
        obtain ⟨x5_7, ex5_7, h⟩ := lt_e h
        refine lv_iinc (v := x5_7) (lv' := [(5, .int x5_7), (0, .ref (ad 0)), (3, .int x3), (4, .int x4)]) hx hb dX10_isWritten_140 hl (k := 3) rfl (by rw [ex5_7]; rfl) (by decide) rfl (fun ls hl => ?_)
        refine lv_goto (tgt := 120) hx hb dX10_isWritten_143 (by decide) ?_
        exact ih120 x3 x4 x5_7 σ6 _ _ hP hD hS _ (lv_sub hl [1, 2, 3, 0] rfl) h
  have n71 : ∀ (n : Nat) (x3 : Int32) (x4 : Int32) (x5 : Int32) (σ : Mem) (H : Heap) (locs : List Loc), va_P D vwCl (wdX10 cI cZ cB ad w σ) H → va_D A (wdX10 cI cZ cB ad w σ) → va_S A s.heap H locs → ∀ (ls : Array Slot), lv_has ls 6 [(0, .ref (ad 0)), (1, .int a1), (3, .int x3), (4, .int x4), (5, .int x5)] → X10_isWritten_71 a1 a2 n x3 x4 x5 σ = some res → W p l e rmX10_isWritten s m args below meth c H locs 0 0 Q (F0 m 71 ls []) := by
    intro n
    induction n with
    | zero =>
      intro x3 x4 x5 σ H locs hP hD hS ls hl h
      rw [X10_isWritten_71] at h
      cases h
    | succ n_71 ih71 =>
      intro x3 x4 x5 σ H locs hP hD hS ls hl h
      rw [X10_isWritten_71] at h
      refine lv_iload hx hb dX10_isWritten_71 (lv_at hl 4 rfl) ?_
      refine lv_aload_n hx hb dX10_isWritten_73 rfl (lv_at hl 0 rfl) ?_
      refine va_get (ci := 8) (v := .int (σ 0 32)) (C := RX10) (T := TX10) (N := 42) hx hb hts hinX10 hown hK hP 0 rfl rfl 32 (by decide) fl1 (fun _ h9 => h9) rfl dX10_isWritten_74 ?_
      refine lv_icmp_ge (tgt := 117) hx hb dX10_isWritten_77 (by decide) (fun c8 => ?_) (fun c8 => ?_)
      · have h := ite_t c8 h
        refine lv_iconst (v := 0) hx hb dX10_isWritten_117 (by decide) ?_
        refine lv_istore (lv' := [(5, .int 0), (0, .ref (ad 0)), (1, .int a1), (3, .int x3), (4, .int x4)]) hx hb dX10_isWritten_118 hl (by decide) rfl (fun ls hl => ?_)
        exact n120 FU x3 x4 0 σ _ _ hP hD hS _ (lv_sub hl [1, 3, 4, 0] rfl) h
      · have h := ite_f c8 h
        refine lv_iload hx hb dX10_isWritten_80 (lv_at hl 3 rfl) ?_
        refine lv_if_eq (tgt := 117) hx hb dX10_isWritten_82 (by decide) (fun c9 => ?_) (fun c9 => ?_)
        · have h := ite_t c9 h
          refine lv_iconst (v := 0) hx hb dX10_isWritten_117 (by decide) ?_
          refine lv_istore (lv' := [(5, .int 0), (0, .ref (ad 0)), (1, .int a1), (3, .int x3), (4, .int x4)]) hx hb dX10_isWritten_118 hl (by decide) rfl (fun ls hl => ?_)
          exact n120 FU x3 x4 0 σ _ _ hP hD hS _ (lv_sub hl [1, 3, 4, 0] rfl) h
        · have h := ite_f c9 h
          refine lv_aload_n hx hb dX10_isWritten_85 rfl (lv_at hl 0 rfl) ?_
          refine va_get (ci := 8) (v := .ref (ad 18)) (C := RX10) (T := TX10) (N := 42) hx hb hts hinX10 hown hK hP 0 rfl rfl 31 (by decide) fl2 (fun _ h9 => h9) rfl dX10_isWritten_86 ?_
          refine lv_iload hx hb dX10_isWritten_89 (lv_at hl 4 rfl) ?_
          obtain ⟨hin10, h⟩ := gd_e h
          refine va_bald hx hb hK hP 18 2 rfl rfl hin10 dX10_isWritten_91 ?_
          refine lv_aload_n hx hb dX10_isWritten_92 rfl (lv_at hl 0 rfl) ?_
          refine va_get (ci := 8) (v := .ref (ad 1)) (C := RX10) (T := TX10) (N := 42) hx hb hts hinX10 hown hK hP 0 rfl rfl 1 (by decide) fl4 (fun _ h9 => h9) rfl dX10_isWritten_93 ?_
          refine lv_iload_n hx hb dX10_isWritten_96 rfl (lv_at hl 1 rfl) ?_
          refine lv_iload hx hb dX10_isWritten_97 (lv_at hl 4 rfl) ?_
          refine lv_iadd hx hb dX10_isWritten_99 ?_
          obtain ⟨hin11, h⟩ := gd_e h
          refine va_bald hx hb hK hP 1 2 rfl rfl hin11 dX10_isWritten_100 ?_
          refine lv_icmp_ne (tgt := 108) hx hb dX10_isWritten_101 (by decide) (fun c12 => ?_) (fun c12 => ?_)
          · have h := ite_f c12 h
            refine lv_iconst (v := 0) hx hb dX10_isWritten_108 (by decide) ?_
            refine lv_istore (lv' := [(4, .int 0), (0, .ref (ad 0)), (1, .int a1), (3, .int x3), (5, .int x5)]) hx hb dX10_isWritten_109 hl (by decide) rfl (fun ls hl => ?_)
            obtain ⟨x5_13, ex5_13, h⟩ := lt_e h
            refine lv_iinc (v := x5_13) (lv' := [(5, .int x5_13), (4, .int 0), (0, .ref (ad 0)), (1, .int a1), (3, .int x3)]) hx hb dX10_isWritten_111 hl (k := 4) rfl (by rw [ex5_13]; rfl) (by decide) rfl (fun ls hl => ?_)
            refine lv_goto (tgt := 71) hx hb dX10_isWritten_114 (by decide) ?_
            exact ih71 x3 0 x5_13 σ _ _ hP hD hS _ (lv_sub hl [2, 3, 4, 1, 0] rfl) h
          · have h := ite_t c12 h
            refine lv_iconst (v := 1) hx hb dX10_isWritten_104 (by decide) ?_
            refine lv_goto (tgt := 109) hx hb dX10_isWritten_105 (by decide) ?_
            refine lv_istore (lv' := [(4, .int 1), (0, .ref (ad 0)), (1, .int a1), (3, .int x3), (5, .int x5)]) hx hb dX10_isWritten_109 hl (by decide) rfl (fun ls hl => ?_)
            obtain ⟨x5_14, ex5_14, h⟩ := lt_e h
            refine lv_iinc (v := x5_14) (lv' := [(5, .int x5_14), (4, .int 1), (0, .ref (ad 0)), (1, .int a1), (3, .int x3)]) hx hb dX10_isWritten_111 hl (k := 4) rfl (by rw [ex5_14]; rfl) (by decide) rfl (fun ls hl => ?_)
            refine lv_goto (tgt := 71) hx hb dX10_isWritten_114 (by decide) ?_
            exact ih71 x3 1 x5_14 σ _ _ hP hD hS _ (lv_sub hl [2, 3, 4, 1, 0] rfl) h
  have n8 : ∀ (n : Nat) (x3 : Int32) (x4 : Int32) (σ : Mem) (H : Heap) (locs : List Loc), va_P D vwCl (wdX10 cI cZ cB ad w σ) H → va_D A (wdX10 cI cZ cB ad w σ) → va_S A s.heap H locs → ∀ (ls : Array Slot), lv_has ls 6 [(0, .ref (ad 0)), (1, .int a1), (2, .int a2), (3, .int x3), (4, .int x4)] → X10_isWritten_8 a1 a2 n x3 x4 σ = some res → W p l e rmX10_isWritten s m args below meth c H locs 0 0 Q (F0 m 8 ls []) := by
    intro n
    induction n with
    | zero =>
      intro x3 x4 σ H locs hP hD hS ls hl h
      rw [X10_isWritten_8] at h
      cases h
    | succ n_8 ih8 =>
      intro x3 x4 σ H locs hP hD hS ls hl h
      rw [X10_isWritten_8] at h
      refine lv_iload hx hb dX10_isWritten_8 (lv_at hl 4 rfl) ?_
      refine lv_iload_n hx hb dX10_isWritten_10 rfl (lv_at hl 3 rfl) ?_
      refine lv_icmp_ge (tgt := 34) hx hb dX10_isWritten_11 (by decide) (fun c15 => ?_) (fun c15 => ?_)
      · have h := ite_t c15 h
        refine lv_aload_n hx hb dX10_isWritten_34 rfl (lv_at hl 0 rfl) ?_
        refine lv_iconst (v := 0) hx hb dX10_isWritten_35 (by decide) ?_
        obtain ⟨σ16, eσ16, h⟩ := lt_e h
        refine va_put (ci := 8) (v := .int 0) (ty := .int) (C := RX10) (T := TX10) (N := 42) hx hb hts hinX10 tyX10 tyX10_ok nmX10 hown hK hP hD hS 0 rfl rfl 32 (by decide) fl1 (fun _ h9 => h9) rfl (by decide +kernel) rfl rfl (Nat.le_of_ble_eq_true rfl) dX10_isWritten_36 (fun H locs hP1 hD1 hS => ?_)
        have hP : va_P D vwCl (wdX10 cI cZ cB ad w σ16) H := by rw [eσ16]; exact hP1
        have hD : va_D A (wdX10 cI cZ cB ad w σ16) := D_of (by rfl) hD
        refine lv_aload_n hx hb dX10_isWritten_39 rfl (lv_at hl 0 rfl) ?_
        refine lv_aload_n hx hb dX10_isWritten_40 rfl (lv_at hl 0 rfl) ?_
        refine va_get (ci := 8) (v := .int (σ16 0 35)) (C := RX10) (T := TX10) (N := 42) hx hb hts hinX10 hown hK hP 0 rfl rfl 35 (by decide) fl5 (fun _ h9 => h9) rfl dX10_isWritten_41 ?_
        refine lv_iload_n hx hb dX10_isWritten_44 rfl (lv_at hl 2 rfl) ?_
        obtain ⟨r17, hr17, h⟩ := bd_e h
        obtain ⟨σ18, eσ18, h⟩ := lt_e h
        refine cl_WVs (rest := []) (wn := (wdX10 cI cZ cB ad w σ18)) (ci := 8) (q0 := 0) ⟨hx, hb, hml, hown, hts⟩ (mX10_write l D cI cZ cB ad w σ16 H.size (σ16 0 35) a2 r17 hr17) (cwV 2 hts gX10_isWritten_X10_write rfl rfl rfl (by decide +kernel) ⟨Nat.le_of_ble_eq_true rfl, Nat.le_of_ble_eq_true rfl⟩) hK hP hD hS hA (by rw [eσ18]) rfl rfl rfl rfl rfl hl.1 rfl (Nat.le_of_ble_eq_true rfl) dX10_isWritten_45 ⟨Nat.zero_le _, Nat.zero_le _⟩ (fun H locs hP hD hS => ?_)
        refine W.eq (g2 := F0 m 48 ls []) rfl ?_
        refine lv_aload_n hx hb dX10_isWritten_48 rfl (lv_at hl 0 rfl) ?_
        refine va_get (ci := 8) (v := .int (σ18 0 32)) (C := RX10) (T := TX10) (N := 42) hx hb hts hinX10 hown hK hP 0 rfl rfl 32 (by decide) fl1 (fun _ h9 => h9) rfl dX10_isWritten_49 ?_
        refine lv_aload_n hx hb dX10_isWritten_52 rfl (lv_at hl 0 rfl) ?_
        refine va_get (ci := 8) (v := .int (σ18 0 4)) (C := RX10) (T := TX10) (N := 42) hx hb hts hinX10 hown hK hP 0 rfl rfl 4 (by decide) fl6 (fun _ h9 => h9) rfl dX10_isWritten_53 ?_
        refine lv_iload_n hx hb dX10_isWritten_56 rfl (lv_at hl 1 rfl) ?_
        refine lv_isub hx hb dX10_isWritten_57 ?_
        refine lv_icmp_ne (tgt := 65) hx hb dX10_isWritten_58 (by decide) (fun c19 => ?_) (fun c19 => ?_)
        · have h := ite_f c19 h
          refine lv_iconst (v := 0) hx hb dX10_isWritten_65 (by decide) ?_
          refine lv_istore (lv' := [(4, .int 0), (0, .ref (ad 0)), (1, .int a1), (2, .int a2), (3, .int x3)]) hx hb dX10_isWritten_66 hl (by decide) rfl (fun ls hl => ?_)
          refine lv_iconst (v := 0) hx hb dX10_isWritten_68 (by decide) ?_
          refine lv_istore (lv' := [(5, .int 0), (4, .int 0), (0, .ref (ad 0)), (1, .int a1), (2, .int a2), (3, .int x3)]) hx hb dX10_isWritten_69 hl (by decide) rfl (fun ls hl => ?_)
          exact n71 FU x3 0 0 σ18 _ _ hP hD hS _ (lv_sub hl [2, 3, 5, 1, 0] rfl) h
        · have h := ite_t c19 h
          refine lv_iconst (v := 1) hx hb dX10_isWritten_61 (by decide) ?_
          refine lv_goto (tgt := 66) hx hb dX10_isWritten_62 (by decide) ?_
          refine lv_istore (lv' := [(4, .int 1), (0, .ref (ad 0)), (1, .int a1), (2, .int a2), (3, .int x3)]) hx hb dX10_isWritten_66 hl (by decide) rfl (fun ls hl => ?_)
          refine lv_iconst (v := 0) hx hb dX10_isWritten_68 (by decide) ?_
          refine lv_istore (lv' := [(5, .int 0), (4, .int 1), (0, .ref (ad 0)), (1, .int a1), (2, .int a2), (3, .int x3)]) hx hb dX10_isWritten_69 hl (by decide) rfl (fun ls hl => ?_)
          exact n71 FU x3 1 0 σ18 _ _ hP hD hS _ (lv_sub hl [2, 3, 5, 1, 0] rfl) h
      · have h := ite_f c15 h
        refine lv_aload_n hx hb dX10_isWritten_14 rfl (lv_at hl 0 rfl) ?_
        refine va_get (ci := 8) (v := .ref (ad 21)) (C := RX10) (T := TX10) (N := 42) hx hb hts hinX10 hown hK hP 0 rfl rfl 38 (by decide) fl3 (fun _ h9 => h9) rfl dX10_isWritten_15 ?_
        refine lv_iload hx hb dX10_isWritten_18 (lv_at hl 4 rfl) ?_
        refine lv_aload_n hx hb dX10_isWritten_20 rfl (lv_at hl 0 rfl) ?_
        refine va_get (ci := 8) (v := .ref (ad 18)) (C := RX10) (T := TX10) (N := 42) hx hb hts hinX10 hown hK hP 0 rfl rfl 31 (by decide) fl2 (fun _ h9 => h9) rfl dX10_isWritten_21 ?_
        refine lv_iload hx hb dX10_isWritten_24 (lv_at hl 4 rfl) ?_
        obtain ⟨hin20, h⟩ := gd_e h
        refine va_bald hx hb hK hP 18 2 rfl rfl hin20 dX10_isWritten_26 ?_
        obtain ⟨hin21, h⟩ := gd_e h
        obtain ⟨σ22, eσ22, h⟩ := lt_e h
        refine va_bast hx hb hK hP hD hS 21 2 rfl rfl hin21 dX10_isWritten_27 (fun H locs hP1 hD1 hS => ?_)
        have hP : va_P D vwCl (wdX10 cI cZ cB ad w σ22) H := by rw [eσ22]; exact hP1
        have hD : va_D A (wdX10 cI cZ cB ad w σ22) := D_of (by rfl) hD
        obtain ⟨x4_23, ex4_23, h⟩ := lt_e h
        refine lv_iinc (v := x4_23) (lv' := [(4, .int x4_23), (0, .ref (ad 0)), (1, .int a1), (2, .int a2), (3, .int x3)]) hx hb dX10_isWritten_28 hl (k := 4) rfl (by rw [ex4_23]; rfl) (by decide) rfl (fun ls hl => ?_)
        refine lv_goto (tgt := 8) hx hb dX10_isWritten_31 (by decide) ?_
        exact ih8 x3 x4_23 σ22 _ _ hP hD hS _ (lv_sub hl [1, 2, 3, 4, 0] rfl) h
  rw [X10_isWritten] at h
  have hS := hS
  refine lv_aload_n hx hb dX10_isWritten_0 rfl (lv_at hl 0 rfl) ?_
  refine va_get (ci := 8) (v := .int (σ 0 32)) (C := RX10) (T := TX10) (N := 42) hx hb hts hinX10 hown hK hP 0 rfl rfl 32 (by decide) fl1 (fun _ h9 => h9) rfl dX10_isWritten_1 ?_
  obtain ⟨x3_24, ex3_24, h⟩ := lt_e h
  refine lv_topE ex3_24 ?_
  refine lv_istore_n (lv' := [(3, .int x3_24), (0, .ref (ad 0)), (1, .int a1), (2, .int a2)]) hx hb dX10_isWritten_4 rfl hl (by decide) rfl (fun ls hl => ?_)
  refine lv_iconst (v := 0) hx hb dX10_isWritten_5 (by decide) ?_
  refine lv_istore (lv' := [(4, .int 0), (3, .int x3_24), (0, .ref (ad 0)), (1, .int a1), (2, .int a2)]) hx hb dX10_isWritten_6 hl (by decide) rfl (fun ls hl => ?_)
  exact n8 FU x3_24 0 σ _ _ hP hD hS _ (lv_sub hl [2, 3, 4, 1, 0] rfl) h
set_option maxHeartbeats 4000000 in
set_option maxRecDepth 100000 in
theorem mX10_isWritten (l : Launch) (D : va_G) (cI cZ cB : ClassId) (ad : Nat → Nat) (w : Int64) (σ : Mem) (sz : Nat) (a1 : Int32) (a2 : Int32) (res : Int32 × Mem) (h : X10_isWritten a1 a2 σ = some res) : Met l yX10_isWritten wsX10_isWritten rmX10_isWritten (pW D cI cZ cB (wdX10 cI cZ cB ad w σ) sz [.ref (ad 0), .int a1, .int a2]) (qW D (some (.int res.1)) (wdX10 cI cZ cB ad w res.2) (va_A (wdX10 cI cZ cB ad w σ) sz)) 0 0 (va_A (wdX10 cI cZ cB ad w σ) sz) := (bX10_isWritten l D cI cZ cB ad w σ a1 a2 res h).met (by decide +kernel) rfl (Nat.le_of_ble_eq_true rfl)
