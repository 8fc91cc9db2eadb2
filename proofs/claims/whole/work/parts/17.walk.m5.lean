/-! printed: the walks -/
def rmX10_readLabel : Room := { frames := 4, cells := 0, slots := 0, locals := 95 }
set_option maxHeartbeats 4000000 in
set_option maxRecDepth 100000 in
theorem bX10_readLabel (l : Launch) (D : va_G) (cI cZ cB : ClassId) (ad : Nat → Nat) (w : Int64) (σ : Mem) (a1 : Int32) (res : Int32 × Mem) (h : X10_readLabel a1 σ = some res) : BW l yX10_readLabel wsX10_readLabel rmX10_readLabel cX10_readLabel 7 (some .boolean) D cI cZ cB (wdX10 cI cZ cB ad w σ) [.ref (ad 0), .int a1] (some (.int res.1)) (wdX10 cI cZ cB ad w res.2) := by
  intro p e s m args below meth c ls Q A hx hb hml hts hown hK hA hP hD hS hl0 hR
  have hinX10 : ∀ w ∈ u_ws RX10 TX10 42, w ∈ wsX10_readLabel := (fun _ h => List.mem_cons_of_mem _ (List.mem_append_right _ h))
  have fl1 := hts (.constant RX10 173 (531441)) (by decide +kernel)
  have fl2 := hts (.fieldLink RX10 256 "LawNumbererModel" "read" "I") (by decide +kernel)
  have fl3 := hts (.fieldLink RX10 99 "LawNumbererModel" "p" "I") (by decide +kernel)
  have fl4 := hts (.fieldLink RX10 68 "LawNumbererModel" "hand" "[I") (by decide +kernel)
  have fl5 := hts (.fieldLink RX10 7 "LawNumbererModel" "tape" "[B") (by decide +kernel)
  have fl6 := hts (.constant RX10 255 (100000)) (by decide +kernel)
  have hl : lv_has ls 7 [(0, .ref (ad 0)), (1, .int a1)] := hl0
  have n318 : ∀ (x2 : Int32) (σ : Mem) (H : Heap) (locs : List Loc), va_P D vwCl (wdX10 cI cZ cB ad w σ) H → va_D A (wdX10 cI cZ cB ad w σ) → va_S A s.heap H locs → ∀ (ls : Array Slot), lv_has ls 7 [(0, .ref (ad 0)), (2, .int x2)] → X10_readLabel_318 a1 x2 σ = some res → W p l e rmX10_readLabel s m args below meth c H locs 0 0 Q (F0 m 318 ls []) := by
    intro x2 σ H locs hP hD hS ls hl h
    rw [X10_readLabel_318] at h
    refine lv_aload_n hx hb dX10_readLabel_318 rfl (lv_at hl 0 rfl) ?_
    refine lv_iconst (v := 2) hx hb dX10_readLabel_319 (by decide) ?_
    refine lv_iload_n hx hb dX10_readLabel_320 rfl (lv_at hl 1 rfl) ?_
    obtain ⟨r1, hr1, h⟩ := bd_e h
    obtain ⟨σ2, eσ2, h⟩ := lt_e h
    refine cl_WVs (rest := []) (wn := (wdX10 cI cZ cB ad w σ2)) (ci := 8) (q0 := 0) ⟨hx, hb, hml, hown, hts⟩ (mX10_breaks l D cI cZ cB ad w σ H.size 2 x2 r1 hr1) (cwV 2 hts gX10_readLabel_X10_breaks rfl rfl rfl (by decide +kernel) ⟨Nat.le_of_ble_eq_true rfl, Nat.le_of_ble_eq_true rfl⟩) hK hP hD hS hA (by rw [eσ2]) rfl rfl rfl rfl rfl hl.1 rfl (Nat.le_of_ble_eq_true rfl) dX10_readLabel_321 ⟨Nat.zero_le _, Nat.zero_le _⟩ (fun H locs hP hD hS => ?_)
    refine W.eq (g2 := F0 m 324 ls [.int r1.1]) rfl ?_
    obtain ⟨hg3, h⟩ := gp_e h
    exact hR (some (.int r1.1)) (wdX10 cI cZ cB ad w σ2) _ _ _ _ (by rw [← Option.some.inj h]) (by rw [← Option.some.inj h]) (nb_of hg3) dX10_readLabel_324 hP hS
  have n300 : ∀ (x2 : Int32) (x3 : Int32) (x5 : Int32) (σ : Mem) (H : Heap) (locs : List Loc), va_P D vwCl (wdX10 cI cZ cB ad w σ) H → va_D A (wdX10 cI cZ cB ad w σ) → va_S A s.heap H locs → ∀ (ls : Array Slot), lv_has ls 7 [(0, .ref (ad 0)), (1, .int a1), (2, .int x2), (3, .int x3), (5, .int x5)] → X10_readLabel_300 a1 x2 x3 x5 σ = some res → W p l e rmX10_readLabel s m args below meth c H locs 0 0 Q (F0 m 300 ls []) := by
    intro x2 x3 x5 σ H locs hP hD hS ls hl h
    rw [X10_readLabel_300] at h
    refine lv_iload_n hx hb dX10_readLabel_300 rfl (lv_at hl 3 rfl) ?_
    refine lv_iconst (v := 1) hx hb dX10_readLabel_301 (by decide) ?_
    refine lv_icmp_lt (tgt := 318) hx hb dX10_readLabel_302 (by decide) (fun c4 => ?_) (fun c4 => ?_)
    · have h := ite_t c4 h
      exact n318 x2 σ _ _ hP hD hS _ (lv_sub hl [0, 2] rfl) h
    · have h := ite_f c4 h
      refine lv_iload_n hx hb dX10_readLabel_305 rfl (lv_at hl 3 rfl) ?_
      refine lv_sipush (v := 999) hx hb dX10_readLabel_306 (by decide) ?_
      refine lv_icmp_gt (tgt := 318) hx hb dX10_readLabel_309 (by decide) (fun c5 => ?_) (fun c5 => ?_)
      · have h := ite_t c5 h
        exact n318 x2 σ _ _ hP hD hS _ (lv_sub hl [0, 2] rfl) h
      · have h := ite_f c5 h
        refine lv_iload hx hb dX10_readLabel_312 (lv_at hl 4 rfl) ?_
        refine lv_iconst (v := 4) hx hb dX10_readLabel_314 (by decide) ?_
        refine lv_icmp_le (tgt := 325) hx hb dX10_readLabel_315 (by decide) (fun c6 => ?_) (fun c6 => ?_)
        · have h := ite_t c6 h
          refine lv_aload_n hx hb dX10_readLabel_325 rfl (lv_at hl 0 rfl) ?_
          refine lv_iload_n hx hb dX10_readLabel_326 rfl (lv_at hl 3 rfl) ?_
          refine lv_ldc (v := 531441) hx hb hown fl1 dX10_readLabel_327 ?_
          refine lv_imul hx hb dX10_readLabel_329 ?_
          refine lv_aload_n hx hb dX10_readLabel_330 rfl (lv_at hl 0 rfl) ?_
          obtain ⟨r7, hr7, h⟩ := bd_e h
          refine cl_RV (rest := [.int (x3 * 531441), .ref (ad 0)]) (ci := 8) (q0 := 0) ⟨hx, hb, hml, hown, hts⟩ (mX10_suffixInHand l D cI cZ cB ad w σ r7 hr7) (cwV 0 hts gX10_readLabel_X10_suffixInHand rfl rfl rfl (by decide +kernel) ⟨Nat.le_of_ble_eq_true rfl, Nat.le_of_ble_eq_true rfl⟩) hK hP rfl rfl rfl rfl hl.1 rfl (Nat.le_of_ble_eq_true rfl) dX10_readLabel_331 ⟨Nat.zero_le _, Nat.zero_le _⟩ ?_
          refine W.eq (g2 := F0 m 334 ls [.int r7, .int (x3 * 531441), .ref (ad 0)]) rfl ?_
          refine lv_iadd hx hb dX10_readLabel_334 ?_
          obtain ⟨σ8, eσ8, h⟩ := lt_e h
          refine va_put (ci := 8) (v := .int ((x3 * 531441) + r7)) (ty := .int) (C := RX10) (T := TX10) (N := 42) hx hb hts hinX10 tyX10 tyX10_ok nmX10 hown hK hP hD hS 0 rfl rfl 35 (by decide) fl2 (fun _ h9 => h9) rfl (by decide +kernel) rfl rfl (Nat.le_of_ble_eq_true rfl) dX10_readLabel_335 (fun H locs hP1 hD1 hS => ?_)
          have hP : va_P D vwCl (wdX10 cI cZ cB ad w σ8) H := by rw [eσ8]; exact hP1
          have hD : va_D A (wdX10 cI cZ cB ad w σ8) := D_of (by rfl) hD
          refine lv_aload_n hx hb dX10_readLabel_338 rfl (lv_at hl 0 rfl) ?_
          refine lv_iload_n hx hb dX10_readLabel_339 rfl (lv_at hl 2 rfl) ?_
          refine lv_iload_n hx hb dX10_readLabel_340 rfl (lv_at hl 1 rfl) ?_
          obtain ⟨r9, hr9, h⟩ := bd_e h
          obtain ⟨σ10, eσ10, h⟩ := lt_e h
          refine cl_WVs (rest := []) (wn := (wdX10 cI cZ cB ad w σ10)) (ci := 8) (q0 := 0) ⟨hx, hb, hml, hown, hts⟩ (mX10_isWritten l D cI cZ cB ad w σ8 H.size x2 a1 r9 hr9) (cwV 2 hts gX10_readLabel_X10_isWritten rfl rfl rfl (by decide +kernel) ⟨Nat.le_of_ble_eq_true rfl, Nat.le_of_ble_eq_true rfl⟩) hK hP hD hS hA (by rw [eσ10]) rfl rfl rfl rfl rfl hl.1 rfl (Nat.le_of_ble_eq_true rfl) dX10_readLabel_341 ⟨Nat.zero_le _, Nat.zero_le _⟩ (fun H locs hP hD hS => ?_)
          refine W.eq (g2 := F0 m 344 ls [.int r9.1]) rfl ?_
          refine lv_if_ne (tgt := 356) hx hb dX10_readLabel_344 (by decide) (fun c11 => ?_) (fun c11 => ?_)
          · have h := ite_f c11 h
            refine lv_iconst (v := 1) hx hb dX10_readLabel_356 (by decide) ?_
            refine lv_goto (tgt := 361) hx hb dX10_readLabel_357 (by decide) ?_
            exact hR (some (.int 1)) (wdX10 cI cZ cB ad w σ10) _ _ _ _ (by rw [← Option.some.inj h]) (by rw [← Option.some.inj h]) nb1 dX10_readLabel_361 hP hS
          · have h := ite_t c11 h
            refine lv_aload_n hx hb dX10_readLabel_347 rfl (lv_at hl 0 rfl) ?_
            refine lv_iconst (v := 2) hx hb dX10_readLabel_348 (by decide) ?_
            refine lv_iload_n hx hb dX10_readLabel_349 rfl (lv_at hl 2 rfl) ?_
            obtain ⟨r12, hr12, h⟩ := bd_e h
            obtain ⟨σ13, eσ13, h⟩ := lt_e h
            refine cl_WVs (rest := []) (wn := (wdX10 cI cZ cB ad w σ13)) (ci := 8) (q0 := 0) ⟨hx, hb, hml, hown, hts⟩ (mX10_breaks l D cI cZ cB ad w σ10 H.size 2 x2 r12 hr12) (cwV 2 hts gX10_readLabel_X10_breaks rfl rfl rfl (by decide +kernel) ⟨Nat.le_of_ble_eq_true rfl, Nat.le_of_ble_eq_true rfl⟩) hK hP hD hS hA (by rw [eσ13]) rfl rfl rfl rfl rfl hl.1 rfl (Nat.le_of_ble_eq_true rfl) dX10_readLabel_350 ⟨Nat.zero_le _, Nat.zero_le _⟩ (fun H locs hP hD hS => ?_)
            refine W.eq (g2 := F0 m 353 ls [.int r12.1]) rfl ?_
            refine lv_if_eq (tgt := 360) hx hb dX10_readLabel_353 (by decide) (fun c14 => ?_) (fun c14 => ?_)
            · have h := ite_t c14 h
              refine lv_iconst (v := 0) hx hb dX10_readLabel_360 (by decide) ?_
              exact hR (some (.int 0)) (wdX10 cI cZ cB ad w σ13) _ _ _ _ (by rw [← Option.some.inj h]) (by rw [← Option.some.inj h]) nb0 dX10_readLabel_361 hP hS
            · have h := ite_f c14 h
              refine lv_iconst (v := 1) hx hb dX10_readLabel_356 (by decide) ?_
              refine lv_goto (tgt := 361) hx hb dX10_readLabel_357 (by decide) ?_
              exact hR (some (.int 1)) (wdX10 cI cZ cB ad w σ13) _ _ _ _ (by rw [← Option.some.inj h]) (by rw [← Option.some.inj h]) nb1 dX10_readLabel_361 hP hS
        · have h := ite_f c6 h
          exact n318 x2 σ _ _ hP hD hS _ (lv_sub hl [0, 2] rfl) h
  have n254 : ∀ (n : Nat) (x2 : Int32) (x3 : Int32) (x5 : Int32) (σ : Mem) (H : Heap) (locs : List Loc), va_P D vwCl (wdX10 cI cZ cB ad w σ) H → va_D A (wdX10 cI cZ cB ad w σ) → va_S A s.heap H locs → ∀ (ls : Array Slot), lv_has ls 7 [(0, .ref (ad 0)), (1, .int a1), (2, .int x2), (3, .int x3), (5, .int x5)] → X10_readLabel_254 a1 n x2 x3 x5 σ = some res → W p l e rmX10_readLabel s m args below meth c H locs 0 0 Q (F0 m 254 ls []) := by
    intro n
    induction n with
    | zero =>
      intro x2 x3 x5 σ H locs hP hD hS ls hl h
      rw [X10_readLabel_254] at h
      cases h
    | succ n_254 ih254 =>
      have n284 : ∀ (x2 : Int32) (x3 : Int32) (x5 : Int32) (σ : Mem) (H : Heap) (locs : List Loc), va_P D vwCl (wdX10 cI cZ cB ad w σ) H → va_D A (wdX10 cI cZ cB ad w σ) → va_S A s.heap H locs → ∀ (ls : Array Slot), lv_has ls 7 [(0, .ref (ad 0)), (1, .int a1), (2, .int x2), (3, .int x3), (5, .int x5)] → X10_readLabel_284 a1 (X10_readLabel_254 a1 n_254) x2 x3 x5 σ = some res → W p l e rmX10_readLabel s m args below meth c H locs 0 0 Q (F0 m 284 ls []) := by
        intro x2 x3 x5 σ H locs hP hD hS ls hl h
        rw [X10_readLabel_284] at h
        obtain ⟨x5_15, ex5_15, h⟩ := lt_e h
        refine lv_iinc (v := x5_15) (lv' := [(5, .int x5_15), (0, .ref (ad 0)), (1, .int a1), (2, .int x2), (3, .int x3)]) hx hb dX10_readLabel_284 hl (k := 4) rfl (by rw [ex5_15]; rfl) (by decide) rfl (fun ls hl => ?_)
        refine lv_aload_n hx hb dX10_readLabel_287 rfl (lv_at hl 1 rfl) ?_
        refine lv_dup hx hb dX10_readLabel_288 rfl ?_
        refine va_get (ci := 8) (v := .int (σ 0 4)) (C := RX10) (T := TX10) (N := 42) hx hb hts hinX10 hown hK hP 0 rfl rfl 4 (by decide) fl3 (fun _ h9 => h9) rfl dX10_readLabel_289 ?_
        refine lv_iconst (v := 1) hx hb dX10_readLabel_292 (by decide) ?_
        refine lv_iadd hx hb dX10_readLabel_293 ?_
        obtain ⟨σ16, eσ16, h⟩ := lt_e h
        refine va_put (ci := 8) (v := .int ((σ 0 4) + 1)) (ty := .int) (C := RX10) (T := TX10) (N := 42) hx hb hts hinX10 tyX10 tyX10_ok nmX10 hown hK hP hD hS 0 rfl rfl 4 (by decide) fl3 (fun _ h9 => h9) rfl (by decide +kernel) rfl rfl (Nat.le_of_ble_eq_true rfl) dX10_readLabel_294 (fun H locs hP1 hD1 hS => ?_)
        have hP : va_P D vwCl (wdX10 cI cZ cB ad w σ16) H := by rw [eσ16]; exact hP1
        have hD : va_D A (wdX10 cI cZ cB ad w σ16) := D_of (by rfl) hD
        refine lv_goto (tgt := 254) hx hb dX10_readLabel_297 (by decide) ?_
        exact ih254 x2 x3 x5_15 σ16 _ _ hP hD hS _ (lv_sub hl [1, 2, 3, 4, 0] rfl) h
      intro x2 x3 x5 σ H locs hP hD hS ls hl h
      rw [X10_readLabel_254] at h
      refine lv_aload_n hx hb dX10_readLabel_254 rfl (lv_at hl 0 rfl) ?_
      obtain ⟨r17, hr17, h⟩ := bd_e h
      refine cl_RV (rest := []) (ci := 8) (q0 := 0) ⟨hx, hb, hml, hown, hts⟩ (mX10_peek l D cI cZ cB ad w σ r17 hr17) (cwV 0 hts gX10_readLabel_X10_peek rfl rfl rfl (by decide +kernel) ⟨Nat.le_of_ble_eq_true rfl, Nat.le_of_ble_eq_true rfl⟩) hK hP rfl rfl rfl rfl hl.1 rfl (Nat.le_of_ble_eq_true rfl) dX10_readLabel_255 ⟨Nat.zero_le _, Nat.zero_le _⟩ ?_
      refine W.eq (g2 := F0 m 258 ls [.int r17]) rfl ?_
      obtain ⟨r18, hr18, h⟩ := bd_e h
      refine cl_RS (rest := []) ⟨hx, hb, hml, hown, hts⟩ (mX10_isGreat l D cI cZ cB r17 r18 hr18) (va_cwS 1 hts gX10_readLabel_X10_isGreat rfl rfl rfl (by decide +kernel) ⟨Nat.le_of_ble_eq_true rfl, Nat.le_of_ble_eq_true rfl⟩) hK wd0_P rfl hl.1 rfl (Nat.le_of_ble_eq_true rfl) dX10_readLabel_258 ⟨Nat.zero_le _, Nat.zero_le _⟩ ?_
      refine W.eq (g2 := F0 m 261 ls [.int r18]) rfl ?_
      refine lv_if_eq (tgt := 300) hx hb dX10_readLabel_261 (by decide) (fun c19 => ?_) (fun c19 => ?_)
      · have h := ite_t c19 h
        exact n300 x2 x3 x5 σ _ _ hP hD hS _ (lv_sub hl [0, 1, 2, 3, 4] rfl) h
      · have h := ite_f c19 h
        refine lv_iload hx hb dX10_readLabel_264 (lv_at hl 4 rfl) ?_
        refine lv_iconst (v := 4) hx hb dX10_readLabel_266 (by decide) ?_
        refine lv_icmp_ge (tgt := 284) hx hb dX10_readLabel_267 (by decide) (fun c20 => ?_) (fun c20 => ?_)
        · have h := ite_t c20 h
          exact n284 x2 x3 x5 σ _ _ hP hD hS _ (lv_sub hl [0, 1, 2, 3, 4] rfl) h
        · have h := ite_f c20 h
          refine lv_aload_n hx hb dX10_readLabel_270 rfl (lv_at hl 0 rfl) ?_
          refine va_get (ci := 8) (v := .ref (ad 17)) (C := RX10) (T := TX10) (N := 42) hx hb hts hinX10 hown hK hP 0 rfl rfl 30 (by decide) fl4 (fun _ h9 => h9) rfl dX10_readLabel_271 ?_
          refine lv_iload hx hb dX10_readLabel_274 (lv_at hl 4 rfl) ?_
          refine lv_aload_n hx hb dX10_readLabel_276 rfl (lv_at hl 0 rfl) ?_
          obtain ⟨r21, hr21, h⟩ := bd_e h
          refine cl_RV (rest := [.int x5, .ref (ad 17)]) (ci := 8) (q0 := 0) ⟨hx, hb, hml, hown, hts⟩ (mX10_peek l D cI cZ cB ad w σ r21 hr21) (cwV 0 hts gX10_readLabel_X10_peek rfl rfl rfl (by decide +kernel) ⟨Nat.le_of_ble_eq_true rfl, Nat.le_of_ble_eq_true rfl⟩) hK hP rfl rfl rfl rfl hl.1 rfl (Nat.le_of_ble_eq_true rfl) dX10_readLabel_277 ⟨Nat.zero_le _, Nat.zero_le _⟩ ?_
          refine W.eq (g2 := F0 m 280 ls [.int r21, .int x5, .ref (ad 17)]) rfl ?_
          refine lv_bipush (v := 64) hx hb dX10_readLabel_280 (by decide) ?_
          refine lv_isub hx hb dX10_readLabel_282 ?_
          obtain ⟨hin22, h⟩ := gd_e h
          obtain ⟨σ23, eσ23, h⟩ := lt_e h
          refine va_iast hx hb hK hP hD hS 17 0 rfl rfl hin22 dX10_readLabel_283 (fun H locs hP1 hD1 hS => ?_)
          have hP : va_P D vwCl (wdX10 cI cZ cB ad w σ23) H := by rw [eσ23]; exact hP1
          have hD : va_D A (wdX10 cI cZ cB ad w σ23) := D_of (by rfl) hD
          exact n284 x2 x3 x5 σ23 _ _ hP hD hS _ (lv_sub hl [0, 1, 2, 3, 4] rfl) h
  have n226 : ∀ (x2 : Int32) (x3 : Int32) (x5 : Int32) (σ : Mem) (H : Heap) (locs : List Loc), va_P D vwCl (wdX10 cI cZ cB ad w σ) H → va_D A (wdX10 cI cZ cB ad w σ) → va_S A s.heap H locs → ∀ (ls : Array Slot), lv_has ls 7 [(0, .ref (ad 0)), (1, .int a1), (2, .int x2), (3, .int x3), (5, .int x5)] → X10_readLabel_226 a1 x2 x3 x5 σ = some res → W p l e rmX10_readLabel s m args below meth c H locs 0 0 Q (F0 m 226 ls []) := by
    intro x2 x3 x5 σ H locs hP hD hS ls hl h
    rw [X10_readLabel_226] at h
    refine lv_iload_n hx hb dX10_readLabel_226 rfl (lv_at hl 1 rfl) ?_
    refine lv_if_eq (tgt := 254) hx hb dX10_readLabel_227 (by decide) (fun c24 => ?_) (fun c24 => ?_)
    · have h := ite_t c24 h
      exact n254 FU x2 x3 x5 σ _ _ hP hD hS _ (lv_sub hl [0, 1, 2, 3, 4] rfl) h
    · have h := ite_f c24 h
      refine lv_aload_n hx hb dX10_readLabel_230 rfl (lv_at hl 0 rfl) ?_
      refine va_get (ci := 8) (v := .int (σ 0 4)) (C := RX10) (T := TX10) (N := 42) hx hb hts hinX10 hown hK hP 0 rfl rfl 4 (by decide) fl3 (fun _ h9 => h9) rfl dX10_readLabel_231 ?_
      refine lv_iload_n hx hb dX10_readLabel_234 rfl (lv_at hl 2 rfl) ?_
      refine lv_icmp_le (tgt := 300) hx hb dX10_readLabel_235 (by decide) (fun c25 => ?_) (fun c25 => ?_)
      · have h := ite_t c25 h
        exact n300 x2 x3 x5 σ _ _ hP hD hS _ (lv_sub hl [0, 1, 2, 3, 4] rfl) h
      · have h := ite_f c25 h
        refine lv_aload_n hx hb dX10_readLabel_238 rfl (lv_at hl 0 rfl) ?_
        refine va_get (ci := 8) (v := .ref (ad 1)) (C := RX10) (T := TX10) (N := 42) hx hb hts hinX10 hown hK hP 0 rfl rfl 1 (by decide) fl5 (fun _ h9 => h9) rfl dX10_readLabel_239 ?_
        refine lv_aload_n hx hb dX10_readLabel_242 rfl (lv_at hl 0 rfl) ?_
        refine va_get (ci := 8) (v := .int (σ 0 4)) (C := RX10) (T := TX10) (N := 42) hx hb hts hinX10 hown hK hP 0 rfl rfl 4 (by decide) fl3 (fun _ h9 => h9) rfl dX10_readLabel_243 ?_
        refine lv_iconst (v := 1) hx hb dX10_readLabel_246 (by decide) ?_
        refine lv_isub hx hb dX10_readLabel_247 ?_
        obtain ⟨hin26, h⟩ := gd_e h
        refine va_bald hx hb hK hP 1 2 rfl rfl hin26 dX10_readLabel_248 ?_
        refine lv_bipush (v := 45) hx hb dX10_readLabel_249 (by decide) ?_
        refine lv_icmp_ne (tgt := 300) hx hb dX10_readLabel_251 (by decide) (fun c27 => ?_) (fun c27 => ?_)
        · have h := ite_f c27 h
          exact n300 x2 x3 x5 σ _ _ hP hD hS _ (lv_sub hl [0, 1, 2, 3, 4] rfl) h
        · have h := ite_t c27 h
          exact n254 FU x2 x3 x5 σ _ _ hP hD hS _ (lv_sub hl [0, 1, 2, 3, 4] rfl) h
  have n160 : ∀ (n : Nat) (x2 : Int32) (x3 : Int32) (x5 : Int32) (σ : Mem) (H : Heap) (locs : List Loc), va_P D vwCl (wdX10 cI cZ cB ad w σ) H → va_D A (wdX10 cI cZ cB ad w σ) → va_S A s.heap H locs → ∀ (ls : Array Slot), lv_has ls 7 [(0, .ref (ad 0)), (1, .int a1), (2, .int x2), (3, .int x3), (5, .int x5)] → X10_readLabel_160 a1 n x2 x3 x5 σ = some res → W p l e rmX10_readLabel s m args below meth c H locs 0 0 Q (F0 m 160 ls []) := by
    intro n
    induction n with
    | zero =>
      intro x2 x3 x5 σ H locs hP hD hS ls hl h
      rw [X10_readLabel_160] at h
      cases h
    | succ n_160 ih160 =>
      intro x2 x3 x5 σ H locs hP hD hS ls hl h
      rw [X10_readLabel_160] at h
      refine lv_iload hx hb dX10_readLabel_160 (lv_at hl 4 rfl) ?_
      refine lv_iconst (v := 4) hx hb dX10_readLabel_162 (by decide) ?_
      refine lv_icmp_ge (tgt := 180) hx hb dX10_readLabel_163 (by decide) (fun c28 => ?_) (fun c28 => ?_)
      · have h := ite_t c28 h
        refine lv_iconst (v := 0) hx hb dX10_readLabel_180 (by decide) ?_
        refine lv_istore (lv' := [(5, .int 0), (0, .ref (ad 0)), (1, .int a1), (2, .int x2), (3, .int x3)]) hx hb dX10_readLabel_181 hl (by decide) rfl (fun ls hl => ?_)
        refine lv_iload_n hx hb dX10_readLabel_183 rfl (lv_at hl 2 rfl) ?_
        refine lv_if_eq (tgt := 226) hx hb dX10_readLabel_184 (by decide) (fun c29 => ?_) (fun c29 => ?_)
        · have h := ite_t c29 h
          exact n226 x2 x3 0 σ _ _ hP hD hS _ (lv_sub hl [1, 2, 3, 4, 0] rfl) h
        · have h := ite_f c29 h
          refine lv_aload_n hx hb dX10_readLabel_187 rfl (lv_at hl 1 rfl) ?_
          obtain ⟨r30, hr30, h⟩ := bd_e h
          refine cl_RV (rest := []) (ci := 8) (q0 := 0) ⟨hx, hb, hml, hown, hts⟩ (mX10_peek l D cI cZ cB ad w σ r30 hr30) (cwV 0 hts gX10_readLabel_X10_peek rfl rfl rfl (by decide +kernel) ⟨Nat.le_of_ble_eq_true rfl, Nat.le_of_ble_eq_true rfl⟩) hK hP rfl rfl rfl rfl hl.1 rfl (Nat.le_of_ble_eq_true rfl) dX10_readLabel_188 ⟨Nat.zero_le _, Nat.zero_le _⟩ ?_
          refine W.eq (g2 := F0 m 191 ls [.int r30]) rfl ?_
          refine lv_bipush (v := 45) hx hb dX10_readLabel_191 (by decide) ?_
          refine lv_icmp_ne (tgt := 226) hx hb dX10_readLabel_193 (by decide) (fun c31 => ?_) (fun c31 => ?_)
          · have h := ite_f c31 h
            exact n226 x2 x3 0 σ _ _ hP hD hS _ (lv_sub hl [1, 2, 3, 4, 0] rfl) h
          · have h := ite_t c31 h
            refine lv_aload_n hx hb dX10_readLabel_196 rfl (lv_at hl 1 rfl) ?_
            refine lv_dup hx hb dX10_readLabel_197 rfl ?_
            refine va_get (ci := 8) (v := .int (σ 0 4)) (C := RX10) (T := TX10) (N := 42) hx hb hts hinX10 hown hK hP 0 rfl rfl 4 (by decide) fl3 (fun _ h9 => h9) rfl dX10_readLabel_198 ?_
            refine lv_iconst (v := 1) hx hb dX10_readLabel_201 (by decide) ?_
            refine lv_iadd hx hb dX10_readLabel_202 ?_
            obtain ⟨σ32, eσ32, h⟩ := lt_e h
            refine va_put (ci := 8) (v := .int ((σ 0 4) + 1)) (ty := .int) (C := RX10) (T := TX10) (N := 42) hx hb hts hinX10 tyX10 tyX10_ok nmX10 hown hK hP hD hS 0 rfl rfl 4 (by decide) fl3 (fun _ h9 => h9) rfl (by decide +kernel) rfl rfl (Nat.le_of_ble_eq_true rfl) dX10_readLabel_203 (fun H locs hP1 hD1 hS => ?_)
            have hP : va_P D vwCl (wdX10 cI cZ cB ad w σ32) H := by rw [eσ32]; exact hP1
            have hD : va_D A (wdX10 cI cZ cB ad w σ32) := D_of (by rfl) hD
            refine lv_aload_n hx hb dX10_readLabel_206 rfl (lv_at hl 1 rfl) ?_
            obtain ⟨r33, hr33, h⟩ := bd_e h
            refine cl_RV (rest := []) (ci := 8) (q0 := 0) ⟨hx, hb, hml, hown, hts⟩ (mX10_peek l D cI cZ cB ad w σ32 r33 hr33) (cwV 0 hts gX10_readLabel_X10_peek rfl rfl rfl (by decide +kernel) ⟨Nat.le_of_ble_eq_true rfl, Nat.le_of_ble_eq_true rfl⟩) hK hP rfl rfl rfl rfl hl.1 rfl (Nat.le_of_ble_eq_true rfl) dX10_readLabel_207 ⟨Nat.zero_le _, Nat.zero_le _⟩ ?_
            refine W.eq (g2 := F0 m 210 ls [.int r33]) rfl ?_
            obtain ⟨r34, hr34, h⟩ := bd_e h
            refine cl_RS (rest := []) ⟨hx, hb, hml, hown, hts⟩ (mX10_isGreat l D cI cZ cB r33 r34 hr34) (va_cwS 1 hts gX10_readLabel_X10_isGreat rfl rfl rfl (by decide +kernel) ⟨Nat.le_of_ble_eq_true rfl, Nat.le_of_ble_eq_true rfl⟩) hK wd0_P rfl hl.1 rfl (Nat.le_of_ble_eq_true rfl) dX10_readLabel_210 ⟨Nat.zero_le _, Nat.zero_le _⟩ ?_
            refine W.eq (g2 := F0 m 213 ls [.int r34]) rfl ?_
            refine lv_if_ne (tgt := 226) hx hb dX10_readLabel_213 (by decide) (fun c35 => ?_) (fun c35 => ?_)
            · have h := ite_f c35 h
              exact n226 x2 x3 0 σ32 _ _ hP hD hS _ (lv_sub hl [1, 2, 3, 4, 0] rfl) h
            · have h := ite_t c35 h
              refine lv_aload_n hx hb dX10_readLabel_216 rfl (lv_at hl 1 rfl) ?_
              refine lv_iconst (v := 1) hx hb dX10_readLabel_217 (by decide) ?_
              refine lv_aload_n hx hb dX10_readLabel_218 rfl (lv_at hl 1 rfl) ?_
              refine va_get (ci := 8) (v := .int (σ32 0 4)) (C := RX10) (T := TX10) (N := 42) hx hb hts hinX10 hown hK hP 0 rfl rfl 4 (by decide) fl3 (fun _ h9 => h9) rfl dX10_readLabel_219 ?_
              obtain ⟨r36, hr36, h⟩ := bd_e h
              obtain ⟨σ37, eσ37, h⟩ := lt_e h
              refine cl_WVs (rest := []) (wn := (wdX10 cI cZ cB ad w σ37)) (ci := 8) (q0 := 0) ⟨hx, hb, hml, hown, hts⟩ (mX10_breaks l D cI cZ cB ad w σ32 H.size 1 (σ32 0 4) r36 hr36) (cwV 2 hts gX10_readLabel_X10_breaks rfl rfl rfl (by decide +kernel) ⟨Nat.le_of_ble_eq_true rfl, Nat.le_of_ble_eq_true rfl⟩) hK hP hD hS hA (by rw [eσ37]) rfl rfl rfl rfl rfl hl.1 rfl (Nat.le_of_ble_eq_true rfl) dX10_readLabel_222 ⟨Nat.zero_le _, Nat.zero_le _⟩ (fun H locs hP hD hS => ?_)
              refine W.eq (g2 := F0 m 225 ls [.int r36.1]) rfl ?_
              obtain ⟨hg38, h⟩ := gp_e h
              exact hR (some (.int r36.1)) (wdX10 cI cZ cB ad w σ37) _ _ _ _ (by rw [← Option.some.inj h]) (by rw [← Option.some.inj h]) (nb_of hg38) dX10_readLabel_225 hP hS
      · have h := ite_f c28 h
        refine lv_aload_n hx hb dX10_readLabel_166 rfl (lv_at hl 0 rfl) ?_
        refine va_get (ci := 8) (v := .ref (ad 17)) (C := RX10) (T := TX10) (N := 42) hx hb hts hinX10 hown hK hP 0 rfl rfl 30 (by decide) fl4 (fun _ h9 => h9) rfl dX10_readLabel_167 ?_
        refine lv_iload hx hb dX10_readLabel_170 (lv_at hl 4 rfl) ?_
        refine lv_iconst (v := 0) hx hb dX10_readLabel_172 (by decide) ?_
        obtain ⟨hin39, h⟩ := gd_e h
        obtain ⟨σ40, eσ40, h⟩ := lt_e h
        refine va_iast hx hb hK hP hD hS 17 0 rfl rfl hin39 dX10_readLabel_173 (fun H locs hP1 hD1 hS => ?_)
        have hP : va_P D vwCl (wdX10 cI cZ cB ad w σ40) H := by rw [eσ40]; exact hP1
        have hD : va_D A (wdX10 cI cZ cB ad w σ40) := D_of (by rfl) hD
        obtain ⟨x5_41, ex5_41, h⟩ := lt_e h
        refine lv_iinc (v := x5_41) (lv' := [(5, .int x5_41), (0, .ref (ad 0)), (1, .int a1), (2, .int x2), (3, .int x3)]) hx hb dX10_readLabel_174 hl (k := 4) rfl (by rw [ex5_41]; rfl) (by decide) rfl (fun ls hl => ?_)
        refine lv_goto (tgt := 160) hx hb dX10_readLabel_177 (by decide) ?_
        exact ih160 x2 x3 x5_41 σ40 _ _ hP hD hS _ (lv_sub hl [1, 2, 3, 4, 0] rfl) h
  have n31 : ∀ (n : Nat) (x2 : Int32) (x3 : Int32) (x4 : Int32) (σ : Mem) (H : Heap) (locs : List Loc), va_P D vwCl (wdX10 cI cZ cB ad w σ) H → va_D A (wdX10 cI cZ cB ad w σ) → va_S A s.heap H locs → ∀ (ls : Array Slot), lv_has ls 7 [(0, .ref (ad 0)), (1, .int a1), (2, .int x2), (3, .int x3), (4, .int x4)] → X10_readLabel_31 a1 n x2 x3 x4 σ = some res → W p l e rmX10_readLabel s m args below meth c H locs 0 0 Q (F0 m 31 ls []) := by
    intro n
    induction n with
    | zero =>
      intro x2 x3 x4 σ H locs hP hD hS ls hl h
      rw [X10_readLabel_31] at h
      cases h
    | succ n_31 ih31 =>
      have n143 : ∀ (x2 : Int32) (x4 : Int32) (y0 : Int32) (σ : Mem) (H : Heap) (locs : List Loc), va_P D vwCl (wdX10 cI cZ cB ad w σ) H → va_D A (wdX10 cI cZ cB ad w σ) → va_S A s.heap H locs → ∀ (ls : Array Slot), lv_has ls 7 [(0, .ref (ad 0)), (1, .int a1), (2, .int x2), (4, .int x4)] → X10_readLabel_143 a1 (X10_readLabel_31 a1 n_31) x2 x4 y0 σ = some res → W p l e rmX10_readLabel s m args below meth c H locs 0 0 Q (F0 m 143 ls [.int y0]) := by
        intro x2 x4 y0 σ H locs hP hD hS ls hl h
        rw [X10_readLabel_143] at h
        refine lv_istore_n (lv' := [(3, .int y0), (0, .ref (ad 0)), (1, .int a1), (2, .int x2), (4, .int x4)]) hx hb dX10_readLabel_143 rfl hl (by decide) rfl (fun ls hl => ?_)
        refine lv_aload_n hx hb dX10_readLabel_144 rfl (lv_at hl 1 rfl) ?_
        refine lv_dup hx hb dX10_readLabel_145 rfl ?_
        refine va_get (ci := 8) (v := .int (σ 0 4)) (C := RX10) (T := TX10) (N := 42) hx hb hts hinX10 hown hK hP 0 rfl rfl 4 (by decide) fl3 (fun _ h9 => h9) rfl dX10_readLabel_146 ?_
        refine lv_iconst (v := 1) hx hb dX10_readLabel_149 (by decide) ?_
        refine lv_iadd hx hb dX10_readLabel_150 ?_
        obtain ⟨σ42, eσ42, h⟩ := lt_e h
        refine va_put (ci := 8) (v := .int ((σ 0 4) + 1)) (ty := .int) (C := RX10) (T := TX10) (N := 42) hx hb hts hinX10 tyX10 tyX10_ok nmX10 hown hK hP hD hS 0 rfl rfl 4 (by decide) fl3 (fun _ h9 => h9) rfl (by decide +kernel) rfl rfl (Nat.le_of_ble_eq_true rfl) dX10_readLabel_151 (fun H locs hP1 hD1 hS => ?_)
        have hP : va_P D vwCl (wdX10 cI cZ cB ad w σ42) H := by rw [eσ42]; exact hP1
        have hD : va_D A (wdX10 cI cZ cB ad w σ42) := D_of (by rfl) hD
        refine lv_goto (tgt := 31) hx hb dX10_readLabel_154 (by decide) ?_
        exact ih31 x2 y0 x4 σ42 _ _ hP hD hS _ (lv_sub hl [1, 2, 3, 0, 4] rfl) h
      have n131 : ∀ (x2 : Int32) (x3 : Int32) (x4 : Int32) (σ : Mem) (H : Heap) (locs : List Loc), va_P D vwCl (wdX10 cI cZ cB ad w σ) H → va_D A (wdX10 cI cZ cB ad w σ) → va_S A s.heap H locs → ∀ (ls : Array Slot), lv_has ls 7 [(0, .ref (ad 0)), (1, .int a1), (2, .int x2), (3, .int x3), (4, .int x4)] → X10_readLabel_131 a1 (X10_readLabel_31 a1 n_31) x2 x3 x4 σ = some res → W p l e rmX10_readLabel s m args below meth c H locs 0 0 Q (F0 m 131 ls []) := by
        intro x2 x3 x4 σ H locs hP hD hS ls hl h
        rw [X10_readLabel_131] at h
        refine lv_iload_n hx hb dX10_readLabel_131 rfl (lv_at hl 3 rfl) ?_
        refine lv_ldc (v := 100000) hx hb hown fl6 dX10_readLabel_132 ?_
        refine lv_icmp_le (tgt := 142) hx hb dX10_readLabel_134 (by decide) (fun c43 => ?_) (fun c43 => ?_)
        · have h := ite_t c43 h
          refine lv_iload_n hx hb dX10_readLabel_142 rfl (lv_at hl 3 rfl) ?_
          exact n143 x2 x4 x3 σ _ _ hP hD hS _ (lv_sub hl [0, 1, 2, 4] rfl) h
        · have h := ite_f c43 h
          refine lv_ldc (v := 100000) hx hb hown fl6 dX10_readLabel_137 ?_
          refine lv_goto (tgt := 143) hx hb dX10_readLabel_139 (by decide) ?_
          exact n143 x2 x4 100000 σ _ _ hP hD hS _ (lv_sub hl [0, 1, 2, 4] rfl) h
      have n125 : ∀ (x2 : Int32) (x6 : Int32) (y0 : Int32) (y1 : Int32) (σ : Mem) (H : Heap) (locs : List Loc), va_P D vwCl (wdX10 cI cZ cB ad w σ) H → va_D A (wdX10 cI cZ cB ad w σ) → va_S A s.heap H locs → ∀ (ls : Array Slot), lv_has ls 7 [(0, .ref (ad 0)), (1, .int a1), (2, .int x2), (6, .int x6)] → X10_readLabel_125 a1 (X10_readLabel_31 a1 n_31) x2 x6 y0 y1 σ = some res → W p l e rmX10_readLabel s m args below meth c H locs 0 0 Q (F0 m 125 ls [.int y1, .int y0]) := by
        intro x2 x6 y0 y1 σ H locs hP hD hS ls hl h
        rw [X10_readLabel_125] at h
        refine lv_iadd hx hb dX10_readLabel_125 ?_
        obtain ⟨x3_44, ex3_44, h⟩ := lt_e h
        refine lv_topE ex3_44 ?_
        refine lv_istore_n (lv' := [(3, .int x3_44), (0, .ref (ad 0)), (1, .int a1), (2, .int x2), (6, .int x6)]) hx hb dX10_readLabel_126 rfl hl (by decide) rfl (fun ls hl => ?_)
        refine lv_iload hx hb dX10_readLabel_127 (lv_at hl 4 rfl) ?_
        refine lv_istore (lv' := [(4, .int x6), (3, .int x3_44), (0, .ref (ad 0)), (1, .int a1), (2, .int x2), (6, .int x6)]) hx hb dX10_readLabel_129 hl (by decide) rfl (fun ls hl => ?_)
        exact n131 x2 x3_44 x6 σ _ _ hP hD hS _ (lv_sub hl [2, 3, 4, 1, 0] rfl) h
      have n100 : ∀ (x2 : Int32) (x3 : Int32) (x4 : Int32) (y0 : Int32) (σ : Mem) (H : Heap) (locs : List Loc), va_P D vwCl (wdX10 cI cZ cB ad w σ) H → va_D A (wdX10 cI cZ cB ad w σ) → va_S A s.heap H locs → ∀ (ls : Array Slot), lv_has ls 7 [(0, .ref (ad 0)), (1, .int a1), (2, .int x2), (3, .int x3), (4, .int x4)] → X10_readLabel_100 a1 (X10_readLabel_31 a1 n_31) x2 x3 x4 y0 σ = some res → W p l e rmX10_readLabel s m args below meth c H locs 0 0 Q (F0 m 100 ls [.int y0]) := by
        intro x2 x3 x4 y0 σ H locs hP hD hS ls hl h
        rw [X10_readLabel_100] at h
        obtain ⟨r45, hr45, h⟩ := bd_e h
        refine cl_RS (rest := []) ⟨hx, hb, hml, hown, hts⟩ (mX10_romanWorth l D cI cZ cB y0 r45 hr45) (va_cwS 1 hts gX10_readLabel_X10_romanWorth rfl rfl rfl (by decide +kernel) ⟨Nat.le_of_ble_eq_true rfl, Nat.le_of_ble_eq_true rfl⟩) hK wd0_P rfl hl.1 rfl (Nat.le_of_ble_eq_true rfl) dX10_readLabel_100 ⟨Nat.zero_le _, Nat.zero_le _⟩ ?_
        refine W.eq (g2 := F0 m 103 ls [.int r45]) rfl ?_
        refine lv_istore (lv' := [(6, .int r45), (0, .ref (ad 0)), (1, .int a1), (2, .int x2), (3, .int x3), (4, .int x4)]) hx hb dX10_readLabel_103 hl (by decide) rfl (fun ls hl => ?_)
        refine lv_iload_n hx hb dX10_readLabel_105 rfl (lv_at hl 4 rfl) ?_
        refine lv_iload hx hb dX10_readLabel_106 (lv_at hl 5 rfl) ?_
        refine lv_iload hx hb dX10_readLabel_108 (lv_at hl 0 rfl) ?_
        refine lv_icmp_ge (tgt := 123) hx hb dX10_readLabel_110 (by decide) (fun c46 => ?_) (fun c46 => ?_)
        · have h := ite_t c46 h
          refine lv_iload hx hb dX10_readLabel_123 (lv_at hl 0 rfl) ?_
          exact n125 x2 r45 x3 r45 σ _ _ hP hD hS _ (lv_sub hl [1, 2, 3, 0] rfl) h
        · have h := ite_f c46 h
          refine lv_iload hx hb dX10_readLabel_113 (lv_at hl 0 rfl) ?_
          refine lv_iconst (v := 2) hx hb dX10_readLabel_115 (by decide) ?_
          refine lv_iload hx hb dX10_readLabel_116 (lv_at hl 5 rfl) ?_
          refine lv_imul hx hb dX10_readLabel_118 ?_
          refine lv_isub hx hb dX10_readLabel_119 ?_
          refine lv_goto (tgt := 125) hx hb dX10_readLabel_120 (by decide) ?_
          exact n125 x2 r45 x3 (r45 - (2 * x4)) σ _ _ hP hD hS _ (lv_sub hl [1, 2, 3, 0] rfl) h
      intro x2 x3 x4 σ H locs hP hD hS ls hl h
      rw [X10_readLabel_31] at h
      refine lv_aload_n hx hb dX10_readLabel_31 rfl (lv_at hl 0 rfl) ?_
      obtain ⟨r47, hr47, h⟩ := bd_e h
      refine cl_RV (rest := []) (ci := 8) (q0 := 0) ⟨hx, hb, hml, hown, hts⟩ (mX10_peek l D cI cZ cB ad w σ r47 hr47) (cwV 0 hts gX10_readLabel_X10_peek rfl rfl rfl (by decide +kernel) ⟨Nat.le_of_ble_eq_true rfl, Nat.le_of_ble_eq_true rfl⟩) hK hP rfl rfl rfl rfl hl.1 rfl (Nat.le_of_ble_eq_true rfl) dX10_readLabel_32 ⟨Nat.zero_le _, Nat.zero_le _⟩ ?_
      refine W.eq (g2 := F0 m 35 ls [.int r47]) rfl ?_
      refine lv_iload_n hx hb dX10_readLabel_35 rfl (lv_at hl 1 rfl) ?_
      obtain ⟨r48, hr48, h⟩ := bd_e h
      refine cl_RS (rest := []) ⟨hx, hb, hml, hown, hts⟩ (mX10_fitsForm l D cI cZ cB r47 a1 r48 hr48) (va_cwS 2 hts gX10_readLabel_X10_fitsForm rfl rfl rfl (by decide +kernel) ⟨Nat.le_of_ble_eq_true rfl, Nat.le_of_ble_eq_true rfl⟩) hK wd0_P rfl hl.1 rfl (Nat.le_of_ble_eq_true rfl) dX10_readLabel_36 ⟨Nat.zero_le _, Nat.zero_le _⟩ ?_
      refine W.eq (g2 := F0 m 39 ls [.int r48]) rfl ?_
      refine lv_if_eq (tgt := 157) hx hb dX10_readLabel_39 (by decide) (fun c49 => ?_) (fun c49 => ?_)
      · have h := ite_t c49 h
        refine lv_iconst (v := 0) hx hb dX10_readLabel_157 (by decide) ?_
        refine lv_istore (lv' := [(5, .int 0), (0, .ref (ad 0)), (1, .int a1), (2, .int x2), (3, .int x3), (4, .int x4)]) hx hb dX10_readLabel_158 hl (by decide) rfl (fun ls hl => ?_)
        exact n160 FU x2 x3 0 σ _ _ hP hD hS _ (lv_sub hl [1, 2, 3, 4, 0] rfl) h
      · have h := ite_f c49 h
        refine lv_aload_n hx hb dX10_readLabel_42 rfl (lv_at hl 0 rfl) ?_
        obtain ⟨r50, hr50, h⟩ := bd_e h
        refine cl_RV (rest := []) (ci := 8) (q0 := 0) ⟨hx, hb, hml, hown, hts⟩ (mX10_peek l D cI cZ cB ad w σ r50 hr50) (cwV 0 hts gX10_readLabel_X10_peek rfl rfl rfl (by decide +kernel) ⟨Nat.le_of_ble_eq_true rfl, Nat.le_of_ble_eq_true rfl⟩) hK hP rfl rfl rfl rfl hl.1 rfl (Nat.le_of_ble_eq_true rfl) dX10_readLabel_43 ⟨Nat.zero_le _, Nat.zero_le _⟩ ?_
        refine W.eq (g2 := F0 m 46 ls [.int r50]) rfl ?_
        refine lv_istore (lv' := [(5, .int r50), (0, .ref (ad 0)), (1, .int a1), (2, .int x2), (3, .int x3), (4, .int x4)]) hx hb dX10_readLabel_46 hl (by decide) rfl (fun ls hl => ?_)
        refine lv_iload_n hx hb dX10_readLabel_48 rfl (lv_at hl 2 rfl) ?_
        refine lv_if_ne (tgt := 66) hx hb dX10_readLabel_49 (by decide) (fun c51 => ?_) (fun c51 => ?_)
        · have h := ite_f c51 h
          refine lv_iload_n hx hb dX10_readLabel_66 rfl (lv_at hl 2 rfl) ?_
          refine lv_iconst (v := 2) hx hb dX10_readLabel_67 (by decide) ?_
          refine lv_icmp_ne (tgt := 85) hx hb dX10_readLabel_68 (by decide) (fun c52 => ?_) (fun c52 => ?_)
          · have h := ite_f c52 h
            refine lv_iload_n hx hb dX10_readLabel_85 rfl (lv_at hl 2 rfl) ?_
            refine lv_iconst (v := 3) hx hb dX10_readLabel_86 (by decide) ?_
            refine lv_icmp_ne (tgt := 98) hx hb dX10_readLabel_87 (by decide) (fun c53 => ?_) (fun c53 => ?_)
            · have h := ite_f c53 h
              refine lv_iload hx hb dX10_readLabel_98 (lv_at hl 0 rfl) ?_
              exact n100 x2 x3 x4 r50 σ _ _ hP hD hS _ (lv_sub hl [1, 2, 3, 4, 5] rfl) h
            · have h := ite_t c53 h
              refine lv_iload hx hb dX10_readLabel_90 (lv_at hl 0 rfl) ?_
              refine lv_bipush (v := 32) hx hb dX10_readLabel_92 (by decide) ?_
              refine lv_isub hx hb dX10_readLabel_94 ?_
              refine lv_goto (tgt := 100) hx hb dX10_readLabel_95 (by decide) ?_
              exact n100 x2 x3 x4 (r50 - 32) σ _ _ hP hD hS _ (lv_sub hl [1, 2, 3, 4, 5] rfl) h
          · have h := ite_t c52 h
            refine lv_bipush (v := 26) hx hb dX10_readLabel_71 (by decide) ?_
            refine lv_iload_n hx hb dX10_readLabel_73 rfl (lv_at hl 4 rfl) ?_
            refine lv_imul hx hb dX10_readLabel_74 ?_
            refine lv_iload hx hb dX10_readLabel_75 (lv_at hl 0 rfl) ?_
            refine lv_iadd hx hb dX10_readLabel_77 ?_
            refine lv_bipush (v := 96) hx hb dX10_readLabel_78 (by decide) ?_
            refine lv_isub hx hb dX10_readLabel_80 ?_
            obtain ⟨x3_54, ex3_54, h⟩ := lt_e h
            refine lv_topE ex3_54 ?_
            refine lv_istore_n (lv' := [(3, .int x3_54), (5, .int r50), (0, .ref (ad 0)), (1, .int a1), (2, .int x2), (4, .int x4)]) hx hb dX10_readLabel_81 rfl hl (by decide) rfl (fun ls hl => ?_)
            refine lv_goto (tgt := 131) hx hb dX10_readLabel_82 (by decide) ?_
            exact n131 x2 x3_54 x4 σ _ _ hP hD hS _ (lv_sub hl [2, 3, 4, 0, 5] rfl) h
        · have h := ite_t c51 h
          refine lv_bipush (v := 10) hx hb dX10_readLabel_52 (by decide) ?_
          refine lv_iload_n hx hb dX10_readLabel_54 rfl (lv_at hl 4 rfl) ?_
          refine lv_imul hx hb dX10_readLabel_55 ?_
          refine lv_iload hx hb dX10_readLabel_56 (lv_at hl 0 rfl) ?_
          refine lv_iadd hx hb dX10_readLabel_58 ?_
          refine lv_bipush (v := 48) hx hb dX10_readLabel_59 (by decide) ?_
          refine lv_isub hx hb dX10_readLabel_61 ?_
          obtain ⟨x3_55, ex3_55, h⟩ := lt_e h
          refine lv_topE ex3_55 ?_
          refine lv_istore_n (lv' := [(3, .int x3_55), (5, .int r50), (0, .ref (ad 0)), (1, .int a1), (2, .int x2), (4, .int x4)]) hx hb dX10_readLabel_62 rfl hl (by decide) rfl (fun ls hl => ?_)
          refine lv_goto (tgt := 131) hx hb dX10_readLabel_63 (by decide) ?_
          exact n131 x2 x3_55 x4 σ _ _ hP hD hS _ (lv_sub hl [2, 3, 4, 0, 5] rfl) h
  rw [X10_readLabel] at h
  have hS := hS
  refine lv_aload_n hx hb dX10_readLabel_0 rfl (lv_at hl 0 rfl) ?_
  refine va_get (ci := 8) (v := .int (σ 0 4)) (C := RX10) (T := TX10) (N := 42) hx hb hts hinX10 hown hK hP 0 rfl rfl 4 (by decide) fl3 (fun _ h9 => h9) rfl dX10_readLabel_1 ?_
  obtain ⟨x2_56, ex2_56, h⟩ := lt_e h
  refine lv_topE ex2_56 ?_
  refine lv_istore_n (lv' := [(2, .int x2_56), (0, .ref (ad 0)), (1, .int a1)]) hx hb dX10_readLabel_4 rfl hl (by decide) rfl (fun ls hl => ?_)
  refine lv_aload_n hx hb dX10_readLabel_5 rfl (lv_at hl 1 rfl) ?_
  obtain ⟨r57, hr57, h⟩ := bd_e h
  refine cl_RV (rest := []) (ci := 8) (q0 := 0) ⟨hx, hb, hml, hown, hts⟩ (mX10_peek l D cI cZ cB ad w σ r57 hr57) (cwV 0 hts gX10_readLabel_X10_peek rfl rfl rfl (by decide +kernel) ⟨Nat.le_of_ble_eq_true rfl, Nat.le_of_ble_eq_true rfl⟩) hK hP rfl rfl rfl rfl hl.1 rfl (Nat.le_of_ble_eq_true rfl) dX10_readLabel_6 ⟨Nat.zero_le _, Nat.zero_le _⟩ ?_
  refine W.eq (g2 := F0 m 9 ls [.int r57]) rfl ?_
  refine lv_iload_n hx hb dX10_readLabel_9 rfl (lv_at hl 2 rfl) ?_
  obtain ⟨r58, hr58, h⟩ := bd_e h
  refine cl_RS (rest := []) ⟨hx, hb, hml, hown, hts⟩ (mX10_fitsForm l D cI cZ cB r57 a1 r58 hr58) (va_cwS 2 hts gX10_readLabel_X10_fitsForm rfl rfl rfl (by decide +kernel) ⟨Nat.le_of_ble_eq_true rfl, Nat.le_of_ble_eq_true rfl⟩) hK wd0_P rfl hl.1 rfl (Nat.le_of_ble_eq_true rfl) dX10_readLabel_10 ⟨Nat.zero_le _, Nat.zero_le _⟩ ?_
  refine W.eq (g2 := F0 m 13 ls [.int r58]) rfl ?_
  refine lv_if_ne (tgt := 26) hx hb dX10_readLabel_13 (by decide) (fun c59 => ?_) (fun c59 => ?_)
  · have h := ite_f c59 h
    refine lv_iconst (v := 0) hx hb dX10_readLabel_26 (by decide) ?_
    refine lv_istore_n (lv' := [(3, .int 0), (2, .int x2_56), (0, .ref (ad 0)), (1, .int a1)]) hx hb dX10_readLabel_27 rfl hl (by decide) rfl (fun ls hl => ?_)
    refine lv_iconst (v := 0) hx hb dX10_readLabel_28 (by decide) ?_
    refine lv_istore (lv' := [(4, .int 0), (3, .int 0), (2, .int x2_56), (0, .ref (ad 0)), (1, .int a1)]) hx hb dX10_readLabel_29 hl (by decide) rfl (fun ls hl => ?_)
    exact n31 FU x2_56 0 0 σ _ _ hP hD hS _ (lv_sub hl [3, 4, 2, 1, 0] rfl) h
  · have h := ite_t c59 h
    refine lv_aload_n hx hb dX10_readLabel_16 rfl (lv_at hl 1 rfl) ?_
    refine lv_iconst (v := 1) hx hb dX10_readLabel_17 (by decide) ?_
    refine lv_aload_n hx hb dX10_readLabel_18 rfl (lv_at hl 1 rfl) ?_
    refine va_get (ci := 8) (v := .int (σ 0 4)) (C := RX10) (T := TX10) (N := 42) hx hb hts hinX10 hown hK hP 0 rfl rfl 4 (by decide) fl3 (fun _ h9 => h9) rfl dX10_readLabel_19 ?_
    obtain ⟨r60, hr60, h⟩ := bd_e h
    obtain ⟨σ61, eσ61, h⟩ := lt_e h
    refine cl_WVs (rest := []) (wn := (wdX10 cI cZ cB ad w σ61)) (ci := 8) (q0 := 0) ⟨hx, hb, hml, hown, hts⟩ (mX10_breaks l D cI cZ cB ad w σ s.heap.size 1 (σ 0 4) r60 hr60) (cwV 2 hts gX10_readLabel_X10_breaks rfl rfl rfl (by decide +kernel) ⟨Nat.le_of_ble_eq_true rfl, Nat.le_of_ble_eq_true rfl⟩) hK hP hD hS hA (by rw [eσ61]) rfl rfl rfl rfl rfl hl.1 rfl (Nat.le_of_ble_eq_true rfl) dX10_readLabel_22 ⟨Nat.zero_le _, Nat.zero_le _⟩ (fun H locs hP hD hS => ?_)
    refine W.eq (g2 := F0 m 25 ls [.int r60.1]) rfl ?_
    obtain ⟨hg62, h⟩ := gp_e h
    exact hR (some (.int r60.1)) (wdX10 cI cZ cB ad w σ61) _ _ _ _ (by rw [← Option.some.inj h]) (by rw [← Option.some.inj h]) (nb_of hg62) dX10_readLabel_25 hP hS
set_option maxHeartbeats 4000000 in
set_option maxRecDepth 100000 in
theorem mX10_readLabel (l : Launch) (D : va_G) (cI cZ cB : ClassId) (ad : Nat → Nat) (w : Int64) (σ : Mem) (sz : Nat) (a1 : Int32) (res : Int32 × Mem) (h : X10_readLabel a1 σ = some res) : Met l yX10_readLabel wsX10_readLabel rmX10_readLabel (pW D cI cZ cB (wdX10 cI cZ cB ad w σ) sz [.ref (ad 0), .int a1]) (qW D (some (.int res.1)) (wdX10 cI cZ cB ad w res.2) (va_A (wdX10 cI cZ cB ad w σ) sz)) 0 0 (va_A (wdX10 cI cZ cB ad w σ) sz) := (bX10_readLabel l D cI cZ cB ad w σ a1 res h).met (by decide +kernel) rfl (Nat.le_of_ble_eq_true rfl)
def rmX10_readCitation : Room := { frames := 5, cells := 0, slots := 0, locals := 121 }
set_option maxHeartbeats 4000000 in
set_option maxRecDepth 100000 in
theorem bX10_readCitation (l : Launch) (D : va_G) (cI cZ cB : ClassId) (ad : Nat → Nat) (w : Int64) (σ : Mem) (res : Int32 × Mem) (h : X10_readCitation σ = some res) : BW l yX10_readCitation wsX10_readCitation rmX10_readCitation cX10_readCitation 2 (some .int) D cI cZ cB (wdX10 cI cZ cB ad w σ) [.ref (ad 0)] (some (.int res.1)) (wdX10 cI cZ cB ad w res.2) := by
  intro p e s m args below meth c ls Q A hx hb hml hts hown hK hA hP hD hS hl0 hR
  have hinX10 : ∀ w ∈ u_ws RX10 TX10 42, w ∈ wsX10_readCitation := (fun _ h => List.mem_cons_of_mem _ (List.mem_append_right _ h))
  have fl1 := hts (.fieldLink RX10 99 "LawNumbererModel" "p" "I") (by decide +kernel)
  have fl2 := hts (.fieldLink RX10 13 "LawNumbererModel" "form" "[I") (by decide +kernel)
  have fl3 := hts (.fieldLink RX10 83 "LawNumbererModel" "wanted" "[I") (by decide +kernel)
  have fl4 := hts (.fieldLink RX10 256 "LawNumbererModel" "read" "I") (by decide +kernel)
  have fl5 := hts (.fieldLink RX10 96 "LawNumbererModel" "size" "I") (by decide +kernel)
  have fl6 := hts (.fieldLink RX10 27 "LawNumbererModel" "levels" "I") (by decide +kernel)
  have hl : lv_has ls 2 [(0, .ref (ad 0))] := hl0
  have n60 : ∀ (σ : Mem) (H : Heap) (locs : List Loc), va_P D vwCl (wdX10 cI cZ cB ad w σ) H → va_D A (wdX10 cI cZ cB ad w σ) → va_S A s.heap H locs → ∀ (ls : Array Slot), lv_has ls 2 [(0, .ref (ad 0))] → X10_readCitation_60 σ = some res → W p l e rmX10_readCitation s m args below meth c H locs 0 0 Q (F0 m 60 ls []) := by
    intro σ H locs hP hD hS ls hl h
    rw [X10_readCitation_60] at h
    refine lv_aload_n hx hb dX10_readCitation_60 rfl (lv_at hl 0 rfl) ?_
    refine lv_iconst (v := 1) hx hb dX10_readCitation_61 (by decide) ?_
    refine lv_aload_n hx hb dX10_readCitation_62 rfl (lv_at hl 0 rfl) ?_
    refine va_get (ci := 8) (v := .int (σ 0 4)) (C := RX10) (T := TX10) (N := 42) hx hb hts hinX10 hown hK hP 0 rfl rfl 4 (by decide) fl1 (fun _ h9 => h9) rfl dX10_readCitation_63 ?_
    obtain ⟨r1, hr1, h⟩ := bd_e h
    obtain ⟨σ2, eσ2, h⟩ := lt_e h
    refine cl_WVs (rest := []) (wn := (wdX10 cI cZ cB ad w σ2)) (ci := 8) (q0 := 0) ⟨hx, hb, hml, hown, hts⟩ (mX10_breaks l D cI cZ cB ad w σ H.size 1 (σ 0 4) r1 hr1) (cwV 2 hts gX10_readCitation_X10_breaks rfl rfl rfl (by decide +kernel) ⟨Nat.le_of_ble_eq_true rfl, Nat.le_of_ble_eq_true rfl⟩) hK hP hD hS hA (by rw [eσ2]) rfl rfl rfl rfl rfl hl.1 rfl (Nat.le_of_ble_eq_true rfl) dX10_readCitation_66 ⟨Nat.zero_le _, Nat.zero_le _⟩ (fun H locs hP hD hS => ?_)
    refine W.eq (g2 := F0 m 69 ls [.int r1.1]) rfl ?_
    refine lv_pop hx hb dX10_readCitation_69 rfl ?_
    refine lv_iconst (v := (-1)) hx hb dX10_readCitation_70 (by decide) ?_
    exact hR (some (.int (-1))) (wdX10 cI cZ cB ad w σ2) _ _ _ _ (by rw [← Option.some.inj h]) (by rw [← Option.some.inj h]) rfl dX10_readCitation_71 hP hS
  have n2 : ∀ (n : Nat) (x1 : Int32) (σ : Mem) (H : Heap) (locs : List Loc), va_P D vwCl (wdX10 cI cZ cB ad w σ) H → va_D A (wdX10 cI cZ cB ad w σ) → va_S A s.heap H locs → ∀ (ls : Array Slot), lv_has ls 2 [(0, .ref (ad 0)), (1, .int x1)] → X10_readCitation_2 n x1 σ = some res → W p l e rmX10_readCitation s m args below meth c H locs 0 0 Q (F0 m 2 ls []) := by
    intro n
    induction n with
    | zero =>
      intro x1 σ H locs hP hD hS ls hl h
      rw [X10_readCitation_2] at h
      cases h
    | succ n_2 ih2 =>
      intro x1 σ H locs hP hD hS ls hl h
      rw [X10_readCitation_2] at h
      refine lv_aload_n hx hb dX10_readCitation_2 rfl (lv_at hl 0 rfl) ?_
      refine lv_aload_n hx hb dX10_readCitation_3 rfl (lv_at hl 0 rfl) ?_
      refine va_get (ci := 8) (v := .ref (ad 2)) (C := RX10) (T := TX10) (N := 42) hx hb hts hinX10 hown hK hP 0 rfl rfl 5 (by decide) fl2 (fun _ h9 => h9) rfl dX10_readCitation_4 ?_
      refine lv_iload_n hx hb dX10_readCitation_7 rfl (lv_at hl 1 rfl) ?_
      obtain ⟨hin3, h⟩ := gd_e h
      refine va_iald hx hb hK hP 2 0 rfl rfl hin3 dX10_readCitation_8 ?_
      obtain ⟨r4, hr4, h⟩ := bd_e h
      obtain ⟨σ5, eσ5, h⟩ := lt_e h
      refine cl_WVs (rest := []) (wn := (wdX10 cI cZ cB ad w σ5)) (ci := 8) (q0 := 0) ⟨hx, hb, hml, hown, hts⟩ (mX10_readLabel l D cI cZ cB ad w σ H.size (σ 2 (Int32.toNatClampNeg x1)) r4 hr4) (cwV 1 hts gX10_readCitation_X10_readLabel rfl rfl rfl (by decide +kernel) ⟨Nat.le_of_ble_eq_true rfl, Nat.le_of_ble_eq_true rfl⟩) hK hP hD hS hA (by rw [eσ5]) rfl rfl rfl rfl rfl hl.1 rfl (Nat.le_of_ble_eq_true rfl) dX10_readCitation_9 ⟨Nat.zero_le _, Nat.zero_le _⟩ (fun H locs hP hD hS => ?_)
      refine W.eq (g2 := F0 m 12 ls [.int r4.1]) rfl ?_
      refine lv_if_ne (tgt := 17) hx hb dX10_readCitation_12 (by decide) (fun c6 => ?_) (fun c6 => ?_)
      · have h := ite_f c6 h
        refine lv_aload_n hx hb dX10_readCitation_17 rfl (lv_at hl 0 rfl) ?_
        refine va_get (ci := 8) (v := .ref (ad 22)) (C := RX10) (T := TX10) (N := 42) hx hb hts hinX10 hown hK hP 0 rfl rfl 39 (by decide) fl3 (fun _ h9 => h9) rfl dX10_readCitation_18 ?_
        refine lv_iload_n hx hb dX10_readCitation_21 rfl (lv_at hl 1 rfl) ?_
        refine lv_aload_n hx hb dX10_readCitation_22 rfl (lv_at hl 0 rfl) ?_
        refine va_get (ci := 8) (v := .int (σ5 0 35)) (C := RX10) (T := TX10) (N := 42) hx hb hts hinX10 hown hK hP 0 rfl rfl 35 (by decide) fl4 (fun _ h9 => h9) rfl dX10_readCitation_23 ?_
        obtain ⟨hin7, h⟩ := gd_e h
        obtain ⟨σ8, eσ8, h⟩ := lt_e h
        refine va_iast hx hb hK hP hD hS 22 0 rfl rfl hin7 dX10_readCitation_26 (fun H locs hP1 hD1 hS => ?_)
        have hP : va_P D vwCl (wdX10 cI cZ cB ad w σ8) H := by rw [eσ8]; exact hP1
        have hD : va_D A (wdX10 cI cZ cB ad w σ8) := D_of (by rfl) hD
        obtain ⟨x1_9, ex1_9, h⟩ := lt_e h
        refine lv_iinc (v := x1_9) (lv' := [(1, .int x1_9), (0, .ref (ad 0))]) hx hb dX10_readCitation_27 hl (k := 1) rfl (by rw [ex1_9]; rfl) (by decide) rfl (fun ls hl => ?_)
        refine lv_aload_n hx hb dX10_readCitation_30 rfl (lv_at hl 1 rfl) ?_
        refine va_get (ci := 8) (v := .int (σ8 0 4)) (C := RX10) (T := TX10) (N := 42) hx hb hts hinX10 hown hK hP 0 rfl rfl 4 (by decide) fl1 (fun _ h9 => h9) rfl dX10_readCitation_31 ?_
        refine lv_aload_n hx hb dX10_readCitation_34 rfl (lv_at hl 1 rfl) ?_
        refine va_get (ci := 8) (v := .int (σ8 0 3)) (C := RX10) (T := TX10) (N := 42) hx hb hts hinX10 hown hK hP 0 rfl rfl 3 (by decide) fl5 (fun _ h9 => h9) rfl dX10_readCitation_35 ?_
        refine lv_icmp_ne (tgt := 43) hx hb dX10_readCitation_38 (by decide) (fun c10 => ?_) (fun c10 => ?_)
        · have h := ite_f c10 h
          refine lv_aload_n hx hb dX10_readCitation_43 rfl (lv_at hl 1 rfl) ?_
          obtain ⟨r11, hr11, h⟩ := bd_e h
          refine cl_RV (rest := []) (ci := 8) (q0 := 0) ⟨hx, hb, hml, hown, hts⟩ (mX10_peek l D cI cZ cB ad w σ8 r11 hr11) (cwV 0 hts gX10_readCitation_X10_peek rfl rfl rfl (by decide +kernel) ⟨Nat.le_of_ble_eq_true rfl, Nat.le_of_ble_eq_true rfl⟩) hK hP rfl rfl rfl rfl hl.1 rfl (Nat.le_of_ble_eq_true rfl) dX10_readCitation_44 ⟨Nat.zero_le _, Nat.zero_le _⟩ ?_
          refine W.eq (g2 := F0 m 47 ls [.int r11]) rfl ?_
          refine lv_bipush (v := 46) hx hb dX10_readCitation_47 (by decide) ?_
          refine lv_icmp_ne (tgt := 60) hx hb dX10_readCitation_49 (by decide) (fun c12 => ?_) (fun c12 => ?_)
          · have h := ite_f c12 h
            exact n60 σ8 _ _ hP hD hS _ (lv_sub hl [1] rfl) h
          · have h := ite_t c12 h
            refine lv_iload_n hx hb dX10_readCitation_52 rfl (lv_at hl 0 rfl) ?_
            refine lv_aload_n hx hb dX10_readCitation_53 rfl (lv_at hl 1 rfl) ?_
            refine va_get (ci := 8) (v := .int (σ8 0 9)) (C := RX10) (T := TX10) (N := 42) hx hb hts hinX10 hown hK hP 0 rfl rfl 9 (by decide) fl6 (fun _ h9 => h9) rfl dX10_readCitation_54 ?_
            refine lv_icmp_ne (tgt := 72) hx hb dX10_readCitation_57 (by decide) (fun c13 => ?_) (fun c13 => ?_)
            · have h := ite_f c13 h
              refine lv_aload_n hx hb dX10_readCitation_72 rfl (lv_at hl 1 rfl) ?_
              refine lv_dup hx hb dX10_readCitation_73 rfl ?_
              refine va_get (ci := 8) (v := .int (σ8 0 4)) (C := RX10) (T := TX10) (N := 42) hx hb hts hinX10 hown hK hP 0 rfl rfl 4 (by decide) fl1 (fun _ h9 => h9) rfl dX10_readCitation_74 ?_
              refine lv_iconst (v := 1) hx hb dX10_readCitation_77 (by decide) ?_
              refine lv_iadd hx hb dX10_readCitation_78 ?_
              obtain ⟨σ14, eσ14, h⟩ := lt_e h
              refine va_put (ci := 8) (v := .int ((σ8 0 4) + 1)) (ty := .int) (C := RX10) (T := TX10) (N := 42) hx hb hts hinX10 tyX10 tyX10_ok nmX10 hown hK hP hD hS 0 rfl rfl 4 (by decide) fl1 (fun _ h9 => h9) rfl (by decide +kernel) rfl rfl (Nat.le_of_ble_eq_true rfl) dX10_readCitation_79 (fun H locs hP1 hD1 hS => ?_)
              have hP : va_P D vwCl (wdX10 cI cZ cB ad w σ14) H := by rw [eσ14]; exact hP1
              have hD : va_D A (wdX10 cI cZ cB ad w σ14) := D_of (by rfl) hD
              refine lv_goto (tgt := 2) hx hb dX10_readCitation_82 (by decide) ?_
              exact ih2 x1_9 σ14 _ _ hP hD hS _ (lv_sub hl [1, 0] rfl) h
            · have h := ite_t c13 h
              exact n60 σ8 _ _ hP hD hS _ (lv_sub hl [1] rfl) h
        · have h := ite_t c10 h
          refine lv_iload_n hx hb dX10_readCitation_41 rfl (lv_at hl 0 rfl) ?_
          exact hR (some (.int x1_9)) (wdX10 cI cZ cB ad w σ8) _ _ _ _ (by rw [← Option.some.inj h]) (by rw [← Option.some.inj h]) rfl dX10_readCitation_42 hP hS
      · have h := ite_t c6 h
        refine lv_iconst (v := (-1)) hx hb dX10_readCitation_15 (by decide) ?_
        exact hR (some (.int (-1))) (wdX10 cI cZ cB ad w σ5) _ _ _ _ (by rw [← Option.some.inj h]) (by rw [← Option.some.inj h]) rfl dX10_readCitation_16 hP hS
  rw [X10_readCitation] at h
  have hS := hS
  refine lv_iconst (v := 0) hx hb dX10_readCitation_0 (by decide) ?_
  refine lv_istore_n (lv' := [(1, .int 0), (0, .ref (ad 0))]) hx hb dX10_readCitation_1 rfl hl (by decide) rfl (fun ls hl => ?_)
  exact n2 FU 0 σ _ _ hP hD hS _ (lv_sub hl [1, 0] rfl) h
set_option maxHeartbeats 4000000 in
set_option maxRecDepth 100000 in
theorem mX10_readCitation (l : Launch) (D : va_G) (cI cZ cB : ClassId) (ad : Nat → Nat) (w : Int64) (σ : Mem) (sz : Nat) (res : Int32 × Mem) (h : X10_readCitation σ = some res) : Met l yX10_readCitation wsX10_readCitation rmX10_readCitation (pW D cI cZ cB (wdX10 cI cZ cB ad w σ) sz [.ref (ad 0)]) (qW D (some (.int res.1)) (wdX10 cI cZ cB ad w res.2) (va_A (wdX10 cI cZ cB ad w σ) sz)) 0 0 (va_A (wdX10 cI cZ cB ad w σ) sz) := (bX10_readCitation l D cI cZ cB ad w σ res h).met (by decide +kernel) rfl (Nat.le_of_ble_eq_true rfl)
def rmX10_cite : Room := { frames := 6, cells := 0, slots := 0, locals := 142 }
set_option maxHeartbeats 4000000 in
set_option maxRecDepth 100000 in
theorem bX10_cite (l : Launch) (D : va_G) (cI cZ cB : ClassId) (ad : Nat → Nat) (w : Int64) (σ : Mem) (a1 : Int32) (res : Int32 × Mem) (h : X10_cite a1 σ = some res) : BW l yX10_cite wsX10_cite rmX10_cite cX10_cite 8 (some .int) D cI cZ cB (wdX10 cI cZ cB ad w σ) [.ref (ad 0), .int a1] (some (.int res.1)) (wdX10 cI cZ cB ad w res.2) := by
  intro p e s m args below meth c ls Q A hx hb hml hts hown hK hA hP hD hS hl0 hR
  have hinX10 : ∀ w ∈ u_ws RX10 TX10 42, w ∈ wsX10_cite := (fun _ h => List.mem_cons_of_mem _ (List.mem_append_right _ h))
  have fl1 := hts (.fieldLink RX10 268 "LawNumbererModel" "bearers" "I") (by decide +kernel)
  have fl2 := hts (.fieldLink RX10 83 "LawNumbererModel" "wanted" "[I") (by decide +kernel)
  have fl3 := hts (.fieldLink RX10 157 "LawNumbererModel" "items" "I") (by decide +kernel)
  have fl4 := hts (.fieldLink RX10 43 "LawNumbererModel" "order" "[I") (by decide +kernel)
  have fl5 := hts (.fieldLink RX10 34 "LawNumbererModel" "level" "[I") (by decide +kernel)
  have fl6 := hts (.fieldLink RX10 86 "LawNumbererModel" "thrown" "I") (by decide +kernel)
  have fl7 := hts (.fieldLink RX10 102 "LawNumbererModel" "fault" "I") (by decide +kernel)
  have fl8 := hts (.fieldLink RX10 31 "LawNumbererModel" "place" "I") (by decide +kernel)
  have fl9 := hts (.fieldLink RX10 237 "LawNumbererModel" "kind" "I") (by decide +kernel)
  have fl10 := hts (.fieldLink RX10 240 "LawNumbererModel" "where" "I") (by decide +kernel)
  have hl : lv_has ls 8 [(0, .ref (ad 0)), (1, .int a1)] := hl0
  have n64 : ∀ (n : Nat) (x2 : Int32) (x3 : Int32) (x4 : Int32) (σ : Mem) (H : Heap) (locs : List Loc), va_P D vwCl (wdX10 cI cZ cB ad w σ) H → va_D A (wdX10 cI cZ cB ad w σ) → va_S A s.heap H locs → ∀ (ls : Array Slot), lv_has ls 8 [(0, .ref (ad 0)), (1, .int a1), (2, .int x2), (3, .int x3), (4, .int x4)] → X10_cite_64 a1 n x2 x3 x4 σ = some res → W p l e rmX10_cite s m args below meth c H locs 0 0 Q (F0 m 64 ls []) := by
    intro n
    induction n with
    | zero =>
      intro x2 x3 x4 σ H locs hP hD hS ls hl h
      rw [X10_cite_64] at h
      cases h
    | succ n_64 ih64 =>
      have n152 : ∀ (x2 : Int32) (x3 : Int32) (x4 : Int32) (x5 : Int32) (x6 : Int32) (σ : Mem) (H : Heap) (locs : List Loc), va_P D vwCl (wdX10 cI cZ cB ad w σ) H → va_D A (wdX10 cI cZ cB ad w σ) → va_S A s.heap H locs → ∀ (ls : Array Slot), lv_has ls 8 [(0, .ref (ad 0)), (1, .int a1), (2, .int x2), (3, .int x3), (4, .int x4), (5, .int x5), (6, .int x6)] → X10_cite_152 a1 (X10_cite_64 a1 n_64) x2 x3 x4 x5 x6 σ = some res → W p l e rmX10_cite s m args below meth c H locs 0 0 Q (F0 m 152 ls []) := by
        intro x2 x3 x4 x5 x6 σ H locs hP hD hS ls hl h
        rw [X10_cite_152] at h
        refine lv_iload hx hb dX10_cite_152 (lv_at hl 6 rfl) ?_
        refine lv_if_ne (tgt := 160) hx hb dX10_cite_154 (by decide) (fun c1 => ?_) (fun c1 => ?_)
        · have h := ite_f c1 h
          refine lv_aload_n hx hb dX10_cite_160 rfl (lv_at hl 0 rfl) ?_
          refine lv_dup hx hb dX10_cite_161 rfl ?_
          refine va_get (ci := 8) (v := .int (σ 0 40)) (C := RX10) (T := TX10) (N := 42) hx hb hts hinX10 hown hK hP 0 rfl rfl 40 (by decide) fl1 (fun _ h9 => h9) rfl dX10_cite_162 ?_
          refine lv_iconst (v := 1) hx hb dX10_cite_165 (by decide) ?_
          refine lv_iadd hx hb dX10_cite_166 ?_
          obtain ⟨σ2, eσ2, h⟩ := lt_e h
          refine va_put (ci := 8) (v := .int ((σ 0 40) + 1)) (ty := .int) (C := RX10) (T := TX10) (N := 42) hx hb hts hinX10 tyX10 tyX10_ok nmX10 hown hK hP hD hS 0 rfl rfl 40 (by decide) fl1 (fun _ h9 => h9) rfl (by decide +kernel) rfl rfl (Nat.le_of_ble_eq_true rfl) dX10_cite_167 (fun H locs hP1 hD1 hS => ?_)
          have hP : va_P D vwCl (wdX10 cI cZ cB ad w σ2) H := by rw [eσ2]; exact hP1
          have hD : va_D A (wdX10 cI cZ cB ad w σ2) := D_of (by rfl) hD
          refine lv_iload_n hx hb dX10_cite_170 rfl (lv_at hl 3 rfl) ?_
          refine lv_if_ge (tgt := 179) hx hb dX10_cite_171 (by decide) (fun c3 => ?_) (fun c3 => ?_)
          · have h := ite_t c3 h
            refine lv_iload_n hx hb dX10_cite_179 rfl (lv_at hl 3 rfl) ?_
            refine lv_istore_n (lv' := [(3, .int x3), (0, .ref (ad 0)), (1, .int a1), (2, .int x2), (4, .int x4), (5, .int x5), (6, .int x6)]) hx hb dX10_cite_180 rfl hl (by decide) rfl (fun ls hl => ?_)
            obtain ⟨x4_4, ex4_4, h⟩ := lt_e h
            refine lv_iinc (v := x4_4) (lv' := [(4, .int x4_4), (3, .int x3), (0, .ref (ad 0)), (1, .int a1), (2, .int x2), (5, .int x5), (6, .int x6)]) hx hb dX10_cite_181 hl (k := 4) rfl (by rw [ex4_4]; rfl) (by decide) rfl (fun ls hl => ?_)
            refine lv_goto (tgt := 64) hx hb dX10_cite_184 (by decide) ?_
            exact ih64 x2 x3 x4_4 σ2 _ _ hP hD hS _ (lv_sub hl [2, 3, 4, 1, 0] rfl) h
          · have h := ite_f c3 h
            refine lv_iload hx hb dX10_cite_174 (lv_at hl 5 rfl) ?_
            refine lv_goto (tgt := 180) hx hb dX10_cite_176 (by decide) ?_
            refine lv_istore_n (lv' := [(3, .int x5), (0, .ref (ad 0)), (1, .int a1), (2, .int x2), (4, .int x4), (5, .int x5), (6, .int x6)]) hx hb dX10_cite_180 rfl hl (by decide) rfl (fun ls hl => ?_)
            obtain ⟨x4_5, ex4_5, h⟩ := lt_e h
            refine lv_iinc (v := x4_5) (lv' := [(4, .int x4_5), (3, .int x5), (0, .ref (ad 0)), (1, .int a1), (2, .int x2), (5, .int x5), (6, .int x6)]) hx hb dX10_cite_181 hl (k := 4) rfl (by rw [ex4_5]; rfl) (by decide) rfl (fun ls hl => ?_)
            refine lv_goto (tgt := 64) hx hb dX10_cite_184 (by decide) ?_
            exact ih64 x2 x5 x4_5 σ2 _ _ hP hD hS _ (lv_sub hl [2, 3, 4, 1, 0] rfl) h
        · have h := ite_t c1 h
          refine lv_goto (tgt := 181) hx hb dX10_cite_157 (by decide) ?_
          obtain ⟨x4_6, ex4_6, h⟩ := lt_e h
          refine lv_iinc (v := x4_6) (lv' := [(4, .int x4_6), (0, .ref (ad 0)), (1, .int a1), (2, .int x2), (3, .int x3), (5, .int x5), (6, .int x6)]) hx hb dX10_cite_181 hl (k := 4) rfl (by rw [ex4_6]; rfl) (by decide) rfl (fun ls hl => ?_)
          refine lv_goto (tgt := 64) hx hb dX10_cite_184 (by decide) ?_
          exact ih64 x2 x3 x4_6 σ _ _ hP hD hS _ (lv_sub hl [1, 2, 3, 4, 0] rfl) h
      have n105 : ∀ (n : Nat) (x2 : Int32) (x3 : Int32) (x4 : Int32) (x5 : Int32) (x6 : Int32) (x7 : Int32) (σ : Mem) (H : Heap) (locs : List Loc), va_P D vwCl (wdX10 cI cZ cB ad w σ) H → va_D A (wdX10 cI cZ cB ad w σ) → va_S A s.heap H locs → ∀ (ls : Array Slot), lv_has ls 8 [(0, .ref (ad 0)), (1, .int a1), (2, .int x2), (3, .int x3), (4, .int x4), (5, .int x5), (6, .int x6), (7, .int x7)] → X10_cite_105 a1 (X10_cite_64 a1 n_64) n x2 x3 x4 x5 x6 x7 σ = some res → W p l e rmX10_cite s m args below meth c H locs 0 0 Q (F0 m 105 ls []) := by
        intro n
        induction n with
        | zero =>
          intro x2 x3 x4 x5 x6 x7 σ H locs hP hD hS ls hl h
          rw [X10_cite_105] at h
          cases h
        | succ n_105 ih105 =>
          intro x2 x3 x4 x5 x6 x7 σ H locs hP hD hS ls hl h
          rw [X10_cite_105] at h
          refine lv_iload hx hb dX10_cite_105 (lv_at hl 7 rfl) ?_
          refine lv_iload_n hx hb dX10_cite_107 rfl (lv_at hl 2 rfl) ?_
          refine lv_icmp_ge (tgt := 152) hx hb dX10_cite_108 (by decide) (fun c7 => ?_) (fun c7 => ?_)
          · have h := ite_t c7 h
            exact n152 x2 x3 x4 x5 x6 σ _ _ hP hD hS _ (lv_sub hl [0, 1, 2, 3, 4, 5, 6] rfl) h
          · have h := ite_f c7 h
            refine lv_iload hx hb dX10_cite_111 (lv_at hl 6 rfl) ?_
            refine lv_if_eq (tgt := 152) hx hb dX10_cite_113 (by decide) (fun c8 => ?_) (fun c8 => ?_)
            · have h := ite_t c8 h
              exact n152 x2 x3 x4 x5 x6 σ _ _ hP hD hS _ (lv_sub hl [0, 1, 2, 3, 4, 5, 6] rfl) h
            · have h := ite_f c8 h
              refine lv_aload_n hx hb dX10_cite_116 rfl (lv_at hl 0 rfl) ?_
              refine lv_aload_n hx hb dX10_cite_117 rfl (lv_at hl 0 rfl) ?_
              refine lv_iload hx hb dX10_cite_118 (lv_at hl 5 rfl) ?_
              refine lv_iload hx hb dX10_cite_120 (lv_at hl 7 rfl) ?_
              obtain ⟨r9, hr9, h⟩ := bd_e h
              refine cl_RV (rest := [.ref (ad 0)]) (ci := 8) (q0 := 0) ⟨hx, hb, hml, hown, hts⟩ (mX10_over l D cI cZ cB ad w σ x5 x7 r9 hr9) (cwV 2 hts gX10_cite_X10_over rfl rfl rfl (by decide +kernel) ⟨Nat.le_of_ble_eq_true rfl, Nat.le_of_ble_eq_true rfl⟩) hK hP rfl rfl rfl rfl hl.1 rfl (Nat.le_of_ble_eq_true rfl) dX10_cite_122 ⟨Nat.zero_le _, Nat.zero_le _⟩ ?_
              refine W.eq (g2 := F0 m 125 ls [.int r9, .ref (ad 0)]) rfl ?_
              refine lv_iload_n hx hb dX10_cite_125 rfl (lv_at hl 1 rfl) ?_
              obtain ⟨r10, hr10, h⟩ := bd_e h
              refine cl_RV (rest := []) (ci := 8) (q0 := 0) ⟨hx, hb, hml, hown, hts⟩ (mX10_labelOf l D cI cZ cB ad w σ r9 a1 r10 hr10) (cwV 2 hts gX10_cite_X10_labelOf rfl rfl rfl (by decide +kernel) ⟨Nat.le_of_ble_eq_true rfl, Nat.le_of_ble_eq_true rfl⟩) hK hP rfl rfl rfl rfl hl.1 rfl (Nat.le_of_ble_eq_true rfl) dX10_cite_126 ⟨Nat.zero_le _, Nat.zero_le _⟩ ?_
              refine W.eq (g2 := F0 m 129 ls [.int r10]) rfl ?_
              refine lv_aload_n hx hb dX10_cite_129 rfl (lv_at hl 0 rfl) ?_
              refine va_get (ci := 8) (v := .ref (ad 22)) (C := RX10) (T := TX10) (N := 42) hx hb hts hinX10 hown hK hP 0 rfl rfl 39 (by decide) fl2 (fun _ h9 => h9) rfl dX10_cite_130 ?_
              refine lv_iload hx hb dX10_cite_133 (lv_at hl 7 rfl) ?_
              obtain ⟨hin11, h⟩ := gd_e h
              refine va_iald hx hb hK hP 22 0 rfl rfl hin11 dX10_cite_135 ?_
              refine lv_icmp_ne (tgt := 143) hx hb dX10_cite_136 (by decide) (fun c12 => ?_) (fun c12 => ?_)
              · have h := ite_f c12 h
                refine lv_iconst (v := 0) hx hb dX10_cite_143 (by decide) ?_
                refine lv_istore (lv' := [(6, .int 0), (0, .ref (ad 0)), (1, .int a1), (2, .int x2), (3, .int x3), (4, .int x4), (5, .int x5), (7, .int x7)]) hx hb dX10_cite_144 hl (by decide) rfl (fun ls hl => ?_)
                obtain ⟨x7_13, ex7_13, h⟩ := lt_e h
                refine lv_iinc (v := x7_13) (lv' := [(7, .int x7_13), (6, .int 0), (0, .ref (ad 0)), (1, .int a1), (2, .int x2), (3, .int x3), (4, .int x4), (5, .int x5)]) hx hb dX10_cite_146 hl (k := 7) rfl (by rw [ex7_13]; rfl) (by decide) rfl (fun ls hl => ?_)
                refine lv_goto (tgt := 105) hx hb dX10_cite_149 (by decide) ?_
                exact ih105 x2 x3 x4 x5 0 x7_13 σ _ _ hP hD hS _ (lv_sub hl [2, 3, 4, 5, 6, 7, 1, 0] rfl) h
              · have h := ite_t c12 h
                refine lv_iconst (v := 1) hx hb dX10_cite_139 (by decide) ?_
                refine lv_goto (tgt := 144) hx hb dX10_cite_140 (by decide) ?_
                refine lv_istore (lv' := [(6, .int 1), (0, .ref (ad 0)), (1, .int a1), (2, .int x2), (3, .int x3), (4, .int x4), (5, .int x5), (7, .int x7)]) hx hb dX10_cite_144 hl (by decide) rfl (fun ls hl => ?_)
                obtain ⟨x7_14, ex7_14, h⟩ := lt_e h
                refine lv_iinc (v := x7_14) (lv' := [(7, .int x7_14), (6, .int 1), (0, .ref (ad 0)), (1, .int a1), (2, .int x2), (3, .int x3), (4, .int x4), (5, .int x5)]) hx hb dX10_cite_146 hl (k := 7) rfl (by rw [ex7_14]; rfl) (by decide) rfl (fun ls hl => ?_)
                refine lv_goto (tgt := 105) hx hb dX10_cite_149 (by decide) ?_
                exact ih105 x2 x3 x4 x5 1 x7_14 σ _ _ hP hD hS _ (lv_sub hl [2, 3, 4, 5, 6, 7, 1, 0] rfl) h
      intro x2 x3 x4 σ H locs hP hD hS ls hl h
      rw [X10_cite_64] at h
      refine lv_iload hx hb dX10_cite_64 (lv_at hl 4 rfl) ?_
      refine lv_aload_n hx hb dX10_cite_66 rfl (lv_at hl 0 rfl) ?_
      refine va_get (ci := 8) (v := .int (σ 0 21)) (C := RX10) (T := TX10) (N := 42) hx hb hts hinX10 hown hK hP 0 rfl rfl 21 (by decide) fl3 (fun _ h9 => h9) rfl dX10_cite_67 ?_
      refine lv_icmp_ge (tgt := 187) hx hb dX10_cite_70 (by decide) (fun c15 => ?_) (fun c15 => ?_)
      · have h := ite_t c15 h
        refine lv_iload_n hx hb dX10_cite_187 rfl (lv_at hl 3 rfl) ?_
        exact hR (some (.int x3)) (wdX10 cI cZ cB ad w σ) _ _ _ _ (by rw [← Option.some.inj h]) (by rw [← Option.some.inj h]) rfl dX10_cite_188 hP hS
      · have h := ite_f c15 h
        refine lv_aload_n hx hb dX10_cite_73 rfl (lv_at hl 0 rfl) ?_
        refine va_get (ci := 8) (v := .ref (ad 9)) (C := RX10) (T := TX10) (N := 42) hx hb hts hinX10 hown hK hP 0 rfl rfl 19 (by decide) fl4 (fun _ h9 => h9) rfl dX10_cite_74 ?_
        refine lv_iload hx hb dX10_cite_77 (lv_at hl 4 rfl) ?_
        obtain ⟨hin16, h⟩ := gd_e h
        refine va_iald hx hb hK hP 9 0 rfl rfl hin16 dX10_cite_79 ?_
        obtain ⟨x5_17, ex5_17, h⟩ := lt_e h
        refine lv_topE ex5_17 ?_
        refine lv_istore (lv' := [(5, .int x5_17), (0, .ref (ad 0)), (1, .int a1), (2, .int x2), (3, .int x3), (4, .int x4)]) hx hb dX10_cite_80 hl (by decide) rfl (fun ls hl => ?_)
        refine lv_aload_n hx hb dX10_cite_82 rfl (lv_at hl 1 rfl) ?_
        refine va_get (ci := 8) (v := .ref (ad 6)) (C := RX10) (T := TX10) (N := 42) hx hb hts hinX10 hown hK hP 0 rfl rfl 16 (by decide) fl5 (fun _ h9 => h9) rfl dX10_cite_83 ?_
        refine lv_iload hx hb dX10_cite_86 (lv_at hl 0 rfl) ?_
        obtain ⟨hin18, h⟩ := gd_e h
        refine va_iald hx hb hK hP 6 0 rfl rfl hin18 dX10_cite_88 ?_
        refine lv_iload_n hx hb dX10_cite_89 rfl (lv_at hl 3 rfl) ?_
        refine lv_iconst (v := 1) hx hb dX10_cite_90 (by decide) ?_
        refine lv_isub hx hb dX10_cite_91 ?_
        refine lv_icmp_ne (tgt := 99) hx hb dX10_cite_92 (by decide) (fun c19 => ?_) (fun c19 => ?_)
        · have h := ite_f c19 h
          refine lv_iconst (v := 0) hx hb dX10_cite_99 (by decide) ?_
          refine lv_istore (lv' := [(6, .int 0), (5, .int x5_17), (0, .ref (ad 0)), (1, .int a1), (2, .int x2), (3, .int x3), (4, .int x4)]) hx hb dX10_cite_100 hl (by decide) rfl (fun ls hl => ?_)
          refine lv_iconst (v := 0) hx hb dX10_cite_102 (by decide) ?_
          refine lv_istore (lv' := [(7, .int 0), (6, .int 0), (5, .int x5_17), (0, .ref (ad 0)), (1, .int a1), (2, .int x2), (3, .int x3), (4, .int x4)]) hx hb dX10_cite_103 hl (by decide) rfl (fun ls hl => ?_)
          exact n105 FU x2 x3 x4 x5_17 0 0 σ _ _ hP hD hS _ (lv_sub hl [3, 4, 5, 6, 7, 2, 1, 0] rfl) h
        · have h := ite_t c19 h
          refine lv_iconst (v := 1) hx hb dX10_cite_95 (by decide) ?_
          refine lv_goto (tgt := 100) hx hb dX10_cite_96 (by decide) ?_
          refine lv_istore (lv' := [(6, .int 1), (5, .int x5_17), (0, .ref (ad 0)), (1, .int a1), (2, .int x2), (3, .int x3), (4, .int x4)]) hx hb dX10_cite_100 hl (by decide) rfl (fun ls hl => ?_)
          refine lv_iconst (v := 0) hx hb dX10_cite_102 (by decide) ?_
          refine lv_istore (lv' := [(7, .int 0), (6, .int 1), (5, .int x5_17), (0, .ref (ad 0)), (1, .int a1), (2, .int x2), (3, .int x3), (4, .int x4)]) hx hb dX10_cite_103 hl (by decide) rfl (fun ls hl => ?_)
          exact n105 FU x2 x3 x4 x5_17 1 0 σ _ _ hP hD hS _ (lv_sub hl [3, 4, 5, 6, 7, 2, 1, 0] rfl) h
  rw [X10_cite] at h
  have hS := hS
  refine lv_aload_n hx hb dX10_cite_0 rfl (lv_at hl 0 rfl) ?_
  refine lv_iconst (v := 0) hx hb dX10_cite_1 (by decide) ?_
  obtain ⟨σ20, eσ20, h⟩ := lt_e h
  refine va_put (ci := 8) (v := .int 0) (ty := .int) (C := RX10) (T := TX10) (N := 42) hx hb hts hinX10 tyX10 tyX10_ok nmX10 hown hK hP hD hS 0 rfl rfl 0 (by decide) fl6 (fun _ h9 => h9) rfl (by decide +kernel) rfl rfl (Nat.le_of_ble_eq_true rfl) dX10_cite_2 (fun H locs hP1 hD1 hS => ?_)
  have hP : va_P D vwCl (wdX10 cI cZ cB ad w σ20) H := by rw [eσ20]; exact hP1
  have hD : va_D A (wdX10 cI cZ cB ad w σ20) := D_of (by rfl) hD
  refine lv_aload_n hx hb dX10_cite_5 rfl (lv_at hl 0 rfl) ?_
  obtain ⟨r21, hr21, h⟩ := bd_e h
  obtain ⟨σ22, eσ22, h⟩ := lt_e h
  refine cl_WVs (rest := []) (wn := (wdX10 cI cZ cB ad w σ22)) (ci := 8) (q0 := 0) ⟨hx, hb, hml, hown, hts⟩ (mX10_taken l D cI cZ cB ad w σ20 H.size r21 hr21) (cwV 0 hts gX10_cite_X10_taken rfl rfl rfl (by decide +kernel) ⟨Nat.le_of_ble_eq_true rfl, Nat.le_of_ble_eq_true rfl⟩) hK hP hD hS hA (by rw [eσ22]) rfl rfl rfl rfl rfl hl.1 rfl (Nat.le_of_ble_eq_true rfl) dX10_cite_6 ⟨Nat.zero_le _, Nat.zero_le _⟩ (fun H locs hP hD hS => ?_)
  refine W.eq (g2 := F0 m 9 ls []) rfl ?_
  refine lv_aload_n hx hb dX10_cite_9 rfl (lv_at hl 0 rfl) ?_
  refine lv_iconst (v := 0) hx hb dX10_cite_10 (by decide) ?_
  obtain ⟨σ23, eσ23, h⟩ := lt_e h
  refine va_put (ci := 8) (v := .int 0) (ty := .int) (C := RX10) (T := TX10) (N := 42) hx hb hts hinX10 tyX10 tyX10_ok nmX10 hown hK hP hD hS 0 rfl rfl 12 (by decide) fl7 (fun _ h9 => h9) rfl (by decide +kernel) rfl rfl (Nat.le_of_ble_eq_true rfl) dX10_cite_11 (fun H locs hP1 hD1 hS => ?_)
  have hP : va_P D vwCl (wdX10 cI cZ cB ad w σ23) H := by rw [eσ23]; exact hP1
  have hD : va_D A (wdX10 cI cZ cB ad w σ23) := D_of (by rfl) hD
  refine lv_aload_n hx hb dX10_cite_14 rfl (lv_at hl 0 rfl) ?_
  refine lv_iconst (v := (-1)) hx hb dX10_cite_15 (by decide) ?_
  obtain ⟨σ24, eσ24, h⟩ := lt_e h
  refine va_put (ci := 8) (v := .int (-1)) (ty := .int) (C := RX10) (T := TX10) (N := 42) hx hb hts hinX10 tyX10 tyX10_ok nmX10 hown hK hP hD hS 0 rfl rfl 13 (by decide) fl8 (fun _ h9 => h9) rfl (by decide +kernel) rfl rfl (Nat.le_of_ble_eq_true rfl) dX10_cite_16 (fun H locs hP1 hD1 hS => ?_)
  have hP : va_P D vwCl (wdX10 cI cZ cB ad w σ24) H := by rw [eσ24]; exact hP1
  have hD : va_D A (wdX10 cI cZ cB ad w σ24) := D_of (by rfl) hD
  refine lv_iload_n hx hb dX10_cite_19 rfl (lv_at hl 1 rfl) ?_
  refine lv_if_ge (tgt := 26) hx hb dX10_cite_20 (by decide) (fun c25 => ?_) (fun c25 => ?_)
  · have h := ite_t c25 h
    refine lv_aload_n hx hb dX10_cite_26 rfl (lv_at hl 0 rfl) ?_
    obtain ⟨r26, hr26, h⟩ := bd_e h
    obtain ⟨σ27, eσ27, h⟩ := lt_e h
    refine cl_WVs (rest := []) (wn := (wdX10 cI cZ cB ad w σ27)) (ci := 8) (q0 := 0) ⟨hx, hb, hml, hown, hts⟩ (mX10_readCitation l D cI cZ cB ad w σ24 H.size r26 hr26) (cwV 0 hts gX10_cite_X10_readCitation rfl rfl rfl (by decide +kernel) ⟨Nat.le_of_ble_eq_true rfl, Nat.le_of_ble_eq_true rfl⟩) hK hP hD hS hA (by rw [eσ27]) rfl rfl rfl rfl rfl hl.1 rfl (Nat.le_of_ble_eq_true rfl) dX10_cite_27 ⟨Nat.zero_le _, Nat.zero_le _⟩ (fun H locs hP hD hS => ?_)
    refine W.eq (g2 := F0 m 30 ls [.int r26.1]) rfl ?_
    obtain ⟨x2_28, ex2_28, h⟩ := lt_e h
    refine lv_topE ex2_28 ?_
    refine lv_istore_n (lv' := [(2, .int x2_28), (0, .ref (ad 0)), (1, .int a1)]) hx hb dX10_cite_30 rfl hl (by decide) rfl (fun ls hl => ?_)
    refine lv_iload_n hx hb dX10_cite_31 rfl (lv_at hl 0 rfl) ?_
    refine lv_if_ge (tgt := 54) hx hb dX10_cite_32 (by decide) (fun c29 => ?_) (fun c29 => ?_)
    · have h := ite_t c29 h
      refine lv_aload_n hx hb dX10_cite_54 rfl (lv_at hl 1 rfl) ?_
      refine lv_iconst (v := 0) hx hb dX10_cite_55 (by decide) ?_
      obtain ⟨σ30, eσ30, h⟩ := lt_e h
      refine va_put (ci := 8) (v := .int 0) (ty := .int) (C := RX10) (T := TX10) (N := 42) hx hb hts hinX10 tyX10 tyX10_ok nmX10 hown hK hP hD hS 0 rfl rfl 40 (by decide) fl1 (fun _ h9 => h9) rfl (by decide +kernel) rfl rfl (Nat.le_of_ble_eq_true rfl) dX10_cite_56 (fun H locs hP1 hD1 hS => ?_)
      have hP : va_P D vwCl (wdX10 cI cZ cB ad w σ30) H := by rw [eσ30]; exact hP1
      have hD : va_D A (wdX10 cI cZ cB ad w σ30) := D_of (by rfl) hD
      refine lv_iconst (v := (-1)) hx hb dX10_cite_59 (by decide) ?_
      refine lv_istore_n (lv' := [(3, .int (-1)), (2, .int x2_28), (0, .ref (ad 0)), (1, .int a1)]) hx hb dX10_cite_60 rfl hl (by decide) rfl (fun ls hl => ?_)
      refine lv_iconst (v := 0) hx hb dX10_cite_61 (by decide) ?_
      refine lv_istore (lv' := [(4, .int 0), (3, .int (-1)), (2, .int x2_28), (0, .ref (ad 0)), (1, .int a1)]) hx hb dX10_cite_62 hl (by decide) rfl (fun ls hl => ?_)
      exact n64 FU x2_28 (-1) 0 σ30 _ _ hP hD hS _ (lv_sub hl [3, 4, 2, 1, 0] rfl) h
    · have h := ite_f c29 h
      refine lv_aload_n hx hb dX10_cite_35 rfl (lv_at hl 1 rfl) ?_
      refine lv_aload_n hx hb dX10_cite_36 rfl (lv_at hl 1 rfl) ?_
      refine va_get (ci := 8) (v := .int (σ27 0 36)) (C := RX10) (T := TX10) (N := 42) hx hb hts hinX10 hown hK hP 0 rfl rfl 36 (by decide) fl9 (fun _ h9 => h9) rfl dX10_cite_37 ?_
      obtain ⟨σ31, eσ31, h⟩ := lt_e h
      refine va_put (ci := 8) (v := .int (σ27 0 36)) (ty := .int) (C := RX10) (T := TX10) (N := 42) hx hb hts hinX10 tyX10 tyX10_ok nmX10 hown hK hP hD hS 0 rfl rfl 12 (by decide) fl7 (fun _ h9 => h9) rfl (by decide +kernel) rfl rfl (Nat.le_of_ble_eq_true rfl) dX10_cite_40 (fun H locs hP1 hD1 hS => ?_)
      have hP : va_P D vwCl (wdX10 cI cZ cB ad w σ31) H := by rw [eσ31]; exact hP1
      have hD : va_D A (wdX10 cI cZ cB ad w σ31) := D_of (by rfl) hD
      refine lv_aload_n hx hb dX10_cite_43 rfl (lv_at hl 1 rfl) ?_
      refine lv_aload_n hx hb dX10_cite_44 rfl (lv_at hl 1 rfl) ?_
      refine va_get (ci := 8) (v := .int (σ31 0 37)) (C := RX10) (T := TX10) (N := 42) hx hb hts hinX10 hown hK hP 0 rfl rfl 37 (by decide) fl10 (fun _ h9 => h9) rfl dX10_cite_45 ?_
      obtain ⟨σ32, eσ32, h⟩ := lt_e h
      refine va_put (ci := 8) (v := .int (σ31 0 37)) (ty := .int) (C := RX10) (T := TX10) (N := 42) hx hb hts hinX10 tyX10 tyX10_ok nmX10 hown hK hP hD hS 0 rfl rfl 13 (by decide) fl8 (fun _ h9 => h9) rfl (by decide +kernel) rfl rfl (Nat.le_of_ble_eq_true rfl) dX10_cite_48 (fun H locs hP1 hD1 hS => ?_)
      have hP : va_P D vwCl (wdX10 cI cZ cB ad w σ32) H := by rw [eσ32]; exact hP1
      have hD : va_D A (wdX10 cI cZ cB ad w σ32) := D_of (by rfl) hD
      refine lv_bipush (v := (-2)) hx hb dX10_cite_51 (by decide) ?_
      exact hR (some (.int (-2))) (wdX10 cI cZ cB ad w σ32) _ _ _ _ (by rw [← Option.some.inj h]) (by rw [← Option.some.inj h]) rfl dX10_cite_53 hP hS
  · have h := ite_f c25 h
    refine lv_bipush (v := (-3)) hx hb dX10_cite_23 (by decide) ?_
    exact hR (some (.int (-3))) (wdX10 cI cZ cB ad w σ24) _ _ _ _ (by rw [← Option.some.inj h]) (by rw [← Option.some.inj h]) rfl dX10_cite_25 hP hS
set_option maxHeartbeats 4000000 in
set_option maxRecDepth 100000 in
theorem mX10_cite (l : Launch) (D : va_G) (cI cZ cB : ClassId) (ad : Nat → Nat) (w : Int64) (σ : Mem) (sz : Nat) (a1 : Int32) (res : Int32 × Mem) (h : X10_cite a1 σ = some res) : Met l yX10_cite wsX10_cite rmX10_cite (pW D cI cZ cB (wdX10 cI cZ cB ad w σ) sz [.ref (ad 0), .int a1]) (qW D (some (.int res.1)) (wdX10 cI cZ cB ad w res.2) (va_A (wdX10 cI cZ cB ad w σ) sz)) 0 0 (va_A (wdX10 cI cZ cB ad w σ) sz) := (bX10_cite l D cI cZ cB ad w σ a1 res h).met (by decide +kernel) rfl (Nat.le_of_ble_eq_true rfl)
def rmX10_bearers : Room := { frames := 0, cells := 0, slots := 0, locals := 0 }
set_option maxHeartbeats 4000000 in
set_option maxRecDepth 100000 in
theorem bX10_bearers (l : Launch) (D : va_G) (cI cZ cB : ClassId) (ad : Nat → Nat) (w : Int64) (σ : Mem) (res : Int32 × Mem) (h : X10_bearers σ = some res) : BW l yX10_bearers wsX10_bearers rmX10_bearers cX10_bearers 1 (some .int) D cI cZ cB (wdX10 cI cZ cB ad w σ) [.ref (ad 0)] (some (.int res.1)) (wdX10 cI cZ cB ad w res.2) := by
  intro p e s m args below meth c ls Q A hx hb hml hts hown hK hA hP hD hS hl0 hR
  have hinX10 : ∀ w ∈ u_ws RX10 TX10 42, w ∈ wsX10_bearers := (fun _ h => List.mem_cons_of_mem _ (List.mem_append_right _ h))
  have fl1 := hts (.fieldLink RX10 86 "LawNumbererModel" "thrown" "I") (by decide +kernel)
  have fl2 := hts (.fieldLink RX10 268 "LawNumbererModel" "bearers" "I") (by decide +kernel)
  have hl : lv_has ls 1 [(0, .ref (ad 0))] := hl0
  rw [X10_bearers] at h
  have hS := hS
  refine lv_aload_n hx hb dX10_bearers_0 rfl (lv_at hl 0 rfl) ?_
  refine lv_iconst (v := 0) hx hb dX10_bearers_1 (by decide) ?_
  obtain ⟨σ1, eσ1, h⟩ := lt_e h
  refine va_put (ci := 8) (v := .int 0) (ty := .int) (C := RX10) (T := TX10) (N := 42) hx hb hts hinX10 tyX10 tyX10_ok nmX10 hown hK hP hD hS 0 rfl rfl 0 (by decide) fl1 (fun _ h9 => h9) rfl (by decide +kernel) rfl rfl (Nat.le_of_ble_eq_true rfl) dX10_bearers_2 (fun H locs hP1 hD1 hS => ?_)
  have hP : va_P D vwCl (wdX10 cI cZ cB ad w σ1) H := by rw [eσ1]; exact hP1
  have hD : va_D A (wdX10 cI cZ cB ad w σ1) := D_of (by rfl) hD
  refine lv_aload_n hx hb dX10_bearers_5 rfl (lv_at hl 0 rfl) ?_
  refine va_get (ci := 8) (v := .int (σ1 0 40)) (C := RX10) (T := TX10) (N := 42) hx hb hts hinX10 hown hK hP 0 rfl rfl 40 (by decide) fl2 (fun _ h9 => h9) rfl dX10_bearers_6 ?_
  exact hR (some (.int (σ1 0 40))) (wdX10 cI cZ cB ad w σ1) _ _ _ _ (by rw [← Option.some.inj h]) (by rw [← Option.some.inj h]) rfl dX10_bearers_9 hP hS
set_option maxHeartbeats 4000000 in
set_option maxRecDepth 100000 in
theorem mX10_bearers (l : Launch) (D : va_G) (cI cZ cB : ClassId) (ad : Nat → Nat) (w : Int64) (σ : Mem) (sz : Nat) (res : Int32 × Mem) (h : X10_bearers σ = some res) : Met l yX10_bearers wsX10_bearers rmX10_bearers (pW D cI cZ cB (wdX10 cI cZ cB ad w σ) sz [.ref (ad 0)]) (qW D (some (.int res.1)) (wdX10 cI cZ cB ad w res.2) (va_A (wdX10 cI cZ cB ad w σ) sz)) 0 0 (va_A (wdX10 cI cZ cB ad w σ) sz) := (bX10_bearers l D cI cZ cB ad w σ res h).met (by decide +kernel) rfl (Nat.le_of_ble_eq_true rfl)
def rmX10_read : Room := { frames := 5, cells := 0, slots := 0, locals := 121 }
set_option maxHeartbeats 4000000 in
set_option maxRecDepth 100000 in
theorem bX10_read (l : Launch) (D : va_G) (cI cZ cB : ClassId) (ad : Nat → Nat) (w : Int64) (σ : Mem) (a1 : Int32) (res : Int32 × Mem) (h : X10_read a1 σ = some res) : BW l yX10_read wsX10_read rmX10_read cX10_read 3 (some .int) D cI cZ cB (wdX10 cI cZ cB ad w σ) [.ref (ad 0), .int a1] (some (.int res.1)) (wdX10 cI cZ cB ad w res.2) := by
  intro p e s m args below meth c ls Q A hx hb hml hts hown hK hA hP hD hS hl0 hR
  have hinX10 : ∀ w ∈ u_ws RX10 TX10 42, w ∈ wsX10_read := (fun _ h => List.mem_cons_of_mem _ (List.mem_append_right _ h))
  have fl1 := hts (.fieldLink RX10 256 "LawNumbererModel" "read" "I") (by decide +kernel)
  have fl2 := hts (.constant RX10 173 (531441)) (by decide +kernel)
  have fl3 := hts (.fieldLink RX10 271 "LawNumbererModel" "suffix" "I") (by decide +kernel)
  have fl4 := hts (.fieldLink RX10 86 "LawNumbererModel" "thrown" "I") (by decide +kernel)
  have fl5 := hts (.fieldLink RX10 99 "LawNumbererModel" "p" "I") (by decide +kernel)
  have fl6 := hts (.fieldLink RX10 96 "LawNumbererModel" "size" "I") (by decide +kernel)
  have hl : lv_has ls 3 [(0, .ref (ad 0)), (1, .int a1)] := hl0
  have n46 : ∀ (n : Nat) (x2 : Int32) (σ : Mem) (H : Heap) (locs : List Loc), va_P D vwCl (wdX10 cI cZ cB ad w σ) H → va_D A (wdX10 cI cZ cB ad w σ) → va_S A s.heap H locs → ∀ (ls : Array Slot), lv_has ls 3 [(0, .ref (ad 0)), (2, .int x2)] → X10_read_46 a1 n x2 σ = some res → W p l e rmX10_read s m args below meth c H locs 0 0 Q (F0 m 46 ls []) := by
    intro n
    induction n with
    | zero =>
      intro x2 σ H locs hP hD hS ls hl h
      rw [X10_read_46] at h
      cases h
    | succ n_46 ih46 =>
      intro x2 σ H locs hP hD hS ls hl h
      rw [X10_read_46] at h
      refine lv_iload_n hx hb dX10_read_46 rfl (lv_at hl 1 rfl) ?_
      refine lv_aload_n hx hb dX10_read_47 rfl (lv_at hl 0 rfl) ?_
      refine va_get (ci := 8) (v := .int (σ 0 35)) (C := RX10) (T := TX10) (N := 42) hx hb hts hinX10 hown hK hP 0 rfl rfl 35 (by decide) fl1 (fun _ h9 => h9) rfl dX10_read_48 ?_
      refine lv_ldc (v := 531441) hx hb hown fl2 dX10_read_51 ?_
      refine lv_irem hx hb dX10_read_53 (by decide) ?_
      obtain ⟨r1, hr1, h⟩ := bd_e h
      refine cl_RS (rest := [.int x2]) ⟨hx, hb, hml, hown, hts⟩ (mX10_lettersOf l D cI cZ cB ((σ 0 35) - (σ 0 35) / 531441 * 531441) r1 hr1) (va_cwS 1 hts gX10_read_X10_lettersOf rfl rfl rfl (by decide +kernel) ⟨Nat.le_of_ble_eq_true rfl, Nat.le_of_ble_eq_true rfl⟩) hK wd0_P rfl hl.1 rfl (Nat.le_of_ble_eq_true rfl) dX10_read_54 ⟨Nat.zero_le _, Nat.zero_le _⟩ ?_
      refine W.eq (g2 := F0 m 57 ls [.int r1, .int x2]) rfl ?_
      refine lv_icmp_ge (tgt := 92) hx hb dX10_read_57 (by decide) (fun c2 => ?_) (fun c2 => ?_)
      · have h := ite_t c2 h
        refine lv_aload_n hx hb dX10_read_92 rfl (lv_at hl 0 rfl) ?_
        refine va_get (ci := 8) (v := .int (σ 0 35)) (C := RX10) (T := TX10) (N := 42) hx hb hts hinX10 hown hK hP 0 rfl rfl 35 (by decide) fl1 (fun _ h9 => h9) rfl dX10_read_93 ?_
        refine lv_ldc (v := 531441) hx hb hown fl2 dX10_read_96 ?_
        refine lv_idiv hx hb dX10_read_98 (by decide) ?_
        exact hR (some (.int ((σ 0 35) / 531441))) (wdX10 cI cZ cB ad w σ) _ _ _ _ (by rw [← Option.some.inj h]) (by rw [← Option.some.inj h]) rfl dX10_read_99 hP hS
      · have h := ite_f c2 h
        refine lv_aload_n hx hb dX10_read_60 rfl (lv_at hl 0 rfl) ?_
        refine lv_aload_n hx hb dX10_read_61 rfl (lv_at hl 0 rfl) ?_
        refine va_get (ci := 8) (v := .int (σ 0 41)) (C := RX10) (T := TX10) (N := 42) hx hb hts hinX10 hown hK hP 0 rfl rfl 41 (by decide) fl3 (fun _ h9 => h9) rfl dX10_read_62 ?_
        refine lv_bipush (v := 8) hx hb dX10_read_65 (by decide) ?_
        refine lv_ishl hx hb dX10_read_67 ?_
        refine lv_bipush (v := 64) hx hb dX10_read_68 (by decide) ?_
        refine lv_aload_n hx hb dX10_read_70 rfl (lv_at hl 0 rfl) ?_
        refine va_get (ci := 8) (v := .int (σ 0 35)) (C := RX10) (T := TX10) (N := 42) hx hb hts hinX10 hown hK hP 0 rfl rfl 35 (by decide) fl1 (fun _ h9 => h9) rfl dX10_read_71 ?_
        refine lv_ldc (v := 531441) hx hb hown fl2 dX10_read_74 ?_
        refine lv_irem hx hb dX10_read_76 (by decide) ?_
        refine lv_iload_n hx hb dX10_read_77 rfl (lv_at hl 1 rfl) ?_
        obtain ⟨r3, hr3, h⟩ := bd_e h
        refine cl_RS (rest := [.int 64, .int ((σ 0 41) <<< (8 &&& 31)), .ref (ad 0)]) ⟨hx, hb, hml, hown, hts⟩ (mX10_letterAt l D cI cZ cB ((σ 0 35) - (σ 0 35) / 531441 * 531441) x2 r3 hr3) (va_cwS 2 hts gX10_read_X10_letterAt rfl rfl rfl (by decide +kernel) ⟨Nat.le_of_ble_eq_true rfl, Nat.le_of_ble_eq_true rfl⟩) hK wd0_P rfl hl.1 rfl (Nat.le_of_ble_eq_true rfl) dX10_read_78 ⟨Nat.zero_le _, Nat.zero_le _⟩ ?_
        refine W.eq (g2 := F0 m 81 ls [.int r3, .int 64, .int ((σ 0 41) <<< (8 &&& 31)), .ref (ad 0)]) rfl ?_
        refine lv_iadd hx hb dX10_read_81 ?_
        refine lv_ior hx hb dX10_read_82 ?_
        obtain ⟨σ4, eσ4, h⟩ := lt_e h
        refine va_put (ci := 8) (v := .int (((σ 0 41) <<< (8 &&& 31)) ||| (64 + r3))) (ty := .int) (C := RX10) (T := TX10) (N := 42) hx hb hts hinX10 tyX10 tyX10_ok nmX10 hown hK hP hD hS 0 rfl rfl 41 (by decide) fl3 (fun _ h9 => h9) rfl (by decide +kernel) rfl rfl (Nat.le_of_ble_eq_true rfl) dX10_read_83 (fun H locs hP1 hD1 hS => ?_)
        have hP : va_P D vwCl (wdX10 cI cZ cB ad w σ4) H := by rw [eσ4]; exact hP1
        have hD : va_D A (wdX10 cI cZ cB ad w σ4) := D_of (by rfl) hD
        obtain ⟨x2_5, ex2_5, h⟩ := lt_e h
        refine lv_iinc (v := x2_5) (lv' := [(2, .int x2_5), (0, .ref (ad 0))]) hx hb dX10_read_86 hl (k := 1) rfl (by rw [ex2_5]; rfl) (by decide) rfl (fun ls hl => ?_)
        refine lv_goto (tgt := 46) hx hb dX10_read_89 (by decide) ?_
        exact ih46 x2_5 σ4 _ _ hP hD hS _ (lv_sub hl [1, 0] rfl) h
  rw [X10_read] at h
  have hS := hS
  refine lv_aload_n hx hb dX10_read_0 rfl (lv_at hl 0 rfl) ?_
  refine lv_iconst (v := 0) hx hb dX10_read_1 (by decide) ?_
  obtain ⟨σ6, eσ6, h⟩ := lt_e h
  refine va_put (ci := 8) (v := .int 0) (ty := .int) (C := RX10) (T := TX10) (N := 42) hx hb hts hinX10 tyX10 tyX10_ok nmX10 hown hK hP hD hS 0 rfl rfl 0 (by decide) fl4 (fun _ h9 => h9) rfl (by decide +kernel) rfl rfl (Nat.le_of_ble_eq_true rfl) dX10_read_2 (fun H locs hP1 hD1 hS => ?_)
  have hP : va_P D vwCl (wdX10 cI cZ cB ad w σ6) H := by rw [eσ6]; exact hP1
  have hD : va_D A (wdX10 cI cZ cB ad w σ6) := D_of (by rfl) hD
  refine lv_aload_n hx hb dX10_read_5 rfl (lv_at hl 0 rfl) ?_
  obtain ⟨r7, hr7, h⟩ := bd_e h
  obtain ⟨σ8, eσ8, h⟩ := lt_e h
  refine cl_WVs (rest := []) (wn := (wdX10 cI cZ cB ad w σ8)) (ci := 8) (q0 := 0) ⟨hx, hb, hml, hown, hts⟩ (mX10_taken l D cI cZ cB ad w σ6 H.size r7 hr7) (cwV 0 hts gX10_read_X10_taken rfl rfl rfl (by decide +kernel) ⟨Nat.le_of_ble_eq_true rfl, Nat.le_of_ble_eq_true rfl⟩) hK hP hD hS hA (by rw [eσ8]) rfl rfl rfl rfl rfl hl.1 rfl (Nat.le_of_ble_eq_true rfl) dX10_read_6 ⟨Nat.zero_le _, Nat.zero_le _⟩ (fun H locs hP hD hS => ?_)
  refine W.eq (g2 := F0 m 9 ls []) rfl ?_
  refine lv_iload_n hx hb dX10_read_9 rfl (lv_at hl 1 rfl) ?_
  refine lv_if_lt (tgt := 37) hx hb dX10_read_10 (by decide) (fun c9 => ?_) (fun c9 => ?_)
  · have h := ite_t c9 h
    refine lv_iconst (v := (-1)) hx hb dX10_read_37 (by decide) ?_
    exact hR (some (.int (-1))) (wdX10 cI cZ cB ad w σ8) _ _ _ _ (by rw [← Option.some.inj h]) (by rw [← Option.some.inj h]) rfl dX10_read_38 hP hS
  · have h := ite_f c9 h
    refine lv_iload_n hx hb dX10_read_13 rfl (lv_at hl 1 rfl) ?_
    refine lv_iconst (v := 3) hx hb dX10_read_14 (by decide) ?_
    refine lv_icmp_gt (tgt := 37) hx hb dX10_read_15 (by decide) (fun c10 => ?_) (fun c10 => ?_)
    · have h := ite_t c10 h
      refine lv_iconst (v := (-1)) hx hb dX10_read_37 (by decide) ?_
      exact hR (some (.int (-1))) (wdX10 cI cZ cB ad w σ8) _ _ _ _ (by rw [← Option.some.inj h]) (by rw [← Option.some.inj h]) rfl dX10_read_38 hP hS
    · have h := ite_f c10 h
      refine lv_aload_n hx hb dX10_read_18 rfl (lv_at hl 0 rfl) ?_
      refine lv_iload_n hx hb dX10_read_19 rfl (lv_at hl 1 rfl) ?_
      obtain ⟨r11, hr11, h⟩ := bd_e h
      obtain ⟨σ12, eσ12, h⟩ := lt_e h
      refine cl_WVs (rest := []) (wn := (wdX10 cI cZ cB ad w σ12)) (ci := 8) (q0 := 0) ⟨hx, hb, hml, hown, hts⟩ (mX10_readLabel l D cI cZ cB ad w σ8 H.size a1 r11 hr11) (cwV 1 hts gX10_read_X10_readLabel rfl rfl rfl (by decide +kernel) ⟨Nat.le_of_ble_eq_true rfl, Nat.le_of_ble_eq_true rfl⟩) hK hP hD hS hA (by rw [eσ12]) rfl rfl rfl rfl rfl hl.1 rfl (Nat.le_of_ble_eq_true rfl) dX10_read_20 ⟨Nat.zero_le _, Nat.zero_le _⟩ (fun H locs hP hD hS => ?_)
      refine W.eq (g2 := F0 m 23 ls [.int r11.1]) rfl ?_
      refine lv_if_eq (tgt := 37) hx hb dX10_read_23 (by decide) (fun c13 => ?_) (fun c13 => ?_)
      · have h := ite_t c13 h
        refine lv_iconst (v := (-1)) hx hb dX10_read_37 (by decide) ?_
        exact hR (some (.int (-1))) (wdX10 cI cZ cB ad w σ12) _ _ _ _ (by rw [← Option.some.inj h]) (by rw [← Option.some.inj h]) rfl dX10_read_38 hP hS
      · have h := ite_f c13 h
        refine lv_aload_n hx hb dX10_read_26 rfl (lv_at hl 0 rfl) ?_
        refine va_get (ci := 8) (v := .int (σ12 0 4)) (C := RX10) (T := TX10) (N := 42) hx hb hts hinX10 hown hK hP 0 rfl rfl 4 (by decide) fl5 (fun _ h9 => h9) rfl dX10_read_27 ?_
        refine lv_aload_n hx hb dX10_read_30 rfl (lv_at hl 0 rfl) ?_
        refine va_get (ci := 8) (v := .int (σ12 0 3)) (C := RX10) (T := TX10) (N := 42) hx hb hts hinX10 hown hK hP 0 rfl rfl 3 (by decide) fl6 (fun _ h9 => h9) rfl dX10_read_31 ?_
        refine lv_icmp_eq (tgt := 39) hx hb dX10_read_34 (by decide) (fun c14 => ?_) (fun c14 => ?_)
        · have h := ite_t c14 h
          refine lv_aload_n hx hb dX10_read_39 rfl (lv_at hl 0 rfl) ?_
          refine lv_iconst (v := 0) hx hb dX10_read_40 (by decide) ?_
          obtain ⟨σ15, eσ15, h⟩ := lt_e h
          refine va_put (ci := 8) (v := .int 0) (ty := .int) (C := RX10) (T := TX10) (N := 42) hx hb hts hinX10 tyX10 tyX10_ok nmX10 hown hK hP hD hS 0 rfl rfl 41 (by decide) fl3 (fun _ h9 => h9) rfl (by decide +kernel) rfl rfl (Nat.le_of_ble_eq_true rfl) dX10_read_41 (fun H locs hP1 hD1 hS => ?_)
          have hP : va_P D vwCl (wdX10 cI cZ cB ad w σ15) H := by rw [eσ15]; exact hP1
          have hD : va_D A (wdX10 cI cZ cB ad w σ15) := D_of (by rfl) hD
          refine lv_iconst (v := 0) hx hb dX10_read_44 (by decide) ?_
          refine lv_istore_n (lv' := [(2, .int 0), (0, .ref (ad 0)), (1, .int a1)]) hx hb dX10_read_45 rfl hl (by decide) rfl (fun ls hl => ?_)
          exact n46 FU 0 σ15 _ _ hP hD hS _ (lv_sub hl [1, 0] rfl) h
        · have h := ite_f c14 h
          refine lv_iconst (v := (-1)) hx hb dX10_read_37 (by decide) ?_
          exact hR (some (.int (-1))) (wdX10 cI cZ cB ad w σ12) _ _ _ _ (by rw [← Option.some.inj h]) (by rw [← Option.some.inj h]) rfl dX10_read_38 hP hS
set_option maxHeartbeats 4000000 in
set_option maxRecDepth 100000 in
theorem mX10_read (l : Launch) (D : va_G) (cI cZ cB : ClassId) (ad : Nat → Nat) (w : Int64) (σ : Mem) (sz : Nat) (a1 : Int32) (res : Int32 × Mem) (h : X10_read a1 σ = some res) : Met l yX10_read wsX10_read rmX10_read (pW D cI cZ cB (wdX10 cI cZ cB ad w σ) sz [.ref (ad 0), .int a1]) (qW D (some (.int res.1)) (wdX10 cI cZ cB ad w res.2) (va_A (wdX10 cI cZ cB ad w σ) sz)) 0 0 (va_A (wdX10 cI cZ cB ad w σ) sz) := (bX10_read l D cI cZ cB ad w σ a1 res h).met (by decide +kernel) rfl (Nat.le_of_ble_eq_true rfl)
def rmX10_suffix : Room := { frames := 0, cells := 0, slots := 0, locals := 0 }
set_option maxHeartbeats 4000000 in
set_option maxRecDepth 100000 in
theorem bX10_suffix (l : Launch) (D : va_G) (cI cZ cB : ClassId) (ad : Nat → Nat) (w : Int64) (σ : Mem) (res : Int32 × Mem) (h : X10_suffix σ = some res) : BW l yX10_suffix wsX10_suffix rmX10_suffix cX10_suffix 1 (some .int) D cI cZ cB (wdX10 cI cZ cB ad w σ) [.ref (ad 0)] (some (.int res.1)) (wdX10 cI cZ cB ad w res.2) := by
  intro p e s m args below meth c ls Q A hx hb hml hts hown hK hA hP hD hS hl0 hR
  have hinX10 : ∀ w ∈ u_ws RX10 TX10 42, w ∈ wsX10_suffix := (fun _ h => List.mem_cons_of_mem _ (List.mem_append_right _ h))
  have fl1 := hts (.fieldLink RX10 86 "LawNumbererModel" "thrown" "I") (by decide +kernel)
  have fl2 := hts (.fieldLink RX10 271 "LawNumbererModel" "suffix" "I") (by decide +kernel)
  have hl : lv_has ls 1 [(0, .ref (ad 0))] := hl0
  rw [X10_suffix] at h
  have hS := hS
  refine lv_aload_n hx hb dX10_suffix_0 rfl (lv_at hl 0 rfl) ?_
  refine lv_iconst (v := 0) hx hb dX10_suffix_1 (by decide) ?_
  obtain ⟨σ1, eσ1, h⟩ := lt_e h
  refine va_put (ci := 8) (v := .int 0) (ty := .int) (C := RX10) (T := TX10) (N := 42) hx hb hts hinX10 tyX10 tyX10_ok nmX10 hown hK hP hD hS 0 rfl rfl 0 (by decide) fl1 (fun _ h9 => h9) rfl (by decide +kernel) rfl rfl (Nat.le_of_ble_eq_true rfl) dX10_suffix_2 (fun H locs hP1 hD1 hS => ?_)
  have hP : va_P D vwCl (wdX10 cI cZ cB ad w σ1) H := by rw [eσ1]; exact hP1
  have hD : va_D A (wdX10 cI cZ cB ad w σ1) := D_of (by rfl) hD
  refine lv_aload_n hx hb dX10_suffix_5 rfl (lv_at hl 0 rfl) ?_
  refine va_get (ci := 8) (v := .int (σ1 0 41)) (C := RX10) (T := TX10) (N := 42) hx hb hts hinX10 hown hK hP 0 rfl rfl 41 (by decide) fl2 (fun _ h9 => h9) rfl dX10_suffix_6 ?_
  exact hR (some (.int (σ1 0 41))) (wdX10 cI cZ cB ad w σ1) _ _ _ _ (by rw [← Option.some.inj h]) (by rw [← Option.some.inj h]) rfl dX10_suffix_9 hP hS
set_option maxHeartbeats 4000000 in
set_option maxRecDepth 100000 in
theorem mX10_suffix (l : Launch) (D : va_G) (cI cZ cB : ClassId) (ad : Nat → Nat) (w : Int64) (σ : Mem) (sz : Nat) (res : Int32 × Mem) (h : X10_suffix σ = some res) : Met l yX10_suffix wsX10_suffix rmX10_suffix (pW D cI cZ cB (wdX10 cI cZ cB ad w σ) sz [.ref (ad 0)]) (qW D (some (.int res.1)) (wdX10 cI cZ cB ad w res.2) (va_A (wdX10 cI cZ cB ad w σ) sz)) 0 0 (va_A (wdX10 cI cZ cB ad w σ) sz) := (bX10_suffix l D cI cZ cB ad w σ res h).met (by decide +kernel) rfl (Nat.le_of_ble_eq_true rfl)
def rmX10_clash : Room := { frames := 1, cells := 0, slots := 0, locals := 23 }
set_option maxHeartbeats 4000000 in
set_option maxRecDepth 100000 in
theorem bX10_clash (l : Launch) (D : va_G) (cI cZ cB : ClassId) (ad : Nat → Nat) (w : Int64) (σ : Mem) (res : Int32 × Mem) (h : X10_clash σ = some res) : BW l yX10_clash wsX10_clash rmX10_clash cX10_clash 6 (some .int) D cI cZ cB (wdX10 cI cZ cB ad w σ) [.ref (ad 0)] (some (.int res.1)) (wdX10 cI cZ cB ad w res.2) := by
  intro p e s m args below meth c ls Q A hx hb hml hts hown hK hA hP hD hS hl0 hR
  have hinX10 : ∀ w ∈ u_ws RX10 TX10 42, w ∈ wsX10_clash := (fun _ h => List.mem_cons_of_mem _ (List.mem_append_right _ h))
  have fl1 := hts (.fieldLink RX10 43 "LawNumbererModel" "order" "[I") (by decide +kernel)
  have fl2 := hts (.fieldLink RX10 166 "LawNumbererModel" "day" "I") (by decide +kernel)
  have fl3 := hts (.fieldLink RX10 157 "LawNumbererModel" "items" "I") (by decide +kernel)
  have fl4 := hts (.fieldLink RX10 86 "LawNumbererModel" "thrown" "I") (by decide +kernel)
  have hl : lv_has ls 6 [(0, .ref (ad 0))] := hl0
  have n7 : ∀ (n : Nat) (x1 : Int32) (σ : Mem) (H : Heap) (locs : List Loc), va_P D vwCl (wdX10 cI cZ cB ad w σ) H → va_D A (wdX10 cI cZ cB ad w σ) → va_S A s.heap H locs → ∀ (ls : Array Slot), lv_has ls 6 [(0, .ref (ad 0)), (1, .int x1)] → X10_clash_7 n x1 σ = some res → W p l e rmX10_clash s m args below meth c H locs 0 0 Q (F0 m 7 ls []) := by
    intro n
    induction n with
    | zero =>
      intro x1 σ H locs hP hD hS ls hl h
      rw [X10_clash_7] at h
      cases h
    | succ n_7 ih7 =>
      have n104 : ∀ (x1 : Int32) (x2 : Int32) (x3 : Int32) (σ : Mem) (H : Heap) (locs : List Loc), va_P D vwCl (wdX10 cI cZ cB ad w σ) H → va_D A (wdX10 cI cZ cB ad w σ) → va_S A s.heap H locs → ∀ (ls : Array Slot), lv_has ls 6 [(0, .ref (ad 0)), (1, .int x1), (2, .int x2), (3, .int x3)] → X10_clash_104 (X10_clash_7 n_7) x1 x2 x3 σ = some res → W p l e rmX10_clash s m args below meth c H locs 0 0 Q (F0 m 104 ls []) := by
        intro x1 x2 x3 σ H locs hP hD hS ls hl h
        rw [X10_clash_104] at h
        refine lv_iload_n hx hb dX10_clash_104 rfl (lv_at hl 2 rfl) ?_
        refine lv_if_le (tgt := 120) hx hb dX10_clash_105 (by decide) (fun c1 => ?_) (fun c1 => ?_)
        · have h := ite_t c1 h
          obtain ⟨x1_2, ex1_2, h⟩ := lt_e h
          refine lv_iinc (v := x1_2) (lv' := [(1, .int x1_2), (0, .ref (ad 0)), (2, .int x2), (3, .int x3)]) hx hb dX10_clash_120 hl (k := 1) rfl (by rw [ex1_2]; rfl) (by decide) rfl (fun ls hl => ?_)
          refine lv_goto (tgt := 7) hx hb dX10_clash_123 (by decide) ?_
          exact ih7 x1_2 σ _ _ hP hD hS _ (lv_sub hl [1, 0] rfl) h
        · have h := ite_f c1 h
          refine lv_iload_n hx hb dX10_clash_108 rfl (lv_at hl 2 rfl) ?_
          refine lv_iload_n hx hb dX10_clash_109 rfl (lv_at hl 3 rfl) ?_
          refine lv_icmp_gt (tgt := 120) hx hb dX10_clash_110 (by decide) (fun c3 => ?_) (fun c3 => ?_)
          · have h := ite_t c3 h
            obtain ⟨x1_4, ex1_4, h⟩ := lt_e h
            refine lv_iinc (v := x1_4) (lv' := [(1, .int x1_4), (0, .ref (ad 0)), (2, .int x2), (3, .int x3)]) hx hb dX10_clash_120 hl (k := 1) rfl (by rw [ex1_4]; rfl) (by decide) rfl (fun ls hl => ?_)
            refine lv_goto (tgt := 7) hx hb dX10_clash_123 (by decide) ?_
            exact ih7 x1_4 σ _ _ hP hD hS _ (lv_sub hl [1, 0] rfl) h
          · have h := ite_f c3 h
            refine lv_aload_n hx hb dX10_clash_113 rfl (lv_at hl 0 rfl) ?_
            refine va_get (ci := 8) (v := .ref (ad 9)) (C := RX10) (T := TX10) (N := 42) hx hb hts hinX10 hown hK hP 0 rfl rfl 19 (by decide) fl1 (fun _ h9 => h9) rfl dX10_clash_114 ?_
            refine lv_iload_n hx hb dX10_clash_117 rfl (lv_at hl 1 rfl) ?_
            obtain ⟨hin5, h⟩ := gd_e h
            refine va_iald hx hb hK hP 9 0 rfl rfl hin5 dX10_clash_118 ?_
            exact hR (some (.int (σ 9 (Int32.toNatClampNeg x1)))) (wdX10 cI cZ cB ad w σ) _ _ _ _ (by rw [← Option.some.inj h]) (by rw [← Option.some.inj h]) rfl dX10_clash_119 hP hS
      have n35 : ∀ (n : Nat) (x1 : Int32) (x2 : Int32) (x3 : Int32) (x4 : Int32) (σ : Mem) (H : Heap) (locs : List Loc), va_P D vwCl (wdX10 cI cZ cB ad w σ) H → va_D A (wdX10 cI cZ cB ad w σ) → va_S A s.heap H locs → ∀ (ls : Array Slot), lv_has ls 6 [(0, .ref (ad 0)), (1, .int x1), (2, .int x2), (3, .int x3), (4, .int x4)] → X10_clash_35 (X10_clash_7 n_7) n x1 x2 x3 x4 σ = some res → W p l e rmX10_clash s m args below meth c H locs 0 0 Q (F0 m 35 ls []) := by
        intro n
        induction n with
        | zero =>
          intro x1 x2 x3 x4 σ H locs hP hD hS ls hl h
          rw [X10_clash_35] at h
          cases h
        | succ n_35 ih35 =>
          have n84 : ∀ (x1 : Int32) (x2 : Int32) (x3 : Int32) (x4 : Int32) (y0 : Int32) (σ : Mem) (H : Heap) (locs : List Loc), va_P D vwCl (wdX10 cI cZ cB ad w σ) H → va_D A (wdX10 cI cZ cB ad w σ) → va_S A s.heap H locs → ∀ (ls : Array Slot), lv_has ls 6 [(0, .ref (ad 0)), (1, .int x1), (2, .int x2), (3, .int x3), (4, .int x4)] → X10_clash_84 (X10_clash_35 (X10_clash_7 n_7) n_35) (X10_clash_7 n_7) x1 x2 x3 x4 y0 σ = some res → W p l e rmX10_clash s m args below meth c H locs 0 0 Q (F0 m 84 ls [.int y0]) := by
            intro x1 x2 x3 x4 y0 σ H locs hP hD hS ls hl h
            rw [X10_clash_84] at h
            refine lv_istore (lv' := [(5, .int y0), (0, .ref (ad 0)), (1, .int x1), (2, .int x2), (3, .int x3), (4, .int x4)]) hx hb dX10_clash_84 hl (by decide) rfl (fun ls hl => ?_)
            refine lv_iload hx hb dX10_clash_86 (lv_at hl 0 rfl) ?_
            refine lv_if_le (tgt := 96) hx hb dX10_clash_88 (by decide) (fun c6 => ?_) (fun c6 => ?_)
            · have h := ite_t c6 h
              refine lv_iload_n hx hb dX10_clash_96 rfl (lv_at hl 4 rfl) ?_
              refine lv_istore_n (lv' := [(3, .int x3), (5, .int y0), (0, .ref (ad 0)), (1, .int x1), (2, .int x2), (4, .int x4)]) hx hb dX10_clash_97 rfl hl (by decide) rfl (fun ls hl => ?_)
              obtain ⟨x4_7, ex4_7, h⟩ := lt_e h
              refine lv_iinc (v := x4_7) (lv' := [(4, .int x4_7), (3, .int x3), (5, .int y0), (0, .ref (ad 0)), (1, .int x1), (2, .int x2)]) hx hb dX10_clash_98 hl (k := 5) rfl (by rw [ex4_7]; rfl) (by decide) rfl (fun ls hl => ?_)
              refine lv_goto (tgt := 35) hx hb dX10_clash_101 (by decide) ?_
              exact ih35 x1 x2 x3 x4_7 σ _ _ hP hD hS _ (lv_sub hl [3, 4, 5, 1, 0] rfl) h
            · have h := ite_f c6 h
              refine lv_iload hx hb dX10_clash_91 (lv_at hl 0 rfl) ?_
              refine lv_goto (tgt := 97) hx hb dX10_clash_93 (by decide) ?_
              refine lv_istore_n (lv' := [(3, .int y0), (5, .int y0), (0, .ref (ad 0)), (1, .int x1), (2, .int x2), (4, .int x4)]) hx hb dX10_clash_97 rfl hl (by decide) rfl (fun ls hl => ?_)
              obtain ⟨x4_8, ex4_8, h⟩ := lt_e h
              refine lv_iinc (v := x4_8) (lv' := [(4, .int x4_8), (3, .int y0), (5, .int y0), (0, .ref (ad 0)), (1, .int x1), (2, .int x2)]) hx hb dX10_clash_98 hl (k := 5) rfl (by rw [ex4_8]; rfl) (by decide) rfl (fun ls hl => ?_)
              refine lv_goto (tgt := 35) hx hb dX10_clash_101 (by decide) ?_
              exact ih35 x1 x2 y0 x4_8 σ _ _ hP hD hS _ (lv_sub hl [3, 4, 5, 1, 0] rfl) h
          intro x1 x2 x3 x4 σ H locs hP hD hS ls hl h
          rw [X10_clash_35] at h
          refine lv_iload hx hb dX10_clash_35 (lv_at hl 4 rfl) ?_
          refine lv_iload_n hx hb dX10_clash_37 rfl (lv_at hl 1 rfl) ?_
          refine lv_icmp_ge (tgt := 104) hx hb dX10_clash_38 (by decide) (fun c9 => ?_) (fun c9 => ?_)
          · have h := ite_t c9 h
            exact n104 x1 x2 x3 σ _ _ hP hD hS _ (lv_sub hl [0, 1, 2, 3] rfl) h
          · have h := ite_f c9 h
            refine lv_iload_n hx hb dX10_clash_41 rfl (lv_at hl 2 rfl) ?_
            refine lv_if_le (tgt := 104) hx hb dX10_clash_42 (by decide) (fun c10 => ?_) (fun c10 => ?_)
            · have h := ite_t c10 h
              exact n104 x1 x2 x3 σ _ _ hP hD hS _ (lv_sub hl [0, 1, 2, 3] rfl) h
            · have h := ite_f c10 h
              refine lv_aload_n hx hb dX10_clash_45 rfl (lv_at hl 0 rfl) ?_
              refine lv_aload_n hx hb dX10_clash_46 rfl (lv_at hl 0 rfl) ?_
              refine va_get (ci := 8) (v := .ref (ad 9)) (C := RX10) (T := TX10) (N := 42) hx hb hts hinX10 hown hK hP 0 rfl rfl 19 (by decide) fl1 (fun _ h9 => h9) rfl dX10_clash_47 ?_
              refine lv_iload hx hb dX10_clash_50 (lv_at hl 4 rfl) ?_
              obtain ⟨hin11, h⟩ := gd_e h
              refine va_iald hx hb hK hP 9 0 rfl rfl hin11 dX10_clash_52 ?_
              refine lv_aload_n hx hb dX10_clash_53 rfl (lv_at hl 0 rfl) ?_
              refine va_get (ci := 8) (v := .ref (ad 9)) (C := RX10) (T := TX10) (N := 42) hx hb hts hinX10 hown hK hP 0 rfl rfl 19 (by decide) fl1 (fun _ h9 => h9) rfl dX10_clash_54 ?_
              refine lv_iload_n hx hb dX10_clash_57 rfl (lv_at hl 1 rfl) ?_
              obtain ⟨hin12, h⟩ := gd_e h
              refine va_iald hx hb hK hP 9 0 rfl rfl hin12 dX10_clash_58 ?_
              obtain ⟨r13, hr13, h⟩ := bd_e h
              refine cl_RV (rest := []) (ci := 8) (q0 := 0) ⟨hx, hb, hml, hown, hts⟩ (mX10_isInRow l D cI cZ cB ad w σ (σ 9 (Int32.toNatClampNeg x4)) (σ 9 (Int32.toNatClampNeg x1)) r13 hr13) (cwV 2 hts gX10_clash_X10_isInRow rfl rfl rfl (by decide +kernel) ⟨Nat.le_of_ble_eq_true rfl, Nat.le_of_ble_eq_true rfl⟩) hK hP rfl rfl rfl rfl hl.1 rfl (Nat.le_of_ble_eq_true rfl) dX10_clash_59 ⟨Nat.zero_le _, Nat.zero_le _⟩ ?_
              refine W.eq (g2 := F0 m 62 ls [.int r13]) rfl ?_
              refine lv_if_eq (tgt := 83) hx hb dX10_clash_62 (by decide) (fun c14 => ?_) (fun c14 => ?_)
              · have h := ite_t c14 h
                refine lv_iconst (v := 0) hx hb dX10_clash_83 (by decide) ?_
                exact n84 x1 x2 x3 x4 0 σ _ _ hP hD hS _ (lv_sub hl [0, 1, 2, 3, 4] rfl) h
              · have h := ite_f c14 h
                refine lv_aload_n hx hb dX10_clash_65 rfl (lv_at hl 0 rfl) ?_
                refine lv_aload_n hx hb dX10_clash_66 rfl (lv_at hl 0 rfl) ?_
                refine va_get (ci := 8) (v := .ref (ad 9)) (C := RX10) (T := TX10) (N := 42) hx hb hts hinX10 hown hK hP 0 rfl rfl 19 (by decide) fl1 (fun _ h9 => h9) rfl dX10_clash_67 ?_
                refine lv_iload hx hb dX10_clash_70 (lv_at hl 4 rfl) ?_
                obtain ⟨hin15, h⟩ := gd_e h
                refine va_iald hx hb hK hP 9 0 rfl rfl hin15 dX10_clash_72 ?_
                refine lv_aload_n hx hb dX10_clash_73 rfl (lv_at hl 0 rfl) ?_
                refine va_get (ci := 8) (v := .int (σ 0 11)) (C := RX10) (T := TX10) (N := 42) hx hb hts hinX10 hown hK hP 0 rfl rfl 11 (by decide) fl2 (fun _ h9 => h9) rfl dX10_clash_74 ?_
                obtain ⟨r16, hr16, h⟩ := bd_e h
                refine cl_RV (rest := []) (ci := 8) (q0 := 0) ⟨hx, hb, hml, hown, hts⟩ (mX10_labelOf l D cI cZ cB ad w σ (σ 9 (Int32.toNatClampNeg x4)) (σ 0 11) r16 hr16) (cwV 2 hts gX10_clash_X10_labelOf rfl rfl rfl (by decide +kernel) ⟨Nat.le_of_ble_eq_true rfl, Nat.le_of_ble_eq_true rfl⟩) hK hP rfl rfl rfl rfl hl.1 rfl (Nat.le_of_ble_eq_true rfl) dX10_clash_77 ⟨Nat.zero_le _, Nat.zero_le _⟩ ?_
                refine W.eq (g2 := F0 m 80 ls [.int r16]) rfl ?_
                refine lv_goto (tgt := 84) hx hb dX10_clash_80 (by decide) ?_
                exact n84 x1 x2 x3 x4 r16 σ _ _ hP hD hS _ (lv_sub hl [0, 1, 2, 3, 4] rfl) h
      intro x1 σ H locs hP hD hS ls hl h
      rw [X10_clash_7] at h
      refine lv_iload_n hx hb dX10_clash_7 rfl (lv_at hl 1 rfl) ?_
      refine lv_aload_n hx hb dX10_clash_8 rfl (lv_at hl 0 rfl) ?_
      refine va_get (ci := 8) (v := .int (σ 0 21)) (C := RX10) (T := TX10) (N := 42) hx hb hts hinX10 hown hK hP 0 rfl rfl 21 (by decide) fl3 (fun _ h9 => h9) rfl dX10_clash_9 ?_
      refine lv_icmp_ge (tgt := 126) hx hb dX10_clash_12 (by decide) (fun c17 => ?_) (fun c17 => ?_)
      · have h := ite_t c17 h
        refine lv_iconst (v := (-1)) hx hb dX10_clash_126 (by decide) ?_
        exact hR (some (.int (-1))) (wdX10 cI cZ cB ad w σ) _ _ _ _ (by rw [← Option.some.inj h]) (by rw [← Option.some.inj h]) rfl dX10_clash_127 hP hS
      · have h := ite_f c17 h
        refine lv_aload_n hx hb dX10_clash_15 rfl (lv_at hl 0 rfl) ?_
        refine lv_aload_n hx hb dX10_clash_16 rfl (lv_at hl 0 rfl) ?_
        refine va_get (ci := 8) (v := .ref (ad 9)) (C := RX10) (T := TX10) (N := 42) hx hb hts hinX10 hown hK hP 0 rfl rfl 19 (by decide) fl1 (fun _ h9 => h9) rfl dX10_clash_17 ?_
        refine lv_iload_n hx hb dX10_clash_20 rfl (lv_at hl 1 rfl) ?_
        obtain ⟨hin18, h⟩ := gd_e h
        refine va_iald hx hb hK hP 9 0 rfl rfl hin18 dX10_clash_21 ?_
        refine lv_aload_n hx hb dX10_clash_22 rfl (lv_at hl 0 rfl) ?_
        refine va_get (ci := 8) (v := .int (σ 0 11)) (C := RX10) (T := TX10) (N := 42) hx hb hts hinX10 hown hK hP 0 rfl rfl 11 (by decide) fl2 (fun _ h9 => h9) rfl dX10_clash_23 ?_
        obtain ⟨r19, hr19, h⟩ := bd_e h
        refine cl_RV (rest := []) (ci := 8) (q0 := 0) ⟨hx, hb, hml, hown, hts⟩ (mX10_labelOf l D cI cZ cB ad w σ (σ 9 (Int32.toNatClampNeg x1)) (σ 0 11) r19 hr19) (cwV 2 hts gX10_clash_X10_labelOf rfl rfl rfl (by decide +kernel) ⟨Nat.le_of_ble_eq_true rfl, Nat.le_of_ble_eq_true rfl⟩) hK hP rfl rfl rfl rfl hl.1 rfl (Nat.le_of_ble_eq_true rfl) dX10_clash_26 ⟨Nat.zero_le _, Nat.zero_le _⟩ ?_
        refine W.eq (g2 := F0 m 29 ls [.int r19]) rfl ?_
        refine lv_istore_n (lv' := [(2, .int r19), (0, .ref (ad 0)), (1, .int x1)]) hx hb dX10_clash_29 rfl hl (by decide) rfl (fun ls hl => ?_)
        refine lv_iconst (v := 0) hx hb dX10_clash_30 (by decide) ?_
        refine lv_istore_n (lv' := [(3, .int 0), (2, .int r19), (0, .ref (ad 0)), (1, .int x1)]) hx hb dX10_clash_31 rfl hl (by decide) rfl (fun ls hl => ?_)
        refine lv_iconst (v := 0) hx hb dX10_clash_32 (by decide) ?_
        refine lv_istore (lv' := [(4, .int 0), (3, .int 0), (2, .int r19), (0, .ref (ad 0)), (1, .int x1)]) hx hb dX10_clash_33 hl (by decide) rfl (fun ls hl => ?_)
        exact n35 FU x1 r19 0 0 σ _ _ hP hD hS _ (lv_sub hl [3, 4, 2, 1, 0] rfl) h
  rw [X10_clash] at h
  have hS := hS
  refine lv_aload_n hx hb dX10_clash_0 rfl (lv_at hl 0 rfl) ?_
  refine lv_iconst (v := 0) hx hb dX10_clash_1 (by decide) ?_
  obtain ⟨σ20, eσ20, h⟩ := lt_e h
  refine va_put (ci := 8) (v := .int 0) (ty := .int) (C := RX10) (T := TX10) (N := 42) hx hb hts hinX10 tyX10 tyX10_ok nmX10 hown hK hP hD hS 0 rfl rfl 0 (by decide) fl4 (fun _ h9 => h9) rfl (by decide +kernel) rfl rfl (Nat.le_of_ble_eq_true rfl) dX10_clash_2 (fun H locs hP1 hD1 hS => ?_)
  have hP : va_P D vwCl (wdX10 cI cZ cB ad w σ20) H := by rw [eσ20]; exact hP1
  have hD : va_D A (wdX10 cI cZ cB ad w σ20) := D_of (by rfl) hD
  refine lv_iconst (v := 0) hx hb dX10_clash_5 (by decide) ?_
  refine lv_istore_n (lv' := [(1, .int 0), (0, .ref (ad 0))]) hx hb dX10_clash_6 rfl hl (by decide) rfl (fun ls hl => ?_)
  exact n7 FU 0 σ20 _ _ hP hD hS _ (lv_sub hl [1, 0] rfl) h
set_option maxHeartbeats 4000000 in
set_option maxRecDepth 100000 in
theorem mX10_clash (l : Launch) (D : va_G) (cI cZ cB : ClassId) (ad : Nat → Nat) (w : Int64) (σ : Mem) (sz : Nat) (res : Int32 × Mem) (h : X10_clash σ = some res) : Met l yX10_clash wsX10_clash rmX10_clash (pW D cI cZ cB (wdX10 cI cZ cB ad w σ) sz [.ref (ad 0)]) (qW D (some (.int res.1)) (wdX10 cI cZ cB ad w res.2) (va_A (wdX10 cI cZ cB ad w σ) sz)) 0 0 (va_A (wdX10 cI cZ cB ad w σ) sz) := (bX10_clash l D cI cZ cB ad w σ res h).met (by decide +kernel) rfl (Nat.le_of_ble_eq_true rfl)
def rmX10_at : Room := { frames := 0, cells := 0, slots := 0, locals := 0 }
set_option maxHeartbeats 4000000 in
set_option maxRecDepth 100000 in
theorem bX10_at (l : Launch) (D : va_G) (cI cZ cB : ClassId) (ad : Nat → Nat) (w : Int64) (σ : Mem) (a1 : Int32) (res : Int32 × Mem) (h : X10_at a1 σ = some res) : BW l yX10_at wsX10_at rmX10_at cX10_at 2 (some .int) D cI cZ cB (wdX10 cI cZ cB ad w σ) [.ref (ad 0), .int a1] (some (.int res.1)) (wdX10 cI cZ cB ad w res.2) := by
  intro p e s m args below meth c ls Q A hx hb hml hts hown hK hA hP hD hS hl0 hR
  have hinX10 : ∀ w ∈ u_ws RX10 TX10 42, w ∈ wsX10_at := (fun _ h => List.mem_cons_of_mem _ (List.mem_append_right _ h))
  have fl1 := hts (.fieldLink RX10 86 "LawNumbererModel" "thrown" "I") (by decide +kernel)
  have fl2 := hts (.fieldLink RX10 157 "LawNumbererModel" "items" "I") (by decide +kernel)
  have fl3 := hts (.fieldLink RX10 43 "LawNumbererModel" "order" "[I") (by decide +kernel)
  have hl : lv_has ls 2 [(0, .ref (ad 0)), (1, .int a1)] := hl0
  rw [X10_at] at h
  have hS := hS
  refine lv_aload_n hx hb dX10_at_0 rfl (lv_at hl 0 rfl) ?_
  refine lv_iconst (v := 0) hx hb dX10_at_1 (by decide) ?_
  obtain ⟨σ1, eσ1, h⟩ := lt_e h
  refine va_put (ci := 8) (v := .int 0) (ty := .int) (C := RX10) (T := TX10) (N := 42) hx hb hts hinX10 tyX10 tyX10_ok nmX10 hown hK hP hD hS 0 rfl rfl 0 (by decide) fl1 (fun _ h9 => h9) rfl (by decide +kernel) rfl rfl (Nat.le_of_ble_eq_true rfl) dX10_at_2 (fun H locs hP1 hD1 hS => ?_)
  have hP : va_P D vwCl (wdX10 cI cZ cB ad w σ1) H := by rw [eσ1]; exact hP1
  have hD : va_D A (wdX10 cI cZ cB ad w σ1) := D_of (by rfl) hD
  refine lv_iload_n hx hb dX10_at_5 rfl (lv_at hl 1 rfl) ?_
  refine lv_if_lt (tgt := 17) hx hb dX10_at_6 (by decide) (fun c2 => ?_) (fun c2 => ?_)
  · have h := ite_t c2 h
    refine lv_iconst (v := (-1)) hx hb dX10_at_17 (by decide) ?_
    refine lv_goto (tgt := 27) hx hb dX10_at_18 (by decide) ?_
    exact hR (some (.int (-1))) (wdX10 cI cZ cB ad w σ1) _ _ _ _ (by rw [← Option.some.inj h]) (by rw [← Option.some.inj h]) rfl dX10_at_27 hP hS
  · have h := ite_f c2 h
    refine lv_iload_n hx hb dX10_at_9 rfl (lv_at hl 1 rfl) ?_
    refine lv_aload_n hx hb dX10_at_10 rfl (lv_at hl 0 rfl) ?_
    refine va_get (ci := 8) (v := .int (σ1 0 21)) (C := RX10) (T := TX10) (N := 42) hx hb hts hinX10 hown hK hP 0 rfl rfl 21 (by decide) fl2 (fun _ h9 => h9) rfl dX10_at_11 ?_
    refine lv_icmp_lt (tgt := 21) hx hb dX10_at_14 (by decide) (fun c3 => ?_) (fun c3 => ?_)
    · have h := ite_t c3 h
      refine lv_aload_n hx hb dX10_at_21 rfl (lv_at hl 0 rfl) ?_
      refine va_get (ci := 8) (v := .ref (ad 9)) (C := RX10) (T := TX10) (N := 42) hx hb hts hinX10 hown hK hP 0 rfl rfl 19 (by decide) fl3 (fun _ h9 => h9) rfl dX10_at_22 ?_
      refine lv_iload_n hx hb dX10_at_25 rfl (lv_at hl 1 rfl) ?_
      obtain ⟨hin4, h⟩ := gd_e h
      refine va_iald hx hb hK hP 9 0 rfl rfl hin4 dX10_at_26 ?_
      exact hR (some (.int (σ1 9 (Int32.toNatClampNeg a1)))) (wdX10 cI cZ cB ad w σ1) _ _ _ _ (by rw [← Option.some.inj h]) (by rw [← Option.some.inj h]) rfl dX10_at_27 hP hS
    · have h := ite_f c3 h
      refine lv_iconst (v := (-1)) hx hb dX10_at_17 (by decide) ?_
      refine lv_goto (tgt := 27) hx hb dX10_at_18 (by decide) ?_
      exact hR (some (.int (-1))) (wdX10 cI cZ cB ad w σ1) _ _ _ _ (by rw [← Option.some.inj h]) (by rw [← Option.some.inj h]) rfl dX10_at_27 hP hS
set_option maxHeartbeats 4000000 in
set_option maxRecDepth 100000 in
theorem mX10_at (l : Launch) (D : va_G) (cI cZ cB : ClassId) (ad : Nat → Nat) (w : Int64) (σ : Mem) (sz : Nat) (a1 : Int32) (res : Int32 × Mem) (h : X10_at a1 σ = some res) : Met l yX10_at wsX10_at rmX10_at (pW D cI cZ cB (wdX10 cI cZ cB ad w σ) sz [.ref (ad 0), .int a1]) (qW D (some (.int res.1)) (wdX10 cI cZ cB ad w res.2) (va_A (wdX10 cI cZ cB ad w σ) sz)) 0 0 (va_A (wdX10 cI cZ cB ad w σ) sz) := (bX10_at l D cI cZ cB ad w σ a1 res h).met (by decide +kernel) rfl (Nat.le_of_ble_eq_true rfl)
def rmX10_count : Room := { frames := 0, cells := 0, slots := 0, locals := 0 }
set_option maxHeartbeats 4000000 in
set_option maxRecDepth 100000 in
theorem bX10_count (l : Launch) (D : va_G) (cI cZ cB : ClassId) (ad : Nat → Nat) (w : Int64) (σ : Mem) (a1 : Int32) (res : Int32 × Mem) (h : X10_count a1 σ = some res) : BW l yX10_count wsX10_count rmX10_count cX10_count 4 (some .int) D cI cZ cB (wdX10 cI cZ cB ad w σ) [.ref (ad 0), .int a1] (some (.int res.1)) (wdX10 cI cZ cB ad w res.2) := by
  intro p e s m args below meth c ls Q A hx hb hml hts hown hK hA hP hD hS hl0 hR
  have hinX10 : ∀ w ∈ u_ws RX10 TX10 42, w ∈ wsX10_count := (fun _ h => List.mem_cons_of_mem _ (List.mem_append_right _ h))
  have fl1 := hts (.fieldLink RX10 157 "LawNumbererModel" "items" "I") (by decide +kernel)
  have fl2 := hts (.fieldLink RX10 46 "LawNumbererModel" "struck" "[Z") (by decide +kernel)
  have fl3 := hts (.fieldLink RX10 86 "LawNumbererModel" "thrown" "I") (by decide +kernel)
  have fl4 := hts (.fieldLink RX10 27 "LawNumbererModel" "levels" "I") (by decide +kernel)
  have fl5 := hts (.fieldLink RX10 166 "LawNumbererModel" "day" "I") (by decide +kernel)
  have fl6 := hts (.fieldLink RX10 163 "LawNumbererModel" "acts" "I") (by decide +kernel)
  have fl7 := hts (.fieldLink RX10 213 "LawNumbererModel" "outMany" "I") (by decide +kernel)
  have fl8 := hts (.fieldLink RX10 89 "LawNumbererModel" "length" "I") (by decide +kernel)
  have hl : lv_has ls 4 [(0, .ref (ad 0)), (1, .int a1)] := hl0
  have n64 : ∀ (n : Nat) (x2 : Int32) (x3 : Int32) (σ : Mem) (H : Heap) (locs : List Loc), va_P D vwCl (wdX10 cI cZ cB ad w σ) H → va_D A (wdX10 cI cZ cB ad w σ) → va_S A s.heap H locs → ∀ (ls : Array Slot), lv_has ls 4 [(0, .ref (ad 0)), (2, .int x2), (3, .int x3)] → X10_count_64 a1 n x2 x3 σ = some res → W p l e rmX10_count s m args below meth c H locs 0 0 Q (F0 m 64 ls []) := by
    intro n
    induction n with
    | zero =>
      intro x2 x3 σ H locs hP hD hS ls hl h
      rw [X10_count_64] at h
      cases h
    | succ n_64 ih64 =>
      intro x2 x3 σ H locs hP hD hS ls hl h
      rw [X10_count_64] at h
      refine lv_iload_n hx hb dX10_count_64 rfl (lv_at hl 2 rfl) ?_
      refine lv_aload_n hx hb dX10_count_65 rfl (lv_at hl 0 rfl) ?_
      refine va_get (ci := 8) (v := .int (σ 0 21)) (C := RX10) (T := TX10) (N := 42) hx hb hts hinX10 hown hK hP 0 rfl rfl 21 (by decide) fl1 (fun _ h9 => h9) rfl dX10_count_66 ?_
      refine lv_icmp_ge (tgt := 95) hx hb dX10_count_69 (by decide) (fun c1 => ?_) (fun c1 => ?_)
      · have h := ite_t c1 h
        refine lv_iload_n hx hb dX10_count_95 rfl (lv_at hl 1 rfl) ?_
        exact hR (some (.int x2)) (wdX10 cI cZ cB ad w σ) _ _ _ _ (by rw [← Option.some.inj h]) (by rw [← Option.some.inj h]) rfl dX10_count_96 hP hS
      · have h := ite_f c1 h
        refine lv_iload_n hx hb dX10_count_72 rfl (lv_at hl 1 rfl) ?_
        refine lv_aload_n hx hb dX10_count_73 rfl (lv_at hl 0 rfl) ?_
        refine va_get (ci := 8) (v := .ref (ad 10)) (C := RX10) (T := TX10) (N := 42) hx hb hts hinX10 hown hK hP 0 rfl rfl 20 (by decide) fl2 (fun _ h9 => h9) rfl dX10_count_74 ?_
        refine lv_iload_n hx hb dX10_count_77 rfl (lv_at hl 2 rfl) ?_
        obtain ⟨hin2, h⟩ := gd_e h
        refine va_zald hx hb hK hP 10 1 rfl rfl hin2 dX10_count_78 ?_
        refine lv_if_eq (tgt := 86) hx hb dX10_count_79 (by decide) (fun c3 => ?_) (fun c3 => ?_)
        · have h := ite_t c3 h
          refine lv_iconst (v := 0) hx hb dX10_count_86 (by decide) ?_
          refine lv_iadd hx hb dX10_count_87 ?_
          obtain ⟨x2_4, ex2_4, h⟩ := lt_e h
          refine lv_topE ex2_4 ?_
          refine lv_istore_n (lv' := [(2, .int x2_4), (0, .ref (ad 0)), (3, .int x3)]) hx hb dX10_count_88 rfl hl (by decide) rfl (fun ls hl => ?_)
          obtain ⟨x3_5, ex3_5, h⟩ := lt_e h
          refine lv_iinc (v := x3_5) (lv' := [(3, .int x3_5), (2, .int x2_4), (0, .ref (ad 0))]) hx hb dX10_count_89 hl (k := 2) rfl (by rw [ex3_5]; rfl) (by decide) rfl (fun ls hl => ?_)
          refine lv_goto (tgt := 64) hx hb dX10_count_92 (by decide) ?_
          exact ih64 x2_4 x3_5 σ _ _ hP hD hS _ (lv_sub hl [2, 1, 0] rfl) h
        · have h := ite_f c3 h
          refine lv_iconst (v := 1) hx hb dX10_count_82 (by decide) ?_
          refine lv_goto (tgt := 87) hx hb dX10_count_83 (by decide) ?_
          refine lv_iadd hx hb dX10_count_87 ?_
          obtain ⟨x2_6, ex2_6, h⟩ := lt_e h
          refine lv_topE ex2_6 ?_
          refine lv_istore_n (lv' := [(2, .int x2_6), (0, .ref (ad 0)), (3, .int x3)]) hx hb dX10_count_88 rfl hl (by decide) rfl (fun ls hl => ?_)
          obtain ⟨x3_7, ex3_7, h⟩ := lt_e h
          refine lv_iinc (v := x3_7) (lv' := [(3, .int x3_7), (2, .int x2_6), (0, .ref (ad 0))]) hx hb dX10_count_89 hl (k := 2) rfl (by rw [ex3_7]; rfl) (by decide) rfl (fun ls hl => ?_)
          refine lv_goto (tgt := 64) hx hb dX10_count_92 (by decide) ?_
          exact ih64 x2_6 x3_7 σ _ _ hP hD hS _ (lv_sub hl [2, 1, 0] rfl) h
  rw [X10_count] at h
  have hS := hS
  refine lv_aload_n hx hb dX10_count_0 rfl (lv_at hl 0 rfl) ?_
  refine lv_iconst (v := 0) hx hb dX10_count_1 (by decide) ?_
  obtain ⟨σ8, eσ8, h⟩ := lt_e h
  refine va_put (ci := 8) (v := .int 0) (ty := .int) (C := RX10) (T := TX10) (N := 42) hx hb hts hinX10 tyX10 tyX10_ok nmX10 hown hK hP hD hS 0 rfl rfl 0 (by decide) fl3 (fun _ h9 => h9) rfl (by decide +kernel) rfl rfl (Nat.le_of_ble_eq_true rfl) dX10_count_2 (fun H locs hP1 hD1 hS => ?_)
  have hP : va_P D vwCl (wdX10 cI cZ cB ad w σ8) H := by rw [eσ8]; exact hP1
  have hD : va_D A (wdX10 cI cZ cB ad w σ8) := D_of (by rfl) hD
  refine lv_iconst (v := 0) hx hb dX10_count_5 (by decide) ?_
  refine lv_istore_n (lv' := [(2, .int 0), (0, .ref (ad 0)), (1, .int a1)]) hx hb dX10_count_6 rfl hl (by decide) rfl (fun ls hl => ?_)
  refine lv_iload_n hx hb dX10_count_7 rfl (lv_at hl 2 rfl) ?_
  by_cases c9 : a1 = 0
  · have h := ite_t c9 h
    refine lv_tableIn (tgt := 52) (off := 44) hx hb dX10_count_8 (by rw [c9]; decide) (by rw [c9]; decide) (by rw [c9]; rfl) (by decide) ?_
    refine lv_aload_n hx hb dX10_count_52 rfl (lv_at hl 1 rfl) ?_
    refine va_get (ci := 8) (v := .int (σ8 0 9)) (C := RX10) (T := TX10) (N := 42) hx hb hts hinX10 hown hK hP 0 rfl rfl 9 (by decide) fl4 (fun _ h9 => h9) rfl dX10_count_53 ?_
    exact hR (some (.int (σ8 0 9))) (wdX10 cI cZ cB ad w σ8) _ _ _ _ (by rw [← Option.some.inj h]) (by rw [← Option.some.inj h]) rfl dX10_count_56 hP hS
  have h := ite_f c9 h
  by_cases c10 : a1 = 1
  · have h := ite_t c10 h
    refine lv_tableIn (tgt := 57) (off := 49) hx hb dX10_count_8 (by rw [c10]; decide) (by rw [c10]; decide) (by rw [c10]; rfl) (by decide) ?_
    refine lv_aload_n hx hb dX10_count_57 rfl (lv_at hl 1 rfl) ?_
    refine va_get (ci := 8) (v := .int (σ8 0 21)) (C := RX10) (T := TX10) (N := 42) hx hb hts hinX10 hown hK hP 0 rfl rfl 21 (by decide) fl1 (fun _ h9 => h9) rfl dX10_count_58 ?_
    exact hR (some (.int (σ8 0 21))) (wdX10 cI cZ cB ad w σ8) _ _ _ _ (by rw [← Option.some.inj h]) (by rw [← Option.some.inj h]) rfl dX10_count_61 hP hS
  have h := ite_f c10 h
  by_cases c11 : a1 = 2
  · have h := ite_t c11 h
    refine lv_tableIn (tgt := 62) (off := 54) hx hb dX10_count_8 (by rw [c11]; decide) (by rw [c11]; decide) (by rw [c11]; rfl) (by decide) ?_
    refine lv_iconst (v := 0) hx hb dX10_count_62 (by decide) ?_
    refine lv_istore_n (lv' := [(3, .int 0), (2, .int 0), (0, .ref (ad 0)), (1, .int a1)]) hx hb dX10_count_63 rfl hl (by decide) rfl (fun ls hl => ?_)
    exact n64 FU 0 0 σ8 _ _ hP hD hS _ (lv_sub hl [2, 1, 0] rfl) h
  have h := ite_f c11 h
  by_cases c12 : a1 = 3
  · have h := ite_t c12 h
    refine lv_tableIn (tgt := 97) (off := 89) hx hb dX10_count_8 (by rw [c12]; decide) (by rw [c12]; decide) (by rw [c12]; rfl) (by decide) ?_
    refine lv_aload_n hx hb dX10_count_97 rfl (lv_at hl 1 rfl) ?_
    refine va_get (ci := 8) (v := .int (σ8 0 11)) (C := RX10) (T := TX10) (N := 42) hx hb hts hinX10 hown hK hP 0 rfl rfl 11 (by decide) fl5 (fun _ h9 => h9) rfl dX10_count_98 ?_
    exact hR (some (.int (σ8 0 11))) (wdX10 cI cZ cB ad w σ8) _ _ _ _ (by rw [← Option.some.inj h]) (by rw [← Option.some.inj h]) rfl dX10_count_101 hP hS
  have h := ite_f c12 h
  by_cases c13 : a1 = 4
  · have h := ite_t c13 h
    refine lv_tableIn (tgt := 102) (off := 94) hx hb dX10_count_8 (by rw [c13]; decide) (by rw [c13]; decide) (by rw [c13]; rfl) (by decide) ?_
    refine lv_aload_n hx hb dX10_count_102 rfl (lv_at hl 1 rfl) ?_
    refine va_get (ci := 8) (v := .int (σ8 0 29)) (C := RX10) (T := TX10) (N := 42) hx hb hts hinX10 hown hK hP 0 rfl rfl 29 (by decide) fl6 (fun _ h9 => h9) rfl dX10_count_103 ?_
    exact hR (some (.int (σ8 0 29))) (wdX10 cI cZ cB ad w σ8) _ _ _ _ (by rw [← Option.some.inj h]) (by rw [← Option.some.inj h]) rfl dX10_count_106 hP hS
  have h := ite_f c13 h
  by_cases c14 : a1 = 5
  · have h := ite_t c14 h
    refine lv_tableIn (tgt := 107) (off := 99) hx hb dX10_count_8 (by rw [c14]; decide) (by rw [c14]; decide) (by rw [c14]; rfl) (by decide) ?_
    refine lv_aload_n hx hb dX10_count_107 rfl (lv_at hl 1 rfl) ?_
    refine va_get (ci := 8) (v := .int (σ8 0 32)) (C := RX10) (T := TX10) (N := 42) hx hb hts hinX10 hown hK hP 0 rfl rfl 32 (by decide) fl7 (fun _ h9 => h9) rfl dX10_count_108 ?_
    exact hR (some (.int (σ8 0 32))) (wdX10 cI cZ cB ad w σ8) _ _ _ _ (by rw [← Option.some.inj h]) (by rw [← Option.some.inj h]) rfl dX10_count_111 hP hS
  have h := ite_f c14 h
  by_cases c15 : a1 = 6
  · have h := ite_t c15 h
    refine lv_tableIn (tgt := 112) (off := 104) hx hb dX10_count_8 (by rw [c15]; decide) (by rw [c15]; decide) (by rw [c15]; rfl) (by decide) ?_
    refine lv_aload_n hx hb dX10_count_112 rfl (lv_at hl 1 rfl) ?_
    refine va_get (ci := 8) (v := .int (σ8 0 2)) (C := RX10) (T := TX10) (N := 42) hx hb hts hinX10 hown hK hP 0 rfl rfl 2 (by decide) fl8 (fun _ h9 => h9) rfl dX10_count_113 ?_
    exact hR (some (.int (σ8 0 2))) (wdX10 cI cZ cB ad w σ8) _ _ _ _ (by rw [← Option.some.inj h]) (by rw [← Option.some.inj h]) rfl dX10_count_116 hP hS
  have h := ite_f c15 h
  refine lv_tableOut (tgt := 117) hx hb dX10_count_8 (tb_out 0 6 (fun k h1 h2 => by
    rcases (show k = 0 ∨ k = 1 ∨ k = 2 ∨ k = 3 ∨ k = 4 ∨ k = 5 ∨ k = 6 by omega) with rfl | rfl | rfl | rfl | rfl | rfl | rfl
    · exact c9
    · exact c10
    · exact c11
    · exact c12
    · exact c13
    · exact c14
    · exact c15)) (by decide) ?_
  refine lv_iconst (v := (-1)) hx hb dX10_count_117 (by decide) ?_
  exact hR (some (.int (-1))) (wdX10 cI cZ cB ad w σ8) _ _ _ _ (by rw [← Option.some.inj h]) (by rw [← Option.some.inj h]) rfl dX10_count_118 hP hS
set_option maxHeartbeats 4000000 in
set_option maxRecDepth 100000 in
theorem mX10_count (l : Launch) (D : va_G) (cI cZ cB : ClassId) (ad : Nat → Nat) (w : Int64) (σ : Mem) (sz : Nat) (a1 : Int32) (res : Int32 × Mem) (h : X10_count a1 σ = some res) : Met l yX10_count wsX10_count rmX10_count (pW D cI cZ cB (wdX10 cI cZ cB ad w σ) sz [.ref (ad 0), .int a1]) (qW D (some (.int res.1)) (wdX10 cI cZ cB ad w res.2) (va_A (wdX10 cI cZ cB ad w σ) sz)) 0 0 (va_A (wdX10 cI cZ cB ad w σ) sz) := (bX10_count l D cI cZ cB ad w σ a1 res h).met (by decide +kernel) rfl (Nat.le_of_ble_eq_true rfl)
