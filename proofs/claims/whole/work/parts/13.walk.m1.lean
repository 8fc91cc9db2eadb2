/-! printed: the walks -/
def rmX10_isDigit : Room := { frames := 0, cells := 0, slots := 0, locals := 0 }
set_option maxHeartbeats 4000000 in
set_option maxRecDepth 100000 in
theorem bX10_isDigit (l : Launch) (D : va_G) (cI cZ cB : ClassId) (a0 : Int32) (res : Int32) (h : X10_isDigit a0 = some res) : BR l yX10_isDigit wsX10_isDigit rmX10_isDigit cX10_isDigit 1 (some .boolean) D cI cZ cB wd0 [.int a0] (some (.int res)) := by
  intro p e s m args below meth c ls Q hx hb hml hts hown hK hP hl0 hR
  have hl : lv_has ls 1 [(0, .int a0)] := hl0
  rw [X10_isDigit] at h
  refine lv_iload_n hx hb dX10_isDigit_0 rfl (lv_at hl 0 rfl) ?_
  refine lv_bipush (v := 48) hx hb dX10_isDigit_1 (by decide) ?_
  refine lv_icmp_lt (tgt := 16) hx hb dX10_isDigit_3 (by decide) (fun c1 => ?_) (fun c1 => ?_)
  · have h := ite_t c1 h
    refine lv_iconst (v := 0) hx hb dX10_isDigit_16 (by decide) ?_
    exact hR (some (.int 0)) _ _ (by rw [← Option.some.inj h]) nb0 dX10_isDigit_17
  · have h := ite_f c1 h
    refine lv_iload_n hx hb dX10_isDigit_6 rfl (lv_at hl 0 rfl) ?_
    refine lv_bipush (v := 57) hx hb dX10_isDigit_7 (by decide) ?_
    refine lv_icmp_gt (tgt := 16) hx hb dX10_isDigit_9 (by decide) (fun c2 => ?_) (fun c2 => ?_)
    · have h := ite_t c2 h
      refine lv_iconst (v := 0) hx hb dX10_isDigit_16 (by decide) ?_
      exact hR (some (.int 0)) _ _ (by rw [← Option.some.inj h]) nb0 dX10_isDigit_17
    · have h := ite_f c2 h
      refine lv_iconst (v := 1) hx hb dX10_isDigit_12 (by decide) ?_
      refine lv_goto (tgt := 17) hx hb dX10_isDigit_13 (by decide) ?_
      exact hR (some (.int 1)) _ _ (by rw [← Option.some.inj h]) nb1 dX10_isDigit_17
set_option maxHeartbeats 4000000 in
set_option maxRecDepth 100000 in
theorem mX10_isDigit (l : Launch) (D : va_G) (cI cZ cB : ClassId) (a0 : Int32) (res : Int32) (h : X10_isDigit a0 = some res) : Met l yX10_isDigit wsX10_isDigit rmX10_isDigit (pR D cI cZ cB wd0 [.int a0]) (qR (some (.int res))) 0 0 (fun _ => False) := (bX10_isDigit l D cI cZ cB a0 res h).met (by decide +kernel) rfl (Nat.le_of_ble_eq_true rfl)
def rmX10_next : Room := { frames := 1, cells := 0, slots := 0, locals := 20 }
set_option maxHeartbeats 4000000 in
set_option maxRecDepth 100000 in
theorem bX10_next (l : Launch) (D : va_G) (cI cZ cB : ClassId) (ad : Nat → Nat) (w : Int64) (σ : Mem) (res : Mem × Int64) (h : X10_next σ w = some res) : BW l yX10_next wsX10_next rmX10_next cX10_next 3 none D cI cZ cB (wdX10 cI cZ cB ad w σ) [.ref (ad 0)] none (wdX10 cI cZ cB ad res.2 res.1) := by
  intro p e s m args below meth c ls Q A hx hb hml hts hown hK hA hP hD hS hl0 hR
  have hinX10 : ∀ w ∈ u_ws RX10 TX10 42, w ∈ wsX10_next := (fun _ h => List.mem_cons_of_mem _ (List.mem_append_right _ h))
  have fl1 := hts (.fieldLink RX10 112 "LawNumbererModel" "word" "J") (by decide +kernel)
  have fl2 := hts (.fieldLink RX10 99 "LawNumbererModel" "p" "I") (by decide +kernel)
  have fl3 := hts (.fieldLink RX10 109 "LawNumbererModel" "at" "I") (by decide +kernel)
  have fl4 := hts (.constantLong RX10 122 (-1)) (by decide +kernel)
  have fl5 := hts (.constantLong RX10 120 (59)) (by decide +kernel)
  have hl : lv_has ls 3 [(0, .ref (ad 0))] := hl0
  have n153 : ∀ (σ : Mem) (w : Int64) (H : Heap) (locs : List Loc), va_P D vwCl (wdX10 cI cZ cB ad w σ) H → va_D A (wdX10 cI cZ cB ad w σ) → va_S A s.heap H locs → ∀ (ls : Array Slot), lv_has ls 3 [(0, .ref (ad 0))] → X10_next_153 σ w = some res → W p l e rmX10_next s m args below meth c H locs 0 0 Q (F0 m 153 ls []) := by
    intro σ w H locs hP hD hS ls hl h
    rw [X10_next_153] at h
    refine lv_aload_n hx hb dX10_next_153 rfl (lv_at hl 0 rfl) ?_
    refine lv_lconst (v := 1) hx hb dX10_next_154 (by decide) ?_
    obtain ⟨w1, ew1, h⟩ := lt_e h
    refine lv_topF ew1 ?_
    refine va_put (ci := 8) (v := .long w1) (ty := .long) (C := RX10) (T := TX10) (N := 42) hx hb hts hinX10 tyX10 tyX10_ok nmX10 hown hK hP hD hS 0 rfl rfl 14 (by decide) fl1 (fun _ h9 => h9) rfl (by decide +kernel) rfl rfl (Nat.le_of_ble_eq_true rfl) dX10_next_155 (fun H locs hP1 hD1 hS => ?_)
    have hP : va_P D vwCl (wdX10 cI cZ cB ad w1 σ) H := by exact hP1
    have hD : va_D A (wdX10 cI cZ cB ad w1 σ) := D_of (by rfl) hD
    exact hR none (wdX10 cI cZ cB ad w1 σ) _ _ _ _ rfl (by rw [← Option.some.inj h]) trivial dX10_next_158 hP hS
  have n93 : ∀ (n : Nat) (x2 : Int32) (σ : Mem) (w : Int64) (H : Heap) (locs : List Loc), va_P D vwCl (wdX10 cI cZ cB ad w σ) H → va_D A (wdX10 cI cZ cB ad w σ) → va_S A s.heap H locs → ∀ (ls : Array Slot), lv_has ls 3 [(0, .ref (ad 0)), (2, .int x2)] → X10_next_93 n x2 σ w = some res → W p l e rmX10_next s m args below meth c H locs 0 0 Q (F0 m 93 ls []) := by
    intro n
    induction n with
    | zero =>
      intro x2 σ w H locs hP hD hS ls hl h
      rw [X10_next_93] at h
      cases h
    | succ n_93 ih93 =>
      have n126 : ∀ (x2 : Int32) (σ : Mem) (w : Int64) (H : Heap) (locs : List Loc), va_P D vwCl (wdX10 cI cZ cB ad w σ) H → va_D A (wdX10 cI cZ cB ad w σ) → va_S A s.heap H locs → ∀ (ls : Array Slot), lv_has ls 3 [(0, .ref (ad 0)), (2, .int x2)] → X10_next_126 (X10_next_93 n_93) x2 σ w = some res → W p l e rmX10_next s m args below meth c H locs 0 0 Q (F0 m 126 ls []) := by
        intro x2 σ w H locs hP hD hS ls hl h
        rw [X10_next_126] at h
        obtain ⟨x2_2, ex2_2, h⟩ := lt_e h
        refine lv_iinc (v := x2_2) (lv' := [(2, .int x2_2), (0, .ref (ad 0))]) hx hb dX10_next_126 hl (k := 1) rfl (by rw [ex2_2]; rfl) (by decide) rfl (fun ls hl => ?_)
        refine lv_aload_n hx hb dX10_next_129 rfl (lv_at hl 1 rfl) ?_
        refine lv_dup hx hb dX10_next_130 rfl ?_
        refine va_get (ci := 8) (v := .int (σ 0 4)) (C := RX10) (T := TX10) (N := 42) hx hb hts hinX10 hown hK hP 0 rfl rfl 4 (by decide) fl2 (fun _ h9 => h9) rfl dX10_next_131 ?_
        refine lv_iconst (v := 1) hx hb dX10_next_134 (by decide) ?_
        refine lv_iadd hx hb dX10_next_135 ?_
        obtain ⟨σ3, eσ3, h⟩ := lt_e h
        refine va_put (ci := 8) (v := .int ((σ 0 4) + 1)) (ty := .int) (C := RX10) (T := TX10) (N := 42) hx hb hts hinX10 tyX10 tyX10_ok nmX10 hown hK hP hD hS 0 rfl rfl 4 (by decide) fl2 (fun _ h9 => h9) rfl (by decide +kernel) rfl rfl (Nat.le_of_ble_eq_true rfl) dX10_next_136 (fun H locs hP1 hD1 hS => ?_)
        have hP : va_P D vwCl (wdX10 cI cZ cB ad w σ3) H := by rw [eσ3]; exact hP1
        have hD : va_D A (wdX10 cI cZ cB ad w σ3) := D_of (by rfl) hD
        refine lv_goto (tgt := 93) hx hb dX10_next_139 (by decide) ?_
        exact ih93 x2_2 σ3 w _ _ hP hD hS _ (lv_sub hl [1, 0] rfl) h
      intro x2 σ w H locs hP hD hS ls hl h
      rw [X10_next_93] at h
      refine lv_aload_n hx hb dX10_next_93 rfl (lv_at hl 0 rfl) ?_
      obtain ⟨r4, hr4, h⟩ := bd_e h
      refine cl_RV (rest := []) (ci := 8) (q0 := 0) ⟨hx, hb, hml, hown, hts⟩ (mX10_peek l D cI cZ cB ad w σ r4 hr4) (cwV 0 hts gX10_next_X10_peek rfl rfl rfl (by decide +kernel) ⟨Nat.le_of_ble_eq_true rfl, Nat.le_of_ble_eq_true rfl⟩) hK hP rfl rfl rfl rfl hl.1 rfl (Nat.le_of_ble_eq_true rfl) dX10_next_94 ⟨Nat.zero_le _, Nat.zero_le _⟩ ?_
      refine W.eq (g2 := F0 m 97 ls [.int r4]) rfl ?_
      obtain ⟨r5, hr5, h⟩ := bd_e h
      refine cl_RS (rest := []) ⟨hx, hb, hml, hown, hts⟩ (mX10_isSmall l D cI cZ cB r4 r5 hr5) (va_cwS 1 hts gX10_next_X10_isSmall rfl rfl rfl (by decide +kernel) ⟨Nat.le_of_ble_eq_true rfl, Nat.le_of_ble_eq_true rfl⟩) hK wd0_P rfl hl.1 rfl (Nat.le_of_ble_eq_true rfl) dX10_next_97 ⟨Nat.zero_le _, Nat.zero_le _⟩ ?_
      refine W.eq (g2 := F0 m 100 ls [.int r5]) rfl ?_
      refine lv_if_eq (tgt := 142) hx hb dX10_next_100 (by decide) (fun c6 => ?_) (fun c6 => ?_)
      · have h := ite_t c6 h
        refine lv_iload_n hx hb dX10_next_142 rfl (lv_at hl 1 rfl) ?_
        refine lv_bipush (v := 7) hx hb dX10_next_143 (by decide) ?_
        refine lv_icmp_gt (tgt := 153) hx hb dX10_next_145 (by decide) (fun c7 => ?_) (fun c7 => ?_)
        · have h := ite_t c7 h
          exact n153 σ w _ _ hP hD hS _ (lv_sub hl [0] rfl) h
        · have h := ite_f c7 h
          refine lv_iload_n hx hb dX10_next_148 rfl (lv_at hl 1 rfl) ?_
          refine lv_iconst (v := 2) hx hb dX10_next_149 (by decide) ?_
          refine lv_icmp_ge (tgt := 158) hx hb dX10_next_150 (by decide) (fun c8 => ?_) (fun c8 => ?_)
          · have h := ite_t c8 h
            exact hR none (wdX10 cI cZ cB ad w σ) _ _ _ _ rfl (by rw [← Option.some.inj h]) trivial dX10_next_158 hP hS
          · have h := ite_f c8 h
            exact n153 σ w _ _ hP hD hS _ (lv_sub hl [0] rfl) h
      · have h := ite_f c6 h
        refine lv_iload_n hx hb dX10_next_103 rfl (lv_at hl 1 rfl) ?_
        refine lv_bipush (v := 7) hx hb dX10_next_104 (by decide) ?_
        refine lv_icmp_ge (tgt := 126) hx hb dX10_next_106 (by decide) (fun c9 => ?_) (fun c9 => ?_)
        · have h := ite_t c9 h
          exact n126 x2 σ w _ _ hP hD hS _ (lv_sub hl [0, 1] rfl) h
        · have h := ite_f c9 h
          refine lv_aload_n hx hb dX10_next_109 rfl (lv_at hl 0 rfl) ?_
          refine lv_aload_n hx hb dX10_next_110 rfl (lv_at hl 0 rfl) ?_
          refine va_get (ci := 8) (v := .long w) (C := RX10) (T := TX10) (N := 42) hx hb hts hinX10 hown hK hP 0 rfl rfl 14 (by decide) fl1 (fun _ h9 => h9) rfl dX10_next_111 ?_
          refine lv_bipush (v := 8) hx hb dX10_next_114 (by decide) ?_
          refine lv_lshl (v := w <<< (Int32.toInt64 8 &&& 63)) hx hb dX10_next_116 rfl ?_
          refine lv_aload_n hx hb dX10_next_117 rfl (lv_at hl 0 rfl) ?_
          obtain ⟨r10, hr10, h⟩ := bd_e h
          refine cl_RV (rest := [.long (w <<< (Int32.toInt64 8 &&& 63)), .ref (ad 0)]) (ci := 8) (q0 := 0) ⟨hx, hb, hml, hown, hts⟩ (mX10_peek l D cI cZ cB ad w σ r10 hr10) (cwV 0 hts gX10_next_X10_peek rfl rfl rfl (by decide +kernel) ⟨Nat.le_of_ble_eq_true rfl, Nat.le_of_ble_eq_true rfl⟩) hK hP rfl rfl rfl rfl hl.1 rfl (Nat.le_of_ble_eq_true rfl) dX10_next_118 ⟨Nat.zero_le _, Nat.zero_le _⟩ ?_
          refine W.eq (g2 := F0 m 121 ls [.int r10, .long (w <<< (Int32.toInt64 8 &&& 63)), .ref (ad 0)]) rfl ?_
          refine lv_i2l (v := Int32.toInt64 r10) hx hb dX10_next_121 rfl ?_
          refine lv_lor hx hb dX10_next_122 ?_
          obtain ⟨w11, ew11, h⟩ := lt_e h
          refine lv_topF ew11 ?_
          refine va_put (ci := 8) (v := .long w11) (ty := .long) (C := RX10) (T := TX10) (N := 42) hx hb hts hinX10 tyX10 tyX10_ok nmX10 hown hK hP hD hS 0 rfl rfl 14 (by decide) fl1 (fun _ h9 => h9) rfl (by decide +kernel) rfl rfl (Nat.le_of_ble_eq_true rfl) dX10_next_123 (fun H locs hP1 hD1 hS => ?_)
          have hP : va_P D vwCl (wdX10 cI cZ cB ad w11 σ) H := by exact hP1
          have hD : va_D A (wdX10 cI cZ cB ad w11 σ) := D_of (by rfl) hD
          exact n126 x2 σ w11 _ _ hP hD hS _ (lv_sub hl [0, 1] rfl) h
  have n77 : ∀ (y1 : Int64) (σ : Mem) (w : Int64) (H : Heap) (locs : List Loc), va_P D vwCl (wdX10 cI cZ cB ad w σ) H → va_D A (wdX10 cI cZ cB ad w σ) → va_S A s.heap H locs → ∀ (ls : Array Slot), lv_has ls 3 [(0, .ref (ad 0))] → X10_next_77 y1 σ w = some res → W p l e rmX10_next s m args below meth c H locs 0 0 Q (F0 m 77 ls [.long y1, .ref (ad 0)]) := by
    intro y1 σ w H locs hP hD hS ls hl h
    rw [X10_next_77] at h
    obtain ⟨w12, ew12, h⟩ := lt_e h
    refine lv_topF ew12 ?_
    refine va_put (ci := 8) (v := .long w12) (ty := .long) (C := RX10) (T := TX10) (N := 42) hx hb hts hinX10 tyX10 tyX10_ok nmX10 hown hK hP hD hS 0 rfl rfl 14 (by decide) fl1 (fun _ h9 => h9) rfl (by decide +kernel) rfl rfl (Nat.le_of_ble_eq_true rfl) dX10_next_77 (fun H locs hP1 hD1 hS => ?_)
    have hP : va_P D vwCl (wdX10 cI cZ cB ad w12 σ) H := by exact hP1
    have hD : va_D A (wdX10 cI cZ cB ad w12 σ) := D_of (by rfl) hD
    refine lv_aload_n hx hb dX10_next_80 rfl (lv_at hl 0 rfl) ?_
    refine lv_dup hx hb dX10_next_81 rfl ?_
    refine va_get (ci := 8) (v := .int (σ 0 4)) (C := RX10) (T := TX10) (N := 42) hx hb hts hinX10 hown hK hP 0 rfl rfl 4 (by decide) fl2 (fun _ h9 => h9) rfl dX10_next_82 ?_
    refine lv_iconst (v := 1) hx hb dX10_next_85 (by decide) ?_
    refine lv_iadd hx hb dX10_next_86 ?_
    obtain ⟨σ13, eσ13, h⟩ := lt_e h
    refine va_put (ci := 8) (v := .int ((σ 0 4) + 1)) (ty := .int) (C := RX10) (T := TX10) (N := 42) hx hb hts hinX10 tyX10 tyX10_ok nmX10 hown hK hP hD hS 0 rfl rfl 4 (by decide) fl2 (fun _ h9 => h9) rfl (by decide +kernel) rfl rfl (Nat.le_of_ble_eq_true rfl) dX10_next_87 (fun H locs hP1 hD1 hS => ?_)
    have hP : va_P D vwCl (wdX10 cI cZ cB ad w12 σ13) H := by rw [eσ13]; exact hP1
    have hD : va_D A (wdX10 cI cZ cB ad w12 σ13) := D_of (by rfl) hD
    exact hR none (wdX10 cI cZ cB ad w12 σ13) _ _ _ _ rfl (by rw [← Option.some.inj h]) trivial dX10_next_90 hP hS
  have n0 : ∀ (n : Nat) (σ : Mem) (w : Int64) (H : Heap) (locs : List Loc), va_P D vwCl (wdX10 cI cZ cB ad w σ) H → va_D A (wdX10 cI cZ cB ad w σ) → va_S A s.heap H locs → ∀ (ls : Array Slot), lv_has ls 3 [(0, .ref (ad 0))] → X10_next_0 n σ w = some res → W p l e rmX10_next s m args below meth c H locs 0 0 Q (F0 m 0 ls []) := by
    intro n
    induction n with
    | zero =>
      intro σ w H locs hP hD hS ls hl h
      rw [X10_next_0] at h
      cases h
    | succ n_0 ih0 =>
      have n18 : ∀ (σ : Mem) (w : Int64) (H : Heap) (locs : List Loc), va_P D vwCl (wdX10 cI cZ cB ad w σ) H → va_D A (wdX10 cI cZ cB ad w σ) → va_S A s.heap H locs → ∀ (ls : Array Slot), lv_has ls 3 [(0, .ref (ad 0))] → X10_next_18 (X10_next_0 n_0) σ w = some res → W p l e rmX10_next s m args below meth c H locs 0 0 Q (F0 m 18 ls []) := by
        intro σ w H locs hP hD hS ls hl h
        rw [X10_next_18] at h
        refine lv_aload_n hx hb dX10_next_18 rfl (lv_at hl 0 rfl) ?_
        refine lv_dup hx hb dX10_next_19 rfl ?_
        refine va_get (ci := 8) (v := .int (σ 0 4)) (C := RX10) (T := TX10) (N := 42) hx hb hts hinX10 hown hK hP 0 rfl rfl 4 (by decide) fl2 (fun _ h9 => h9) rfl dX10_next_20 ?_
        refine lv_iconst (v := 1) hx hb dX10_next_23 (by decide) ?_
        refine lv_iadd hx hb dX10_next_24 ?_
        obtain ⟨σ14, eσ14, h⟩ := lt_e h
        refine va_put (ci := 8) (v := .int ((σ 0 4) + 1)) (ty := .int) (C := RX10) (T := TX10) (N := 42) hx hb hts hinX10 tyX10 tyX10_ok nmX10 hown hK hP hD hS 0 rfl rfl 4 (by decide) fl2 (fun _ h9 => h9) rfl (by decide +kernel) rfl rfl (Nat.le_of_ble_eq_true rfl) dX10_next_25 (fun H locs hP1 hD1 hS => ?_)
        have hP : va_P D vwCl (wdX10 cI cZ cB ad w σ14) H := by rw [eσ14]; exact hP1
        have hD : va_D A (wdX10 cI cZ cB ad w σ14) := D_of (by rfl) hD
        refine lv_goto (tgt := 0) hx hb dX10_next_28 (by decide) ?_
        exact ih0 σ14 w _ _ hP hD hS _ (lv_sub hl [0] rfl) h
      intro σ w H locs hP hD hS ls hl h
      rw [X10_next_0] at h
      refine lv_aload_n hx hb dX10_next_0 rfl (lv_at hl 0 rfl) ?_
      obtain ⟨r15, hr15, h⟩ := bd_e h
      refine cl_RV (rest := []) (ci := 8) (q0 := 0) ⟨hx, hb, hml, hown, hts⟩ (mX10_peek l D cI cZ cB ad w σ r15 hr15) (cwV 0 hts gX10_next_X10_peek rfl rfl rfl (by decide +kernel) ⟨Nat.le_of_ble_eq_true rfl, Nat.le_of_ble_eq_true rfl⟩) hK hP rfl rfl rfl rfl hl.1 rfl (Nat.le_of_ble_eq_true rfl) dX10_next_1 ⟨Nat.zero_le _, Nat.zero_le _⟩ ?_
      refine W.eq (g2 := F0 m 4 ls [.int r15]) rfl ?_
      refine lv_bipush (v := 32) hx hb dX10_next_4 (by decide) ?_
      refine lv_icmp_eq (tgt := 18) hx hb dX10_next_6 (by decide) (fun c16 => ?_) (fun c16 => ?_)
      · have h := ite_t c16 h
        exact n18 σ w _ _ hP hD hS _ (lv_sub hl [0] rfl) h
      · have h := ite_f c16 h
        refine lv_aload_n hx hb dX10_next_9 rfl (lv_at hl 0 rfl) ?_
        obtain ⟨r17, hr17, h⟩ := bd_e h
        refine cl_RV (rest := []) (ci := 8) (q0 := 0) ⟨hx, hb, hml, hown, hts⟩ (mX10_peek l D cI cZ cB ad w σ r17 hr17) (cwV 0 hts gX10_next_X10_peek rfl rfl rfl (by decide +kernel) ⟨Nat.le_of_ble_eq_true rfl, Nat.le_of_ble_eq_true rfl⟩) hK hP rfl rfl rfl rfl hl.1 rfl (Nat.le_of_ble_eq_true rfl) dX10_next_10 ⟨Nat.zero_le _, Nat.zero_le _⟩ ?_
        refine W.eq (g2 := F0 m 13 ls [.int r17]) rfl ?_
        refine lv_bipush (v := 10) hx hb dX10_next_13 (by decide) ?_
        refine lv_icmp_ne (tgt := 31) hx hb dX10_next_15 (by decide) (fun c18 => ?_) (fun c18 => ?_)
        · have h := ite_f c18 h
          refine lv_aload_n hx hb dX10_next_31 rfl (lv_at hl 0 rfl) ?_
          refine lv_aload_n hx hb dX10_next_32 rfl (lv_at hl 0 rfl) ?_
          refine va_get (ci := 8) (v := .int (σ 0 4)) (C := RX10) (T := TX10) (N := 42) hx hb hts hinX10 hown hK hP 0 rfl rfl 4 (by decide) fl2 (fun _ h9 => h9) rfl dX10_next_33 ?_
          obtain ⟨σ19, eσ19, h⟩ := lt_e h
          refine va_put (ci := 8) (v := .int (σ 0 4)) (ty := .int) (C := RX10) (T := TX10) (N := 42) hx hb hts hinX10 tyX10 tyX10_ok nmX10 hown hK hP hD hS 0 rfl rfl 15 (by decide) fl3 (fun _ h9 => h9) rfl (by decide +kernel) rfl rfl (Nat.le_of_ble_eq_true rfl) dX10_next_36 (fun H locs hP1 hD1 hS => ?_)
          have hP : va_P D vwCl (wdX10 cI cZ cB ad w σ19) H := by rw [eσ19]; exact hP1
          have hD : va_D A (wdX10 cI cZ cB ad w σ19) := D_of (by rfl) hD
          refine lv_aload_n hx hb dX10_next_39 rfl (lv_at hl 0 rfl) ?_
          refine lv_lconst (v := 0) hx hb dX10_next_40 (by decide) ?_
          obtain ⟨w20, ew20, h⟩ := lt_e h
          refine lv_topF ew20 ?_
          refine va_put (ci := 8) (v := .long w20) (ty := .long) (C := RX10) (T := TX10) (N := 42) hx hb hts hinX10 tyX10 tyX10_ok nmX10 hown hK hP hD hS 0 rfl rfl 14 (by decide) fl1 (fun _ h9 => h9) rfl (by decide +kernel) rfl rfl (Nat.le_of_ble_eq_true rfl) dX10_next_41 (fun H locs hP1 hD1 hS => ?_)
          have hP : va_P D vwCl (wdX10 cI cZ cB ad w20 σ19) H := by exact hP1
          have hD : va_D A (wdX10 cI cZ cB ad w20 σ19) := D_of (by rfl) hD
          refine lv_aload_n hx hb dX10_next_44 rfl (lv_at hl 0 rfl) ?_
          obtain ⟨r21, hr21, h⟩ := bd_e h
          refine cl_RV (rest := []) (ci := 8) (q0 := 0) ⟨hx, hb, hml, hown, hts⟩ (mX10_peek l D cI cZ cB ad w20 σ19 r21 hr21) (cwV 0 hts gX10_next_X10_peek rfl rfl rfl (by decide +kernel) ⟨Nat.le_of_ble_eq_true rfl, Nat.le_of_ble_eq_true rfl⟩) hK hP rfl rfl rfl rfl hl.1 rfl (Nat.le_of_ble_eq_true rfl) dX10_next_45 ⟨Nat.zero_le _, Nat.zero_le _⟩ ?_
          refine W.eq (g2 := F0 m 48 ls [.int r21]) rfl ?_
          refine lv_istore_n (lv' := [(1, .int r21), (0, .ref (ad 0))]) hx hb dX10_next_48 rfl hl (by decide) rfl (fun ls hl => ?_)
          refine lv_iload_n hx hb dX10_next_49 rfl (lv_at hl 0 rfl) ?_
          refine lv_if_ge (tgt := 54) hx hb dX10_next_50 (by decide) (fun c22 => ?_) (fun c22 => ?_)
          · have h := ite_t c22 h
            refine lv_iload_n hx hb dX10_next_54 rfl (lv_at hl 0 rfl) ?_
            obtain ⟨r23, hr23, h⟩ := bd_e h
            refine cl_RS (rest := []) ⟨hx, hb, hml, hown, hts⟩ (mX10_isSmall l D cI cZ cB r21 r23 hr23) (va_cwS 1 hts gX10_next_X10_isSmall rfl rfl rfl (by decide +kernel) ⟨Nat.le_of_ble_eq_true rfl, Nat.le_of_ble_eq_true rfl⟩) hK wd0_P rfl hl.1 rfl (Nat.le_of_ble_eq_true rfl) dX10_next_55 ⟨Nat.zero_le _, Nat.zero_le _⟩ ?_
            refine W.eq (g2 := F0 m 58 ls [.int r23]) rfl ?_
            refine lv_if_ne (tgt := 91) hx hb dX10_next_58 (by decide) (fun c24 => ?_) (fun c24 => ?_)
            · have h := ite_f c24 h
              refine lv_iconst (v := 0) hx hb dX10_next_91 (by decide) ?_
              refine lv_istore_n (lv' := [(2, .int 0), (1, .int r21), (0, .ref (ad 0))]) hx hb dX10_next_92 rfl hl (by decide) rfl (fun ls hl => ?_)
              exact n93 FU 0 σ19 w20 _ _ hP hD hS _ (lv_sub hl [2, 0] rfl) h
            · have h := ite_t c24 h
              refine lv_aload_n hx hb dX10_next_61 rfl (lv_at hl 1 rfl) ?_
              refine lv_iload_n hx hb dX10_next_62 rfl (lv_at hl 0 rfl) ?_
              refine lv_bipush (v := 59) hx hb dX10_next_63 (by decide) ?_
              refine lv_icmp_ne (tgt := 74) hx hb dX10_next_65 (by decide) (fun c25 => ?_) (fun c25 => ?_)
              · have h := ite_f c25 h
                refine lv_ldc2 (v := (-1)) hx hb hown fl4 dX10_next_74 ?_
                exact n77 (-1) σ19 w20 _ _ hP hD hS _ (lv_sub hl [1] rfl) h
              · have h := ite_t c25 h
                refine lv_ldc2 (v := 59) hx hb hown fl5 dX10_next_68 ?_
                refine lv_goto (tgt := 77) hx hb dX10_next_71 (by decide) ?_
                exact n77 59 σ19 w20 _ _ hP hD hS _ (lv_sub hl [1] rfl) h
          · have h := ite_f c22 h
            exact hR none (wdX10 cI cZ cB ad w20 σ19) _ _ _ _ rfl (by rw [← Option.some.inj h]) trivial dX10_next_53 hP hS
        · have h := ite_t c18 h
          exact n18 σ w _ _ hP hD hS _ (lv_sub hl [0] rfl) h
  rw [X10_next] at h
  have hS := hS
  exact n0 FU σ w _ _ hP hD hS _ (lv_sub hl [0] rfl) h
set_option maxHeartbeats 4000000 in
set_option maxRecDepth 100000 in
theorem mX10_next (l : Launch) (D : va_G) (cI cZ cB : ClassId) (ad : Nat → Nat) (w : Int64) (σ : Mem) (sz : Nat) (res : Mem × Int64) (h : X10_next σ w = some res) : Met l yX10_next wsX10_next rmX10_next (pW D cI cZ cB (wdX10 cI cZ cB ad w σ) sz [.ref (ad 0)]) (qW D none (wdX10 cI cZ cB ad res.2 res.1) (va_A (wdX10 cI cZ cB ad w σ) sz)) 0 0 (va_A (wdX10 cI cZ cB ad w σ) sz) := (bX10_next l D cI cZ cB ad w σ res h).metv (by decide +kernel) rfl (Nat.le_of_ble_eq_true rfl)
def rmX10_cant : Room := { frames := 1, cells := 0, slots := 0, locals := 22 }
set_option maxHeartbeats 4000000 in
set_option maxRecDepth 100000 in
theorem bX10_cant (l : Launch) (D : va_G) (cI cZ cB : ClassId) (ad : Nat → Nat) (w : Int64) (σ : Mem) (res : Int32 × Mem × Int64) (h : X10_cant σ w = some res) : BW l yX10_cant wsX10_cant rmX10_cant cX10_cant 1 (some .boolean) D cI cZ cB (wdX10 cI cZ cB ad w σ) [.ref (ad 0)] (some (.int res.1)) (wdX10 cI cZ cB ad res.2.2 res.2.1) := by
  intro p e s m args below meth c ls Q A hx hb hml hts hown hK hA hP hD hS hl0 hR
  have hinX10 : ∀ w ∈ u_ws RX10 TX10 42, w ∈ wsX10_cant := (fun _ h => List.mem_cons_of_mem _ (List.mem_append_right _ h))
  have fl1 := hts (.fieldLink RX10 109 "LawNumbererModel" "at" "I") (by decide +kernel)
  have fl2 := hts (.fieldLink RX10 112 "LawNumbererModel" "word" "J") (by decide +kernel)
  have fl3 := hts (.constantLong RX10 122 (-1)) (by decide +kernel)
  have hl : lv_has ls 1 [(0, .ref (ad 0))] := hl0
  have n17 : ∀ (y1 : Int32) (σ : Mem) (w : Int64) (H : Heap) (locs : List Loc), va_P D vwCl (wdX10 cI cZ cB ad w σ) H → va_D A (wdX10 cI cZ cB ad w σ) → va_S A s.heap H locs → ∀ (ls : Array Slot), lv_has ls 1 [(0, .ref (ad 0))] → X10_cant_17 y1 σ w = some res → W p l e rmX10_cant s m args below meth c H locs 0 0 Q (F0 m 17 ls [.int y1, .ref (ad 0)]) := by
    intro y1 σ w H locs hP hD hS ls hl h
    rw [X10_cant_17] at h
    refine lv_aload_n hx hb dX10_cant_17 rfl (lv_at hl 0 rfl) ?_
    refine va_get (ci := 8) (v := .int (σ 0 15)) (C := RX10) (T := TX10) (N := 42) hx hb hts hinX10 hown hK hP 0 rfl rfl 15 (by decide) fl1 (fun _ h9 => h9) rfl dX10_cant_18 ?_
    obtain ⟨r1, hr1, h⟩ := bd_e h
    obtain ⟨σ2, eσ2, h⟩ := lt_e h
    refine cl_WVs (rest := []) (wn := (wdX10 cI cZ cB ad w σ2)) (ci := 8) (q0 := 0) ⟨hx, hb, hml, hown, hts⟩ (mX10_wrong l D cI cZ cB ad w σ H.size y1 (σ 0 15) r1 hr1) (cwV 2 hts gX10_cant_X10_wrong rfl rfl rfl (by decide +kernel) ⟨Nat.le_of_ble_eq_true rfl, Nat.le_of_ble_eq_true rfl⟩) hK hP hD hS hA (by rw [eσ2]) rfl rfl rfl rfl rfl hl.1 rfl (Nat.le_of_ble_eq_true rfl) dX10_cant_21 ⟨Nat.zero_le _, Nat.zero_le _⟩ (fun H locs hP hD hS => ?_)
    refine W.eq (g2 := F0 m 24 ls [.int r1.1]) rfl ?_
    obtain ⟨hg3, h⟩ := gp_e h
    exact hR (some (.int r1.1)) (wdX10 cI cZ cB ad w σ2) _ _ _ _ (by rw [← Option.some.inj h]) (by rw [← Option.some.inj h]) (nb_of hg3) dX10_cant_24 hP hS
  rw [X10_cant] at h
  have hS := hS
  refine lv_aload_n hx hb dX10_cant_0 rfl (lv_at hl 0 rfl) ?_
  refine lv_aload_n hx hb dX10_cant_1 rfl (lv_at hl 0 rfl) ?_
  refine va_get (ci := 8) (v := .long w) (C := RX10) (T := TX10) (N := 42) hx hb hts hinX10 hown hK hP 0 rfl rfl 14 (by decide) fl2 (fun _ h9 => h9) rfl dX10_cant_2 ?_
  refine lv_ldc2 (v := (-1)) hx hb hown fl3 dX10_cant_5 ?_
  refine W.lcmp hx hb dX10_cant_8 ?_
  refine lv_if_ne (tgt := 16) hx hb dX10_cant_9 (by decide) (fun c4 => ?_) (fun c4 => ?_)
  · have h := ite_f c4 h
    refine lv_iconst (v := 2) hx hb dX10_cant_16 (by decide) ?_
    exact n17 2 σ w _ _ hP hD hS _ (lv_sub hl [0] rfl) h
  · have h := ite_t c4 h
    refine lv_iconst (v := 1) hx hb dX10_cant_12 (by decide) ?_
    refine lv_goto (tgt := 17) hx hb dX10_cant_13 (by decide) ?_
    exact n17 1 σ w _ _ hP hD hS _ (lv_sub hl [0] rfl) h
set_option maxHeartbeats 4000000 in
set_option maxRecDepth 100000 in
theorem mX10_cant (l : Launch) (D : va_G) (cI cZ cB : ClassId) (ad : Nat → Nat) (w : Int64) (σ : Mem) (sz : Nat) (res : Int32 × Mem × Int64) (h : X10_cant σ w = some res) : Met l yX10_cant wsX10_cant rmX10_cant (pW D cI cZ cB (wdX10 cI cZ cB ad w σ) sz [.ref (ad 0)]) (qW D (some (.int res.1)) (wdX10 cI cZ cB ad res.2.2 res.2.1) (va_A (wdX10 cI cZ cB ad w σ) sz)) 0 0 (va_A (wdX10 cI cZ cB ad w σ) sz) := (bX10_cant l D cI cZ cB ad w σ res h).met (by decide +kernel) rfl (Nat.le_of_ble_eq_true rfl)
def rmX10_formOf : Room := { frames := 0, cells := 0, slots := 0, locals := 0 }
set_option maxHeartbeats 4000000 in
set_option maxRecDepth 100000 in
theorem bX10_formOf (l : Launch) (D : va_G) (cI cZ cB : ClassId) (ad : Nat → Nat) (w : Int64) (σ : Mem) (res : Int32) (h : X10_formOf σ w = some res) : BR l yX10_formOf wsX10_formOf rmX10_formOf cX10_formOf 1 (some .int) D cI cZ cB (wdX10 cI cZ cB ad w σ) [.ref (ad 0)] (some (.int res)) := by
  intro p e s m args below meth c ls Q hx hb hml hts hown hK hP hl0 hR
  have hinX10 : ∀ w ∈ u_ws RX10 TX10 42, w ∈ wsX10_formOf := (fun _ h => List.mem_cons_of_mem _ (List.mem_append_right _ h))
  have fl1 := hts (.fieldLink RX10 112 "LawNumbererModel" "word" "J") (by decide +kernel)
  have fl2 := hts (.constantLong RX10 128 (121450625394034)) (by decide +kernel)
  have fl3 := hts (.constantLong RX10 130 (491495711086)) (by decide +kernel)
  have fl4 := hts (.constantLong RX10 132 (119183001281906)) (by decide +kernel)
  have fl5 := hts (.constantLong RX10 134 (495756340332)) (by decide +kernel)
  have hl : lv_has ls 1 [(0, .ref (ad 0))] := hl0
  rw [X10_formOf] at h
  refine lv_aload_n hx hb dX10_formOf_0 rfl (lv_at hl 0 rfl) ?_
  refine va_get (ci := 8) (v := .long w) (C := RX10) (T := TX10) (N := 42) hx hb hts hinX10 hown hK hP 0 rfl rfl 14 (by decide) fl1 (fun _ h9 => h9) rfl dX10_formOf_1 ?_
  refine lv_ldc2 (v := 121450625394034) hx hb hown fl2 dX10_formOf_4 ?_
  refine W.lcmp hx hb dX10_formOf_7 ?_
  refine lv_if_ne (tgt := 15) hx hb dX10_formOf_8 (by decide) (fun c1 => ?_) (fun c1 => ?_)
  · have h := ite_f c1 h
    refine lv_aload_n hx hb dX10_formOf_15 rfl (lv_at hl 0 rfl) ?_
    refine va_get (ci := 8) (v := .long w) (C := RX10) (T := TX10) (N := 42) hx hb hts hinX10 hown hK hP 0 rfl rfl 14 (by decide) fl1 (fun _ h9 => h9) rfl dX10_formOf_16 ?_
    refine lv_ldc2 (v := 491495711086) hx hb hown fl3 dX10_formOf_19 ?_
    refine W.lcmp hx hb dX10_formOf_22 ?_
    refine lv_if_ne (tgt := 30) hx hb dX10_formOf_23 (by decide) (fun c2 => ?_) (fun c2 => ?_)
    · have h := ite_f c2 h
      refine lv_aload_n hx hb dX10_formOf_30 rfl (lv_at hl 0 rfl) ?_
      refine va_get (ci := 8) (v := .long w) (C := RX10) (T := TX10) (N := 42) hx hb hts hinX10 hown hK hP 0 rfl rfl 14 (by decide) fl1 (fun _ h9 => h9) rfl dX10_formOf_31 ?_
      refine lv_ldc2 (v := 119183001281906) hx hb hown fl4 dX10_formOf_34 ?_
      refine W.lcmp hx hb dX10_formOf_37 ?_
      refine lv_if_ne (tgt := 45) hx hb dX10_formOf_38 (by decide) (fun c3 => ?_) (fun c3 => ?_)
      · have h := ite_f c3 h
        refine lv_aload_n hx hb dX10_formOf_45 rfl (lv_at hl 0 rfl) ?_
        refine va_get (ci := 8) (v := .long w) (C := RX10) (T := TX10) (N := 42) hx hb hts hinX10 hown hK hP 0 rfl rfl 14 (by decide) fl1 (fun _ h9 => h9) rfl dX10_formOf_46 ?_
        refine lv_ldc2 (v := 495756340332) hx hb hown fl5 dX10_formOf_49 ?_
        refine W.lcmp hx hb dX10_formOf_52 ?_
        refine lv_if_ne (tgt := 60) hx hb dX10_formOf_53 (by decide) (fun c4 => ?_) (fun c4 => ?_)
        · have h := ite_f c4 h
          refine lv_iconst (v := (-1)) hx hb dX10_formOf_60 (by decide) ?_
          exact hR (some (.int (-1))) _ _ (by rw [← Option.some.inj h]) rfl dX10_formOf_61
        · have h := ite_t c4 h
          refine lv_iconst (v := 3) hx hb dX10_formOf_56 (by decide) ?_
          refine lv_goto (tgt := 61) hx hb dX10_formOf_57 (by decide) ?_
          exact hR (some (.int 3)) _ _ (by rw [← Option.some.inj h]) rfl dX10_formOf_61
      · have h := ite_t c3 h
        refine lv_iconst (v := 2) hx hb dX10_formOf_41 (by decide) ?_
        refine lv_goto (tgt := 61) hx hb dX10_formOf_42 (by decide) ?_
        exact hR (some (.int 2)) _ _ (by rw [← Option.some.inj h]) rfl dX10_formOf_61
    · have h := ite_t c2 h
      refine lv_iconst (v := 1) hx hb dX10_formOf_26 (by decide) ?_
      refine lv_goto (tgt := 61) hx hb dX10_formOf_27 (by decide) ?_
      exact hR (some (.int 1)) _ _ (by rw [← Option.some.inj h]) rfl dX10_formOf_61
  · have h := ite_t c1 h
    refine lv_iconst (v := 0) hx hb dX10_formOf_11 (by decide) ?_
    refine lv_goto (tgt := 61) hx hb dX10_formOf_12 (by decide) ?_
    exact hR (some (.int 0)) _ _ (by rw [← Option.some.inj h]) rfl dX10_formOf_61
set_option maxHeartbeats 4000000 in
set_option maxRecDepth 100000 in
theorem mX10_formOf (l : Launch) (D : va_G) (cI cZ cB : ClassId) (ad : Nat → Nat) (w : Int64) (σ : Mem) (res : Int32) (h : X10_formOf σ w = some res) : Met l yX10_formOf wsX10_formOf rmX10_formOf (pR D cI cZ cB (wdX10 cI cZ cB ad w σ) [.ref (ad 0)]) (qR (some (.int res))) 0 0 (fun _ => False) := (bX10_formOf l D cI cZ cB ad w σ res h).met (by decide +kernel) rfl (Nat.le_of_ble_eq_true rfl)
def rmX10_readLevels : Room := { frames := 2, cells := 0, slots := 0, locals := 42 }
set_option maxHeartbeats 4000000 in
set_option maxRecDepth 100000 in
theorem bX10_readLevels (l : Launch) (D : va_G) (cI cZ cB : ClassId) (ad : Nat → Nat) (w : Int64) (σ : Mem) (res : Int32 × Mem × Int64) (h : X10_readLevels σ w = some res) : BW l yX10_readLevels wsX10_readLevels rmX10_readLevels cX10_readLevels 2 (some .boolean) D cI cZ cB (wdX10 cI cZ cB ad w σ) [.ref (ad 0)] (some (.int res.1)) (wdX10 cI cZ cB ad res.2.2 res.2.1) := by
  intro p e s m args below meth c ls Q A hx hb hml hts hown hK hA hP hD hS hl0 hR
  have hinX10 : ∀ w ∈ u_ws RX10 TX10 42, w ∈ wsX10_readLevels := (fun _ h => List.mem_cons_of_mem _ (List.mem_append_right _ h))
  have fl1 := hts (.fieldLink RX10 112 "LawNumbererModel" "word" "J") (by decide +kernel)
  have fl2 := hts (.constantLong RX10 120 (59)) (by decide +kernel)
  have fl3 := hts (.fieldLink RX10 136 "LawNumbererModel" "newLevels" "I") (by decide +kernel)
  have fl4 := hts (.fieldLink RX10 24 "LawNumbererModel" "newThrough" "[Z") (by decide +kernel)
  have fl5 := hts (.fieldLink RX10 17 "LawNumbererModel" "newForm" "[I") (by decide +kernel)
  have fl6 := hts (.constantLong RX10 149 (32765938003961704)) (by decide +kernel)
  have fl7 := hts (.fieldLink RX10 109 "LawNumbererModel" "at" "I") (by decide +kernel)
  have hl : lv_has ls 2 [(0, .ref (ad 0))] := hl0
  have n9 : ∀ (n : Nat) (σ : Mem) (w : Int64) (H : Heap) (locs : List Loc), va_P D vwCl (wdX10 cI cZ cB ad w σ) H → va_D A (wdX10 cI cZ cB ad w σ) → va_S A s.heap H locs → ∀ (ls : Array Slot), lv_has ls 2 [(0, .ref (ad 0))] → X10_readLevels_9 n σ w = some res → W p l e rmX10_readLevels s m args below meth c H locs 0 0 Q (F0 m 9 ls []) := by
    intro n
    induction n with
    | zero =>
      intro σ w H locs hP hD hS ls hl h
      rw [X10_readLevels_9] at h
      cases h
    | succ n_9 ih9 =>
      have n112 : ∀ (σ : Mem) (w : Int64) (H : Heap) (locs : List Loc), va_P D vwCl (wdX10 cI cZ cB ad w σ) H → va_D A (wdX10 cI cZ cB ad w σ) → va_S A s.heap H locs → ∀ (ls : Array Slot), lv_has ls 2 [(0, .ref (ad 0))] → X10_readLevels_112 (X10_readLevels_9 n_9) σ w = some res → W p l e rmX10_readLevels s m args below meth c H locs 0 0 Q (F0 m 112 ls []) := by
        intro σ w H locs hP hD hS ls hl h
        rw [X10_readLevels_112] at h
        refine lv_aload_n hx hb dX10_readLevels_112 rfl (lv_at hl 0 rfl) ?_
        refine va_get (ci := 8) (v := .long w) (C := RX10) (T := TX10) (N := 42) hx hb hts hinX10 hown hK hP 0 rfl rfl 14 (by decide) fl1 (fun _ h9 => h9) rfl dX10_readLevels_113 ?_
        refine lv_ldc2 (v := 59) hx hb hown fl2 dX10_readLevels_116 ?_
        refine W.lcmp hx hb dX10_readLevels_119 ?_
        refine lv_if_eq (tgt := 128) hx hb dX10_readLevels_120 (by decide) (fun c1 => ?_) (fun c1 => ?_)
        · have h := ite_t c1 h
          refine lv_aload_n hx hb dX10_readLevels_128 rfl (lv_at hl 0 rfl) ?_
          refine lv_dup hx hb dX10_readLevels_129 rfl ?_
          refine va_get (ci := 8) (v := .int (σ 0 10)) (C := RX10) (T := TX10) (N := 42) hx hb hts hinX10 hown hK hP 0 rfl rfl 10 (by decide) fl3 (fun _ h9 => h9) rfl dX10_readLevels_130 ?_
          refine lv_iconst (v := 1) hx hb dX10_readLevels_133 (by decide) ?_
          refine lv_iadd hx hb dX10_readLevels_134 ?_
          obtain ⟨σ2, eσ2, h⟩ := lt_e h
          refine va_put (ci := 8) (v := .int ((σ 0 10) + 1)) (ty := .int) (C := RX10) (T := TX10) (N := 42) hx hb hts hinX10 tyX10 tyX10_ok nmX10 hown hK hP hD hS 0 rfl rfl 10 (by decide) fl3 (fun _ h9 => h9) rfl (by decide +kernel) rfl rfl (Nat.le_of_ble_eq_true rfl) dX10_readLevels_135 (fun H locs hP1 hD1 hS => ?_)
          have hP : va_P D vwCl (wdX10 cI cZ cB ad w σ2) H := by rw [eσ2]; exact hP1
          have hD : va_D A (wdX10 cI cZ cB ad w σ2) := D_of (by rfl) hD
          refine lv_aload_n hx hb dX10_readLevels_138 rfl (lv_at hl 0 rfl) ?_
          obtain ⟨r3, hr3, h⟩ := bd_e h
          obtain ⟨σ4, eσ4, h⟩ := lt_e h
          obtain ⟨w5, ew5, h⟩ := lt_e h
          refine cl_WVs (rest := []) (wn := (wdX10 cI cZ cB ad w5 σ4)) (ci := 8) (q0 := 0) ⟨hx, hb, hml, hown, hts⟩ (mX10_next l D cI cZ cB ad w σ2 H.size r3 hr3) (cwV 0 hts gX10_readLevels_X10_next rfl rfl rfl (by decide +kernel) ⟨Nat.le_of_ble_eq_true rfl, Nat.le_of_ble_eq_true rfl⟩) hK hP hD hS hA (by rw [eσ4, ew5]) rfl rfl rfl rfl rfl hl.1 rfl (Nat.le_of_ble_eq_true rfl) dX10_readLevels_139 ⟨Nat.zero_le _, Nat.zero_le _⟩ (fun H locs hP hD hS => ?_)
          refine W.eq (g2 := F0 m 142 ls []) rfl ?_
          refine lv_goto (tgt := 9) hx hb dX10_readLevels_142 (by decide) ?_
          exact ih9 σ4 w5 _ _ hP hD hS _ (lv_sub hl [0] rfl) h
        · have h := ite_f c1 h
          refine lv_aload_n hx hb dX10_readLevels_123 rfl (lv_at hl 0 rfl) ?_
          obtain ⟨r6, hr6, h⟩ := bd_e h
          obtain ⟨σ7, eσ7, h⟩ := lt_e h
          obtain ⟨w8, ew8, h⟩ := lt_e h
          refine cl_WVs (rest := []) (wn := (wdX10 cI cZ cB ad w8 σ7)) (ci := 8) (q0 := 0) ⟨hx, hb, hml, hown, hts⟩ (mX10_cant l D cI cZ cB ad w σ H.size r6 hr6) (cwV 0 hts gX10_readLevels_X10_cant rfl rfl rfl (by decide +kernel) ⟨Nat.le_of_ble_eq_true rfl, Nat.le_of_ble_eq_true rfl⟩) hK hP hD hS hA (by rw [eσ7, ew8]) rfl rfl rfl rfl rfl hl.1 rfl (Nat.le_of_ble_eq_true rfl) dX10_readLevels_124 ⟨Nat.zero_le _, Nat.zero_le _⟩ (fun H locs hP hD hS => ?_)
          refine W.eq (g2 := F0 m 127 ls [.int r6.1]) rfl ?_
          obtain ⟨hg9, h⟩ := gp_e h
          exact hR (some (.int r6.1)) (wdX10 cI cZ cB ad w8 σ7) _ _ _ _ (by rw [← Option.some.inj h]) (by rw [← Option.some.inj h]) (nb_of hg9) dX10_readLevels_127 hP hS
      have n95 : ∀ (y1 : Int32) (y2 : Int32) (σ : Mem) (w : Int64) (H : Heap) (locs : List Loc), va_P D vwCl (wdX10 cI cZ cB ad w σ) H → va_D A (wdX10 cI cZ cB ad w σ) → va_S A s.heap H locs → ∀ (ls : Array Slot), lv_has ls 2 [(0, .ref (ad 0))] → X10_readLevels_95 (X10_readLevels_9 n_9) y1 y2 σ w = some res → W p l e rmX10_readLevels s m args below meth c H locs 0 0 Q (F0 m 95 ls [.int y2, .int y1, .ref (ad 5)]) := by
        intro y1 y2 σ w H locs hP hD hS ls hl h
        rw [X10_readLevels_95] at h
        obtain ⟨hin10, h⟩ := gd_e h
        obtain ⟨σ11, eσ11, h⟩ := lt_e h
        refine va_zast hx hb hK hP hD hS 5 1 rfl rfl hin10 dX10_readLevels_95 (fun H locs hP1 hD1 hS => ?_)
        have hP : va_P D vwCl (wdX10 cI cZ cB ad w σ11) H := by rw [eσ11]; exact hP1
        have hD : va_D A (wdX10 cI cZ cB ad w σ11) := D_of (by rfl) hD
        refine lv_aload_n hx hb dX10_readLevels_96 rfl (lv_at hl 0 rfl) ?_
        refine va_get (ci := 8) (v := .ref (ad 5)) (C := RX10) (T := TX10) (N := 42) hx hb hts hinX10 hown hK hP 0 rfl rfl 8 (by decide) fl4 (fun _ h9 => h9) rfl dX10_readLevels_97 ?_
        refine lv_aload_n hx hb dX10_readLevels_100 rfl (lv_at hl 0 rfl) ?_
        refine va_get (ci := 8) (v := .int (σ11 0 10)) (C := RX10) (T := TX10) (N := 42) hx hb hts hinX10 hown hK hP 0 rfl rfl 10 (by decide) fl3 (fun _ h9 => h9) rfl dX10_readLevels_101 ?_
        obtain ⟨hin12, h⟩ := gd_e h
        refine va_zald hx hb hK hP 5 1 rfl rfl hin12 dX10_readLevels_104 ?_
        refine lv_if_eq (tgt := 112) hx hb dX10_readLevels_105 (by decide) (fun c13 => ?_) (fun c13 => ?_)
        · have h := ite_t c13 h
          exact n112 σ11 w _ _ hP hD hS _ (lv_sub hl [0] rfl) h
        · have h := ite_f c13 h
          refine lv_aload_n hx hb dX10_readLevels_108 rfl (lv_at hl 0 rfl) ?_
          obtain ⟨r14, hr14, h⟩ := bd_e h
          obtain ⟨σ15, eσ15, h⟩ := lt_e h
          obtain ⟨w16, ew16, h⟩ := lt_e h
          refine cl_WVs (rest := []) (wn := (wdX10 cI cZ cB ad w16 σ15)) (ci := 8) (q0 := 0) ⟨hx, hb, hml, hown, hts⟩ (mX10_next l D cI cZ cB ad w σ11 H.size r14 hr14) (cwV 0 hts gX10_readLevels_X10_next rfl rfl rfl (by decide +kernel) ⟨Nat.le_of_ble_eq_true rfl, Nat.le_of_ble_eq_true rfl⟩) hK hP hD hS hA (by rw [eσ15, ew16]) rfl rfl rfl rfl rfl hl.1 rfl (Nat.le_of_ble_eq_true rfl) dX10_readLevels_109 ⟨Nat.zero_le _, Nat.zero_le _⟩ (fun H locs hP hD hS => ?_)
          refine W.eq (g2 := F0 m 112 ls []) rfl ?_
          exact n112 σ15 w16 _ _ hP hD hS _ (lv_sub hl [0] rfl) h
      have n25 : ∀ (σ : Mem) (w : Int64) (H : Heap) (locs : List Loc), va_P D vwCl (wdX10 cI cZ cB ad w σ) H → va_D A (wdX10 cI cZ cB ad w σ) → va_S A s.heap H locs → ∀ (ls : Array Slot), lv_has ls 2 [(0, .ref (ad 0))] → X10_readLevels_25 (X10_readLevels_9 n_9) σ w = some res → W p l e rmX10_readLevels s m args below meth c H locs 0 0 Q (F0 m 25 ls []) := by
        intro σ w H locs hP hD hS ls hl h
        rw [X10_readLevels_25] at h
        refine lv_aload_n hx hb dX10_readLevels_25 rfl (lv_at hl 0 rfl) ?_
        obtain ⟨r17, hr17, h⟩ := bd_e h
        refine cl_RV (rest := []) (ci := 8) (q0 := 0) ⟨hx, hb, hml, hown, hts⟩ (mX10_formOf l D cI cZ cB ad w σ r17 hr17) (cwV 0 hts gX10_readLevels_X10_formOf rfl rfl rfl (by decide +kernel) ⟨Nat.le_of_ble_eq_true rfl, Nat.le_of_ble_eq_true rfl⟩) hK hP rfl rfl rfl rfl hl.1 rfl (Nat.le_of_ble_eq_true rfl) dX10_readLevels_26 ⟨Nat.zero_le _, Nat.zero_le _⟩ ?_
        refine W.eq (g2 := F0 m 29 ls [.int r17]) rfl ?_
        refine lv_istore_n (lv' := [(1, .int r17), (0, .ref (ad 0))]) hx hb dX10_readLevels_29 rfl hl (by decide) rfl (fun ls hl => ?_)
        refine lv_iload_n hx hb dX10_readLevels_30 rfl (lv_at hl 0 rfl) ?_
        refine lv_if_ge (tgt := 39) hx hb dX10_readLevels_31 (by decide) (fun c18 => ?_) (fun c18 => ?_)
        · have h := ite_t c18 h
          refine lv_aload_n hx hb dX10_readLevels_39 rfl (lv_at hl 1 rfl) ?_
          refine va_get (ci := 8) (v := .int (σ 0 10)) (C := RX10) (T := TX10) (N := 42) hx hb hts hinX10 hown hK hP 0 rfl rfl 10 (by decide) fl3 (fun _ h9 => h9) rfl dX10_readLevels_40 ?_
          refine lv_iconst (v := 4) hx hb dX10_readLevels_43 (by decide) ?_
          refine lv_icmp_ne (tgt := 57) hx hb dX10_readLevels_44 (by decide) (fun c19 => ?_) (fun c19 => ?_)
          · have h := ite_f c19 h
            refine lv_aload_n hx hb dX10_readLevels_57 rfl (lv_at hl 1 rfl) ?_
            obtain ⟨r20, hr20, h⟩ := bd_e h
            obtain ⟨σ21, eσ21, h⟩ := lt_e h
            obtain ⟨w22, ew22, h⟩ := lt_e h
            refine cl_WVs (rest := []) (wn := (wdX10 cI cZ cB ad w22 σ21)) (ci := 8) (q0 := 0) ⟨hx, hb, hml, hown, hts⟩ (mX10_next l D cI cZ cB ad w σ H.size r20 hr20) (cwV 0 hts gX10_readLevels_X10_next rfl rfl rfl (by decide +kernel) ⟨Nat.le_of_ble_eq_true rfl, Nat.le_of_ble_eq_true rfl⟩) hK hP hD hS hA (by rw [eσ21, ew22]) rfl rfl rfl rfl rfl hl.1 rfl (Nat.le_of_ble_eq_true rfl) dX10_readLevels_58 ⟨Nat.zero_le _, Nat.zero_le _⟩ (fun H locs hP hD hS => ?_)
            refine W.eq (g2 := F0 m 61 ls []) rfl ?_
            refine lv_aload_n hx hb dX10_readLevels_61 rfl (lv_at hl 1 rfl) ?_
            refine va_get (ci := 8) (v := .ref (ad 3)) (C := RX10) (T := TX10) (N := 42) hx hb hts hinX10 hown hK hP 0 rfl rfl 6 (by decide) fl5 (fun _ h9 => h9) rfl dX10_readLevels_62 ?_
            refine lv_aload_n hx hb dX10_readLevels_65 rfl (lv_at hl 1 rfl) ?_
            refine va_get (ci := 8) (v := .int (σ21 0 10)) (C := RX10) (T := TX10) (N := 42) hx hb hts hinX10 hown hK hP 0 rfl rfl 10 (by decide) fl3 (fun _ h9 => h9) rfl dX10_readLevels_66 ?_
            refine lv_iload_n hx hb dX10_readLevels_69 rfl (lv_at hl 0 rfl) ?_
            obtain ⟨hin23, h⟩ := gd_e h
            obtain ⟨σ24, eσ24, h⟩ := lt_e h
            refine va_iast hx hb hK hP hD hS 3 0 rfl rfl hin23 dX10_readLevels_70 (fun H locs hP1 hD1 hS => ?_)
            have hP : va_P D vwCl (wdX10 cI cZ cB ad w22 σ24) H := by rw [eσ24]; exact hP1
            have hD : va_D A (wdX10 cI cZ cB ad w22 σ24) := D_of (by rfl) hD
            refine lv_aload_n hx hb dX10_readLevels_71 rfl (lv_at hl 1 rfl) ?_
            refine va_get (ci := 8) (v := .ref (ad 5)) (C := RX10) (T := TX10) (N := 42) hx hb hts hinX10 hown hK hP 0 rfl rfl 8 (by decide) fl4 (fun _ h9 => h9) rfl dX10_readLevels_72 ?_
            refine lv_aload_n hx hb dX10_readLevels_75 rfl (lv_at hl 1 rfl) ?_
            refine va_get (ci := 8) (v := .int (σ24 0 10)) (C := RX10) (T := TX10) (N := 42) hx hb hts hinX10 hown hK hP 0 rfl rfl 10 (by decide) fl3 (fun _ h9 => h9) rfl dX10_readLevels_76 ?_
            refine lv_aload_n hx hb dX10_readLevels_79 rfl (lv_at hl 1 rfl) ?_
            refine va_get (ci := 8) (v := .long w22) (C := RX10) (T := TX10) (N := 42) hx hb hts hinX10 hown hK hP 0 rfl rfl 14 (by decide) fl1 (fun _ h9 => h9) rfl dX10_readLevels_80 ?_
            refine lv_ldc2 (v := 32765938003961704) hx hb hown fl6 dX10_readLevels_83 ?_
            refine W.lcmp hx hb dX10_readLevels_86 ?_
            refine lv_if_ne (tgt := 94) hx hb dX10_readLevels_87 (by decide) (fun c25 => ?_) (fun c25 => ?_)
            · have h := ite_f c25 h
              refine lv_iconst (v := 0) hx hb dX10_readLevels_94 (by decide) ?_
              exact n95 (σ24 0 10) 0 σ24 w22 _ _ hP hD hS _ (lv_sub hl [1] rfl) h
            · have h := ite_t c25 h
              refine lv_iconst (v := 1) hx hb dX10_readLevels_90 (by decide) ?_
              refine lv_goto (tgt := 95) hx hb dX10_readLevels_91 (by decide) ?_
              exact n95 (σ24 0 10) 1 σ24 w22 _ _ hP hD hS _ (lv_sub hl [1] rfl) h
          · have h := ite_t c19 h
            refine lv_aload_n hx hb dX10_readLevels_47 rfl (lv_at hl 1 rfl) ?_
            refine lv_iconst (v := 3) hx hb dX10_readLevels_48 (by decide) ?_
            refine lv_aload_n hx hb dX10_readLevels_49 rfl (lv_at hl 1 rfl) ?_
            refine va_get (ci := 8) (v := .int (σ 0 15)) (C := RX10) (T := TX10) (N := 42) hx hb hts hinX10 hown hK hP 0 rfl rfl 15 (by decide) fl7 (fun _ h9 => h9) rfl dX10_readLevels_50 ?_
            obtain ⟨r26, hr26, h⟩ := bd_e h
            obtain ⟨σ27, eσ27, h⟩ := lt_e h
            refine cl_WVs (rest := []) (wn := (wdX10 cI cZ cB ad w σ27)) (ci := 8) (q0 := 0) ⟨hx, hb, hml, hown, hts⟩ (mX10_wrong l D cI cZ cB ad w σ H.size 3 (σ 0 15) r26 hr26) (cwV 2 hts gX10_readLevels_X10_wrong rfl rfl rfl (by decide +kernel) ⟨Nat.le_of_ble_eq_true rfl, Nat.le_of_ble_eq_true rfl⟩) hK hP hD hS hA (by rw [eσ27]) rfl rfl rfl rfl rfl hl.1 rfl (Nat.le_of_ble_eq_true rfl) dX10_readLevels_53 ⟨Nat.zero_le _, Nat.zero_le _⟩ (fun H locs hP hD hS => ?_)
            refine W.eq (g2 := F0 m 56 ls [.int r26.1]) rfl ?_
            obtain ⟨hg28, h⟩ := gp_e h
            exact hR (some (.int r26.1)) (wdX10 cI cZ cB ad w σ27) _ _ _ _ (by rw [← Option.some.inj h]) (by rw [← Option.some.inj h]) (nb_of hg28) dX10_readLevels_56 hP hS
        · have h := ite_f c18 h
          refine lv_aload_n hx hb dX10_readLevels_34 rfl (lv_at hl 1 rfl) ?_
          obtain ⟨r29, hr29, h⟩ := bd_e h
          obtain ⟨σ30, eσ30, h⟩ := lt_e h
          obtain ⟨w31, ew31, h⟩ := lt_e h
          refine cl_WVs (rest := []) (wn := (wdX10 cI cZ cB ad w31 σ30)) (ci := 8) (q0 := 0) ⟨hx, hb, hml, hown, hts⟩ (mX10_cant l D cI cZ cB ad w σ H.size r29 hr29) (cwV 0 hts gX10_readLevels_X10_cant rfl rfl rfl (by decide +kernel) ⟨Nat.le_of_ble_eq_true rfl, Nat.le_of_ble_eq_true rfl⟩) hK hP hD hS hA (by rw [eσ30, ew31]) rfl rfl rfl rfl rfl hl.1 rfl (Nat.le_of_ble_eq_true rfl) dX10_readLevels_35 ⟨Nat.zero_le _, Nat.zero_le _⟩ (fun H locs hP hD hS => ?_)
          refine W.eq (g2 := F0 m 38 ls [.int r29.1]) rfl ?_
          obtain ⟨hg32, h⟩ := gp_e h
          exact hR (some (.int r29.1)) (wdX10 cI cZ cB ad w31 σ30) _ _ _ _ (by rw [← Option.some.inj h]) (by rw [← Option.some.inj h]) (nb_of hg32) dX10_readLevels_38 hP hS
      intro σ w H locs hP hD hS ls hl h
      rw [X10_readLevels_9] at h
      refine lv_aload_n hx hb dX10_readLevels_9 rfl (lv_at hl 0 rfl) ?_
      refine va_get (ci := 8) (v := .long w) (C := RX10) (T := TX10) (N := 42) hx hb hts hinX10 hown hK hP 0 rfl rfl 14 (by decide) fl1 (fun _ h9 => h9) rfl dX10_readLevels_10 ?_
      refine lv_lconst (v := 0) hx hb dX10_readLevels_13 (by decide) ?_
      refine W.lcmp hx hb dX10_readLevels_14 ?_
      refine lv_if_ne (tgt := 25) hx hb dX10_readLevels_15 (by decide) (fun c33 => ?_) (fun c33 => ?_)
      · have h := ite_f c33 h
        exact n25 σ w _ _ hP hD hS _ (lv_sub hl [0] rfl) h
      · have h := ite_t c33 h
        refine lv_aload_n hx hb dX10_readLevels_18 rfl (lv_at hl 0 rfl) ?_
        refine va_get (ci := 8) (v := .int (σ 0 10)) (C := RX10) (T := TX10) (N := 42) hx hb hts hinX10 hown hK hP 0 rfl rfl 10 (by decide) fl3 (fun _ h9 => h9) rfl dX10_readLevels_19 ?_
        refine lv_if_ne (tgt := 145) hx hb dX10_readLevels_22 (by decide) (fun c34 => ?_) (fun c34 => ?_)
        · have h := ite_f c34 h
          refine lv_iconst (v := 1) hx hb dX10_readLevels_145 (by decide) ?_
          exact hR (some (.int 1)) (wdX10 cI cZ cB ad w σ) _ _ _ _ (by rw [← Option.some.inj h]) (by rw [← Option.some.inj h]) nb1 dX10_readLevels_146 hP hS
        · have h := ite_t c34 h
          exact n25 σ w _ _ hP hD hS _ (lv_sub hl [0] rfl) h
  rw [X10_readLevels] at h
  have hS := hS
  refine lv_aload_n hx hb dX10_readLevels_0 rfl (lv_at hl 0 rfl) ?_
  refine lv_iconst (v := 0) hx hb dX10_readLevels_1 (by decide) ?_
  obtain ⟨σ35, eσ35, h⟩ := lt_e h
  refine va_put (ci := 8) (v := .int 0) (ty := .int) (C := RX10) (T := TX10) (N := 42) hx hb hts hinX10 tyX10 tyX10_ok nmX10 hown hK hP hD hS 0 rfl rfl 10 (by decide) fl3 (fun _ h9 => h9) rfl (by decide +kernel) rfl rfl (Nat.le_of_ble_eq_true rfl) dX10_readLevels_2 (fun H locs hP1 hD1 hS => ?_)
  have hP : va_P D vwCl (wdX10 cI cZ cB ad w σ35) H := by rw [eσ35]; exact hP1
  have hD : va_D A (wdX10 cI cZ cB ad w σ35) := D_of (by rfl) hD
  refine lv_aload_n hx hb dX10_readLevels_5 rfl (lv_at hl 0 rfl) ?_
  obtain ⟨r36, hr36, h⟩ := bd_e h
  obtain ⟨σ37, eσ37, h⟩ := lt_e h
  obtain ⟨w38, ew38, h⟩ := lt_e h
  refine cl_WVs (rest := []) (wn := (wdX10 cI cZ cB ad w38 σ37)) (ci := 8) (q0 := 0) ⟨hx, hb, hml, hown, hts⟩ (mX10_next l D cI cZ cB ad w σ35 H.size r36 hr36) (cwV 0 hts gX10_readLevels_X10_next rfl rfl rfl (by decide +kernel) ⟨Nat.le_of_ble_eq_true rfl, Nat.le_of_ble_eq_true rfl⟩) hK hP hD hS hA (by rw [eσ37, ew38]) rfl rfl rfl rfl rfl hl.1 rfl (Nat.le_of_ble_eq_true rfl) dX10_readLevels_6 ⟨Nat.zero_le _, Nat.zero_le _⟩ (fun H locs hP hD hS => ?_)
  refine W.eq (g2 := F0 m 9 ls []) rfl ?_
  exact n9 FU σ37 w38 _ _ hP hD hS _ (lv_sub hl [0] rfl) h
set_option maxHeartbeats 4000000 in
set_option maxRecDepth 100000 in
theorem mX10_readLevels (l : Launch) (D : va_G) (cI cZ cB : ClassId) (ad : Nat → Nat) (w : Int64) (σ : Mem) (sz : Nat) (res : Int32 × Mem × Int64) (h : X10_readLevels σ w = some res) : Met l yX10_readLevels wsX10_readLevels rmX10_readLevels (pW D cI cZ cB (wdX10 cI cZ cB ad w σ) sz [.ref (ad 0)]) (qW D (some (.int res.1)) (wdX10 cI cZ cB ad res.2.2 res.2.1) (va_A (wdX10 cI cZ cB ad w σ) sz)) 0 0 (va_A (wdX10 cI cZ cB ad w σ) sz) := (bX10_readLevels l D cI cZ cB ad w σ res h).met (by decide +kernel) rfl (Nat.le_of_ble_eq_true rfl)
def rmX10_levels : Room := { frames := 3, cells := 0, slots := 0, locals := 63 }
set_option maxHeartbeats 4000000 in
set_option maxRecDepth 100000 in
theorem bX10_levels (l : Launch) (D : va_G) (cI cZ cB : ClassId) (ad : Nat → Nat) (w : Int64) (σ : Mem) (res : Int32 × Mem × Int64) (h : X10_levels σ w = some res) : BW l yX10_levels wsX10_levels rmX10_levels cX10_levels 2 (some .int) D cI cZ cB (wdX10 cI cZ cB ad w σ) [.ref (ad 0)] (some (.int res.1)) (wdX10 cI cZ cB ad res.2.2 res.2.1) := by
  intro p e s m args below meth c ls Q A hx hb hml hts hown hK hA hP hD hS hl0 hR
  have hinX10 : ∀ w ∈ u_ws RX10 TX10 42, w ∈ wsX10_levels := (fun _ h => List.mem_cons_of_mem _ (List.mem_append_right _ h))
  have fl1 := hts (.fieldLink RX10 27 "LawNumbererModel" "levels" "I") (by decide +kernel)
  have fl2 := hts (.fieldLink RX10 157 "LawNumbererModel" "items" "I") (by decide +kernel)
  have fl3 := hts (.fieldLink RX10 160 "LawNumbererModel" "changes" "I") (by decide +kernel)
  have fl4 := hts (.fieldLink RX10 163 "LawNumbererModel" "acts" "I") (by decide +kernel)
  have fl5 := hts (.fieldLink RX10 166 "LawNumbererModel" "day" "I") (by decide +kernel)
  have fl6 := hts (.fieldLink RX10 13 "LawNumbererModel" "form" "[I") (by decide +kernel)
  have fl7 := hts (.fieldLink RX10 17 "LawNumbererModel" "newForm" "[I") (by decide +kernel)
  have fl8 := hts (.fieldLink RX10 20 "LawNumbererModel" "through" "[Z") (by decide +kernel)
  have fl9 := hts (.fieldLink RX10 24 "LawNumbererModel" "newThrough" "[Z") (by decide +kernel)
  have fl10 := hts (.fieldLink RX10 86 "LawNumbererModel" "thrown" "I") (by decide +kernel)
  have fl11 := hts (.fieldLink RX10 102 "LawNumbererModel" "fault" "I") (by decide +kernel)
  have fl12 := hts (.fieldLink RX10 31 "LawNumbererModel" "place" "I") (by decide +kernel)
  have fl13 := hts (.fieldLink RX10 136 "LawNumbererModel" "newLevels" "I") (by decide +kernel)
  have hl : lv_has ls 2 [(0, .ref (ad 0))] := hl0
  have n43 : ∀ (n : Nat) (x1 : Int32) (σ : Mem) (w : Int64) (H : Heap) (locs : List Loc), va_P D vwCl (wdX10 cI cZ cB ad w σ) H → va_D A (wdX10 cI cZ cB ad w σ) → va_S A s.heap H locs → ∀ (ls : Array Slot), lv_has ls 2 [(0, .ref (ad 0)), (1, .int x1)] → X10_levels_43 n x1 σ w = some res → W p l e rmX10_levels s m args below meth c H locs 0 0 Q (F0 m 43 ls []) := by
    intro n
    induction n with
    | zero =>
      intro x1 σ w H locs hP hD hS ls hl h
      rw [X10_levels_43] at h
      cases h
    | succ n_43 ih43 =>
      intro x1 σ w H locs hP hD hS ls hl h
      rw [X10_levels_43] at h
      refine lv_iload_n hx hb dX10_levels_43 rfl (lv_at hl 1 rfl) ?_
      refine lv_aload_n hx hb dX10_levels_44 rfl (lv_at hl 0 rfl) ?_
      refine va_get (ci := 8) (v := .int (σ 0 9)) (C := RX10) (T := TX10) (N := 42) hx hb hts hinX10 hown hK hP 0 rfl rfl 9 (by decide) fl1 (fun _ h9 => h9) rfl dX10_levels_45 ?_
      refine lv_icmp_ge (tgt := 81) hx hb dX10_levels_48 (by decide) (fun c1 => ?_) (fun c1 => ?_)
      · have h := ite_t c1 h
        refine lv_aload_n hx hb dX10_levels_81 rfl (lv_at hl 0 rfl) ?_
        refine lv_iconst (v := 0) hx hb dX10_levels_82 (by decide) ?_
        obtain ⟨σ2, eσ2, h⟩ := lt_e h
        refine va_put (ci := 8) (v := .int 0) (ty := .int) (C := RX10) (T := TX10) (N := 42) hx hb hts hinX10 tyX10 tyX10_ok nmX10 hown hK hP hD hS 0 rfl rfl 21 (by decide) fl2 (fun _ h9 => h9) rfl (by decide +kernel) rfl rfl (Nat.le_of_ble_eq_true rfl) dX10_levels_83 (fun H locs hP1 hD1 hS => ?_)
        have hP : va_P D vwCl (wdX10 cI cZ cB ad w σ2) H := by rw [eσ2]; exact hP1
        have hD : va_D A (wdX10 cI cZ cB ad w σ2) := D_of (by rfl) hD
        refine lv_aload_n hx hb dX10_levels_86 rfl (lv_at hl 0 rfl) ?_
        refine lv_iconst (v := 0) hx hb dX10_levels_87 (by decide) ?_
        obtain ⟨σ3, eσ3, h⟩ := lt_e h
        refine va_put (ci := 8) (v := .int 0) (ty := .int) (C := RX10) (T := TX10) (N := 42) hx hb hts hinX10 tyX10 tyX10_ok nmX10 hown hK hP hD hS 0 rfl rfl 25 (by decide) fl3 (fun _ h9 => h9) rfl (by decide +kernel) rfl rfl (Nat.le_of_ble_eq_true rfl) dX10_levels_88 (fun H locs hP1 hD1 hS => ?_)
        have hP : va_P D vwCl (wdX10 cI cZ cB ad w σ3) H := by rw [eσ3]; exact hP1
        have hD : va_D A (wdX10 cI cZ cB ad w σ3) := D_of (by rfl) hD
        refine lv_aload_n hx hb dX10_levels_91 rfl (lv_at hl 0 rfl) ?_
        refine lv_iconst (v := 0) hx hb dX10_levels_92 (by decide) ?_
        obtain ⟨σ4, eσ4, h⟩ := lt_e h
        refine va_put (ci := 8) (v := .int 0) (ty := .int) (C := RX10) (T := TX10) (N := 42) hx hb hts hinX10 tyX10 tyX10_ok nmX10 hown hK hP hD hS 0 rfl rfl 29 (by decide) fl4 (fun _ h9 => h9) rfl (by decide +kernel) rfl rfl (Nat.le_of_ble_eq_true rfl) dX10_levels_93 (fun H locs hP1 hD1 hS => ?_)
        have hP : va_P D vwCl (wdX10 cI cZ cB ad w σ4) H := by rw [eσ4]; exact hP1
        have hD : va_D A (wdX10 cI cZ cB ad w σ4) := D_of (by rfl) hD
        refine lv_aload_n hx hb dX10_levels_96 rfl (lv_at hl 0 rfl) ?_
        refine lv_iconst (v := 0) hx hb dX10_levels_97 (by decide) ?_
        obtain ⟨σ5, eσ5, h⟩ := lt_e h
        refine va_put (ci := 8) (v := .int 0) (ty := .int) (C := RX10) (T := TX10) (N := 42) hx hb hts hinX10 tyX10 tyX10_ok nmX10 hown hK hP hD hS 0 rfl rfl 11 (by decide) fl5 (fun _ h9 => h9) rfl (by decide +kernel) rfl rfl (Nat.le_of_ble_eq_true rfl) dX10_levels_98 (fun H locs hP1 hD1 hS => ?_)
        have hP : va_P D vwCl (wdX10 cI cZ cB ad w σ5) H := by rw [eσ5]; exact hP1
        have hD : va_D A (wdX10 cI cZ cB ad w σ5) := D_of (by rfl) hD
        refine lv_aload_n hx hb dX10_levels_101 rfl (lv_at hl 0 rfl) ?_
        refine va_get (ci := 8) (v := .int (σ5 0 9)) (C := RX10) (T := TX10) (N := 42) hx hb hts hinX10 hown hK hP 0 rfl rfl 9 (by decide) fl1 (fun _ h9 => h9) rfl dX10_levels_102 ?_
        exact hR (some (.int (σ5 0 9))) (wdX10 cI cZ cB ad w σ5) _ _ _ _ (by rw [← Option.some.inj h]) (by rw [← Option.some.inj h]) rfl dX10_levels_105 hP hS
      · have h := ite_f c1 h
        refine lv_aload_n hx hb dX10_levels_51 rfl (lv_at hl 0 rfl) ?_
        refine va_get (ci := 8) (v := .ref (ad 2)) (C := RX10) (T := TX10) (N := 42) hx hb hts hinX10 hown hK hP 0 rfl rfl 5 (by decide) fl6 (fun _ h9 => h9) rfl dX10_levels_52 ?_
        refine lv_iload_n hx hb dX10_levels_55 rfl (lv_at hl 1 rfl) ?_
        refine lv_aload_n hx hb dX10_levels_56 rfl (lv_at hl 0 rfl) ?_
        refine va_get (ci := 8) (v := .ref (ad 3)) (C := RX10) (T := TX10) (N := 42) hx hb hts hinX10 hown hK hP 0 rfl rfl 6 (by decide) fl7 (fun _ h9 => h9) rfl dX10_levels_57 ?_
        refine lv_iload_n hx hb dX10_levels_60 rfl (lv_at hl 1 rfl) ?_
        obtain ⟨hin6, h⟩ := gd_e h
        refine va_iald hx hb hK hP 3 0 rfl rfl hin6 dX10_levels_61 ?_
        obtain ⟨hin7, h⟩ := gd_e h
        obtain ⟨σ8, eσ8, h⟩ := lt_e h
        refine va_iast hx hb hK hP hD hS 2 0 rfl rfl hin7 dX10_levels_62 (fun H locs hP1 hD1 hS => ?_)
        have hP : va_P D vwCl (wdX10 cI cZ cB ad w σ8) H := by rw [eσ8]; exact hP1
        have hD : va_D A (wdX10 cI cZ cB ad w σ8) := D_of (by rfl) hD
        refine lv_aload_n hx hb dX10_levels_63 rfl (lv_at hl 0 rfl) ?_
        refine va_get (ci := 8) (v := .ref (ad 4)) (C := RX10) (T := TX10) (N := 42) hx hb hts hinX10 hown hK hP 0 rfl rfl 7 (by decide) fl8 (fun _ h9 => h9) rfl dX10_levels_64 ?_
        refine lv_iload_n hx hb dX10_levels_67 rfl (lv_at hl 1 rfl) ?_
        refine lv_aload_n hx hb dX10_levels_68 rfl (lv_at hl 0 rfl) ?_
        refine va_get (ci := 8) (v := .ref (ad 5)) (C := RX10) (T := TX10) (N := 42) hx hb hts hinX10 hown hK hP 0 rfl rfl 8 (by decide) fl9 (fun _ h9 => h9) rfl dX10_levels_69 ?_
        refine lv_iload_n hx hb dX10_levels_72 rfl (lv_at hl 1 rfl) ?_
        obtain ⟨hin9, h⟩ := gd_e h
        refine va_zald hx hb hK hP 5 1 rfl rfl hin9 dX10_levels_73 ?_
        obtain ⟨hin10, h⟩ := gd_e h
        obtain ⟨σ11, eσ11, h⟩ := lt_e h
        refine va_zast hx hb hK hP hD hS 4 1 rfl rfl hin10 dX10_levels_74 (fun H locs hP1 hD1 hS => ?_)
        have hP : va_P D vwCl (wdX10 cI cZ cB ad w σ11) H := by rw [eσ11]; exact hP1
        have hD : va_D A (wdX10 cI cZ cB ad w σ11) := D_of (by rfl) hD
        obtain ⟨x1_12, ex1_12, h⟩ := lt_e h
        refine lv_iinc (v := x1_12) (lv' := [(1, .int x1_12), (0, .ref (ad 0))]) hx hb dX10_levels_75 hl (k := 1) rfl (by rw [ex1_12]; rfl) (by decide) rfl (fun ls hl => ?_)
        refine lv_goto (tgt := 43) hx hb dX10_levels_78 (by decide) ?_
        exact ih43 x1_12 σ11 w _ _ hP hD hS _ (lv_sub hl [1, 0] rfl) h
  rw [X10_levels] at h
  have hS := hS
  refine lv_aload_n hx hb dX10_levels_0 rfl (lv_at hl 0 rfl) ?_
  refine lv_iconst (v := 0) hx hb dX10_levels_1 (by decide) ?_
  obtain ⟨σ13, eσ13, h⟩ := lt_e h
  refine va_put (ci := 8) (v := .int 0) (ty := .int) (C := RX10) (T := TX10) (N := 42) hx hb hts hinX10 tyX10 tyX10_ok nmX10 hown hK hP hD hS 0 rfl rfl 0 (by decide) fl10 (fun _ h9 => h9) rfl (by decide +kernel) rfl rfl (Nat.le_of_ble_eq_true rfl) dX10_levels_2 (fun H locs hP1 hD1 hS => ?_)
  have hP : va_P D vwCl (wdX10 cI cZ cB ad w σ13) H := by rw [eσ13]; exact hP1
  have hD : va_D A (wdX10 cI cZ cB ad w σ13) := D_of (by rfl) hD
  refine lv_aload_n hx hb dX10_levels_5 rfl (lv_at hl 0 rfl) ?_
  obtain ⟨r14, hr14, h⟩ := bd_e h
  obtain ⟨σ15, eσ15, h⟩ := lt_e h
  refine cl_WVs (rest := []) (wn := (wdX10 cI cZ cB ad w σ15)) (ci := 8) (q0 := 0) ⟨hx, hb, hml, hown, hts⟩ (mX10_taken l D cI cZ cB ad w σ13 H.size r14 hr14) (cwV 0 hts gX10_levels_X10_taken rfl rfl rfl (by decide +kernel) ⟨Nat.le_of_ble_eq_true rfl, Nat.le_of_ble_eq_true rfl⟩) hK hP hD hS hA (by rw [eσ15]) rfl rfl rfl rfl rfl hl.1 rfl (Nat.le_of_ble_eq_true rfl) dX10_levels_6 ⟨Nat.zero_le _, Nat.zero_le _⟩ (fun H locs hP hD hS => ?_)
  refine W.eq (g2 := F0 m 9 ls []) rfl ?_
  refine lv_aload_n hx hb dX10_levels_9 rfl (lv_at hl 0 rfl) ?_
  refine lv_iconst (v := 0) hx hb dX10_levels_10 (by decide) ?_
  obtain ⟨σ16, eσ16, h⟩ := lt_e h
  refine va_put (ci := 8) (v := .int 0) (ty := .int) (C := RX10) (T := TX10) (N := 42) hx hb hts hinX10 tyX10 tyX10_ok nmX10 hown hK hP hD hS 0 rfl rfl 12 (by decide) fl11 (fun _ h9 => h9) rfl (by decide +kernel) rfl rfl (Nat.le_of_ble_eq_true rfl) dX10_levels_11 (fun H locs hP1 hD1 hS => ?_)
  have hP : va_P D vwCl (wdX10 cI cZ cB ad w σ16) H := by rw [eσ16]; exact hP1
  have hD : va_D A (wdX10 cI cZ cB ad w σ16) := D_of (by rfl) hD
  refine lv_aload_n hx hb dX10_levels_14 rfl (lv_at hl 0 rfl) ?_
  refine lv_iconst (v := (-1)) hx hb dX10_levels_15 (by decide) ?_
  obtain ⟨σ17, eσ17, h⟩ := lt_e h
  refine va_put (ci := 8) (v := .int (-1)) (ty := .int) (C := RX10) (T := TX10) (N := 42) hx hb hts hinX10 tyX10 tyX10_ok nmX10 hown hK hP hD hS 0 rfl rfl 13 (by decide) fl12 (fun _ h9 => h9) rfl (by decide +kernel) rfl rfl (Nat.le_of_ble_eq_true rfl) dX10_levels_16 (fun H locs hP1 hD1 hS => ?_)
  have hP : va_P D vwCl (wdX10 cI cZ cB ad w σ17) H := by rw [eσ17]; exact hP1
  have hD : va_D A (wdX10 cI cZ cB ad w σ17) := D_of (by rfl) hD
  refine lv_aload_n hx hb dX10_levels_19 rfl (lv_at hl 0 rfl) ?_
  obtain ⟨r18, hr18, h⟩ := bd_e h
  obtain ⟨σ19, eσ19, h⟩ := lt_e h
  obtain ⟨w20, ew20, h⟩ := lt_e h
  refine cl_WVs (rest := []) (wn := (wdX10 cI cZ cB ad w20 σ19)) (ci := 8) (q0 := 0) ⟨hx, hb, hml, hown, hts⟩ (mX10_readLevels l D cI cZ cB ad w σ17 H.size r18 hr18) (cwV 0 hts gX10_levels_X10_readLevels rfl rfl rfl (by decide +kernel) ⟨Nat.le_of_ble_eq_true rfl, Nat.le_of_ble_eq_true rfl⟩) hK hP hD hS hA (by rw [eσ19, ew20]) rfl rfl rfl rfl rfl hl.1 rfl (Nat.le_of_ble_eq_true rfl) dX10_levels_20 ⟨Nat.zero_le _, Nat.zero_le _⟩ (fun H locs hP hD hS => ?_)
  refine W.eq (g2 := F0 m 23 ls [.int r18.1]) rfl ?_
  refine lv_if_ne (tgt := 33) hx hb dX10_levels_23 (by decide) (fun c21 => ?_) (fun c21 => ?_)
  · have h := ite_f c21 h
    refine lv_aload_n hx hb dX10_levels_33 rfl (lv_at hl 0 rfl) ?_
    refine lv_aload_n hx hb dX10_levels_34 rfl (lv_at hl 0 rfl) ?_
    refine va_get (ci := 8) (v := .int (σ19 0 10)) (C := RX10) (T := TX10) (N := 42) hx hb hts hinX10 hown hK hP 0 rfl rfl 10 (by decide) fl13 (fun _ h9 => h9) rfl dX10_levels_35 ?_
    obtain ⟨σ22, eσ22, h⟩ := lt_e h
    refine va_put (ci := 8) (v := .int (σ19 0 10)) (ty := .int) (C := RX10) (T := TX10) (N := 42) hx hb hts hinX10 tyX10 tyX10_ok nmX10 hown hK hP hD hS 0 rfl rfl 9 (by decide) fl1 (fun _ h9 => h9) rfl (by decide +kernel) rfl rfl (Nat.le_of_ble_eq_true rfl) dX10_levels_38 (fun H locs hP1 hD1 hS => ?_)
    have hP : va_P D vwCl (wdX10 cI cZ cB ad w20 σ22) H := by rw [eσ22]; exact hP1
    have hD : va_D A (wdX10 cI cZ cB ad w20 σ22) := D_of (by rfl) hD
    refine lv_iconst (v := 0) hx hb dX10_levels_41 (by decide) ?_
    refine lv_istore_n (lv' := [(1, .int 0), (0, .ref (ad 0))]) hx hb dX10_levels_42 rfl hl (by decide) rfl (fun ls hl => ?_)
    exact n43 FU 0 σ22 w20 _ _ hP hD hS _ (lv_sub hl [1, 0] rfl) h
  · have h := ite_t c21 h
    refine lv_iconst (v := (-1)) hx hb dX10_levels_26 (by decide) ?_
    refine lv_aload_n hx hb dX10_levels_27 rfl (lv_at hl 0 rfl) ?_
    refine va_get (ci := 8) (v := .int (σ19 0 13)) (C := RX10) (T := TX10) (N := 42) hx hb hts hinX10 hown hK hP 0 rfl rfl 13 (by decide) fl12 (fun _ h9 => h9) rfl dX10_levels_28 ?_
    refine lv_isub hx hb dX10_levels_31 ?_
    exact hR (some (.int ((-1) - (σ19 0 13)))) (wdX10 cI cZ cB ad w20 σ19) _ _ _ _ (by rw [← Option.some.inj h]) (by rw [← Option.some.inj h]) rfl dX10_levels_32 hP hS
set_option maxHeartbeats 4000000 in
set_option maxRecDepth 100000 in
theorem mX10_levels (l : Launch) (D : va_G) (cI cZ cB : ClassId) (ad : Nat → Nat) (w : Int64) (σ : Mem) (sz : Nat) (res : Int32 × Mem × Int64) (h : X10_levels σ w = some res) : Met l yX10_levels wsX10_levels rmX10_levels (pW D cI cZ cB (wdX10 cI cZ cB ad w σ) sz [.ref (ad 0)]) (qW D (some (.int res.1)) (wdX10 cI cZ cB ad res.2.2 res.2.1) (va_A (wdX10 cI cZ cB ad w σ) sz)) 0 0 (va_A (wdX10 cI cZ cB ad w σ) sz) := (bX10_levels l D cI cZ cB ad w σ res h).met (by decide +kernel) rfl (Nat.le_of_ble_eq_true rfl)
def rmX10_fault : Room := { frames := 0, cells := 0, slots := 0, locals := 0 }
set_option maxHeartbeats 4000000 in
set_option maxRecDepth 100000 in
theorem bX10_fault (l : Launch) (D : va_G) (cI cZ cB : ClassId) (ad : Nat → Nat) (w : Int64) (σ : Mem) (res : Int32 × Mem) (h : X10_fault σ = some res) : BW l yX10_fault wsX10_fault rmX10_fault cX10_fault 1 (some .int) D cI cZ cB (wdX10 cI cZ cB ad w σ) [.ref (ad 0)] (some (.int res.1)) (wdX10 cI cZ cB ad w res.2) := by
  intro p e s m args below meth c ls Q A hx hb hml hts hown hK hA hP hD hS hl0 hR
  have hinX10 : ∀ w ∈ u_ws RX10 TX10 42, w ∈ wsX10_fault := (fun _ h => List.mem_cons_of_mem _ (List.mem_append_right _ h))
  have fl1 := hts (.fieldLink RX10 86 "LawNumbererModel" "thrown" "I") (by decide +kernel)
  have fl2 := hts (.fieldLink RX10 102 "LawNumbererModel" "fault" "I") (by decide +kernel)
  have hl : lv_has ls 1 [(0, .ref (ad 0))] := hl0
  rw [X10_fault] at h
  have hS := hS
  refine lv_aload_n hx hb dX10_fault_0 rfl (lv_at hl 0 rfl) ?_
  refine lv_iconst (v := 0) hx hb dX10_fault_1 (by decide) ?_
  obtain ⟨σ1, eσ1, h⟩ := lt_e h
  refine va_put (ci := 8) (v := .int 0) (ty := .int) (C := RX10) (T := TX10) (N := 42) hx hb hts hinX10 tyX10 tyX10_ok nmX10 hown hK hP hD hS 0 rfl rfl 0 (by decide) fl1 (fun _ h9 => h9) rfl (by decide +kernel) rfl rfl (Nat.le_of_ble_eq_true rfl) dX10_fault_2 (fun H locs hP1 hD1 hS => ?_)
  have hP : va_P D vwCl (wdX10 cI cZ cB ad w σ1) H := by rw [eσ1]; exact hP1
  have hD : va_D A (wdX10 cI cZ cB ad w σ1) := D_of (by rfl) hD
  refine lv_aload_n hx hb dX10_fault_5 rfl (lv_at hl 0 rfl) ?_
  refine va_get (ci := 8) (v := .int (σ1 0 12)) (C := RX10) (T := TX10) (N := 42) hx hb hts hinX10 hown hK hP 0 rfl rfl 12 (by decide) fl2 (fun _ h9 => h9) rfl dX10_fault_6 ?_
  exact hR (some (.int (σ1 0 12))) (wdX10 cI cZ cB ad w σ1) _ _ _ _ (by rw [← Option.some.inj h]) (by rw [← Option.some.inj h]) rfl dX10_fault_9 hP hS
set_option maxHeartbeats 4000000 in
set_option maxRecDepth 100000 in
theorem mX10_fault (l : Launch) (D : va_G) (cI cZ cB : ClassId) (ad : Nat → Nat) (w : Int64) (σ : Mem) (sz : Nat) (res : Int32 × Mem) (h : X10_fault σ = some res) : Met l yX10_fault wsX10_fault rmX10_fault (pW D cI cZ cB (wdX10 cI cZ cB ad w σ) sz [.ref (ad 0)]) (qW D (some (.int res.1)) (wdX10 cI cZ cB ad w res.2) (va_A (wdX10 cI cZ cB ad w σ) sz)) 0 0 (va_A (wdX10 cI cZ cB ad w σ) sz) := (bX10_fault l D cI cZ cB ad w σ res h).met (by decide +kernel) rfl (Nat.le_of_ble_eq_true rfl)
def rmX10_place : Room := { frames := 0, cells := 0, slots := 0, locals := 0 }
set_option maxHeartbeats 4000000 in
set_option maxRecDepth 100000 in
theorem bX10_place (l : Launch) (D : va_G) (cI cZ cB : ClassId) (ad : Nat → Nat) (w : Int64) (σ : Mem) (res : Int32 × Mem) (h : X10_place σ = some res) : BW l yX10_place wsX10_place rmX10_place cX10_place 1 (some .int) D cI cZ cB (wdX10 cI cZ cB ad w σ) [.ref (ad 0)] (some (.int res.1)) (wdX10 cI cZ cB ad w res.2) := by
  intro p e s m args below meth c ls Q A hx hb hml hts hown hK hA hP hD hS hl0 hR
  have hinX10 : ∀ w ∈ u_ws RX10 TX10 42, w ∈ wsX10_place := (fun _ h => List.mem_cons_of_mem _ (List.mem_append_right _ h))
  have fl1 := hts (.fieldLink RX10 86 "LawNumbererModel" "thrown" "I") (by decide +kernel)
  have fl2 := hts (.fieldLink RX10 31 "LawNumbererModel" "place" "I") (by decide +kernel)
  have hl : lv_has ls 1 [(0, .ref (ad 0))] := hl0
  rw [X10_place] at h
  have hS := hS
  refine lv_aload_n hx hb dX10_place_0 rfl (lv_at hl 0 rfl) ?_
  refine lv_iconst (v := 0) hx hb dX10_place_1 (by decide) ?_
  obtain ⟨σ1, eσ1, h⟩ := lt_e h
  refine va_put (ci := 8) (v := .int 0) (ty := .int) (C := RX10) (T := TX10) (N := 42) hx hb hts hinX10 tyX10 tyX10_ok nmX10 hown hK hP hD hS 0 rfl rfl 0 (by decide) fl1 (fun _ h9 => h9) rfl (by decide +kernel) rfl rfl (Nat.le_of_ble_eq_true rfl) dX10_place_2 (fun H locs hP1 hD1 hS => ?_)
  have hP : va_P D vwCl (wdX10 cI cZ cB ad w σ1) H := by rw [eσ1]; exact hP1
  have hD : va_D A (wdX10 cI cZ cB ad w σ1) := D_of (by rfl) hD
  refine lv_aload_n hx hb dX10_place_5 rfl (lv_at hl 0 rfl) ?_
  refine va_get (ci := 8) (v := .int (σ1 0 13)) (C := RX10) (T := TX10) (N := 42) hx hb hts hinX10 hown hK hP 0 rfl rfl 13 (by decide) fl2 (fun _ h9 => h9) rfl dX10_place_6 ?_
  exact hR (some (.int (σ1 0 13))) (wdX10 cI cZ cB ad w σ1) _ _ _ _ (by rw [← Option.some.inj h]) (by rw [← Option.some.inj h]) rfl dX10_place_9 hP hS
set_option maxHeartbeats 4000000 in
set_option maxRecDepth 100000 in
theorem mX10_place (l : Launch) (D : va_G) (cI cZ cB : ClassId) (ad : Nat → Nat) (w : Int64) (σ : Mem) (sz : Nat) (res : Int32 × Mem) (h : X10_place σ = some res) : Met l yX10_place wsX10_place rmX10_place (pW D cI cZ cB (wdX10 cI cZ cB ad w σ) sz [.ref (ad 0)]) (qW D (some (.int res.1)) (wdX10 cI cZ cB ad w res.2) (va_A (wdX10 cI cZ cB ad w σ) sz)) 0 0 (va_A (wdX10 cI cZ cB ad w σ) sz) := (bX10_place l D cI cZ cB ad w σ res h).met (by decide +kernel) rfl (Nat.le_of_ble_eq_true rfl)
def rmX10_isItem : Room := { frames := 0, cells := 0, slots := 0, locals := 0 }
set_option maxHeartbeats 4000000 in
set_option maxRecDepth 100000 in
theorem bX10_isItem (l : Launch) (D : va_G) (cI cZ cB : ClassId) (ad : Nat → Nat) (w : Int64) (σ : Mem) (a1 : Int32) (res : Int32) (h : X10_isItem a1 σ = some res) : BR l yX10_isItem wsX10_isItem rmX10_isItem cX10_isItem 2 (some .boolean) D cI cZ cB (wdX10 cI cZ cB ad w σ) [.ref (ad 0), .int a1] (some (.int res)) := by
  intro p e s m args below meth c ls Q hx hb hml hts hown hK hP hl0 hR
  have hinX10 : ∀ w ∈ u_ws RX10 TX10 42, w ∈ wsX10_isItem := (fun _ h => List.mem_cons_of_mem _ (List.mem_append_right _ h))
  have fl1 := hts (.fieldLink RX10 157 "LawNumbererModel" "items" "I") (by decide +kernel)
  have hl : lv_has ls 2 [(0, .ref (ad 0)), (1, .int a1)] := hl0
  rw [X10_isItem] at h
  refine lv_iload_n hx hb dX10_isItem_0 rfl (lv_at hl 1 rfl) ?_
  refine lv_if_lt (tgt := 16) hx hb dX10_isItem_1 (by decide) (fun c1 => ?_) (fun c1 => ?_)
  · have h := ite_t c1 h
    refine lv_iconst (v := 0) hx hb dX10_isItem_16 (by decide) ?_
    exact hR (some (.int 0)) _ _ (by rw [← Option.some.inj h]) nb0 dX10_isItem_17
  · have h := ite_f c1 h
    refine lv_iload_n hx hb dX10_isItem_4 rfl (lv_at hl 1 rfl) ?_
    refine lv_aload_n hx hb dX10_isItem_5 rfl (lv_at hl 0 rfl) ?_
    refine va_get (ci := 8) (v := .int (σ 0 21)) (C := RX10) (T := TX10) (N := 42) hx hb hts hinX10 hown hK hP 0 rfl rfl 21 (by decide) fl1 (fun _ h9 => h9) rfl dX10_isItem_6 ?_
    refine lv_icmp_ge (tgt := 16) hx hb dX10_isItem_9 (by decide) (fun c2 => ?_) (fun c2 => ?_)
    · have h := ite_t c2 h
      refine lv_iconst (v := 0) hx hb dX10_isItem_16 (by decide) ?_
      exact hR (some (.int 0)) _ _ (by rw [← Option.some.inj h]) nb0 dX10_isItem_17
    · have h := ite_f c2 h
      refine lv_iconst (v := 1) hx hb dX10_isItem_12 (by decide) ?_
      refine lv_goto (tgt := 17) hx hb dX10_isItem_13 (by decide) ?_
      exact hR (some (.int 1)) _ _ (by rw [← Option.some.inj h]) nb1 dX10_isItem_17
set_option maxHeartbeats 4000000 in
set_option maxRecDepth 100000 in
theorem mX10_isItem (l : Launch) (D : va_G) (cI cZ cB : ClassId) (ad : Nat → Nat) (w : Int64) (σ : Mem) (a1 : Int32) (res : Int32) (h : X10_isItem a1 σ = some res) : Met l yX10_isItem wsX10_isItem rmX10_isItem (pR D cI cZ cB (wdX10 cI cZ cB ad w σ) [.ref (ad 0), .int a1]) (qR (some (.int res))) 0 0 (fun _ => False) := (bX10_isItem l D cI cZ cB ad w σ a1 res h).met (by decide +kernel) rfl (Nat.le_of_ble_eq_true rfl)
def rmX10_placeOf : Room := { frames := 0, cells := 0, slots := 0, locals := 0 }
set_option maxHeartbeats 4000000 in
set_option maxRecDepth 100000 in
theorem bX10_placeOf (l : Launch) (D : va_G) (cI cZ cB : ClassId) (ad : Nat → Nat) (w : Int64) (σ : Mem) (a1 : Int32) (res : Int32) (h : X10_placeOf a1 σ = some res) : BR l yX10_placeOf wsX10_placeOf rmX10_placeOf cX10_placeOf 3 (some .int) D cI cZ cB (wdX10 cI cZ cB ad w σ) [.ref (ad 0), .int a1] (some (.int res)) := by
  intro p e s m args below meth c ls Q hx hb hml hts hown hK hP hl0 hR
  have hinX10 : ∀ w ∈ u_ws RX10 TX10 42, w ∈ wsX10_placeOf := (fun _ h => List.mem_cons_of_mem _ (List.mem_append_right _ h))
  have fl1 := hts (.fieldLink RX10 43 "LawNumbererModel" "order" "[I") (by decide +kernel)
  have hl : lv_has ls 3 [(0, .ref (ad 0)), (1, .int a1)] := hl0
  have n2 : ∀ (n : Nat) (x2 : Int32) (ls : Array Slot), lv_has ls 3 [(0, .ref (ad 0)), (1, .int a1), (2, .int x2)] → X10_placeOf_2 a1 σ n x2 = some res → W p l e rmX10_placeOf s m args below meth c s.heap [] 0 0 Q (F0 m 2 ls []) := by
    intro n
    induction n with
    | zero =>
      intro x2 ls hl h
      rw [X10_placeOf_2] at h
      cases h
    | succ n_2 ih2 =>
      intro x2 ls hl h
      rw [X10_placeOf_2] at h
      refine lv_aload_n hx hb dX10_placeOf_2 rfl (lv_at hl 0 rfl) ?_
      refine va_get (ci := 8) (v := .ref (ad 9)) (C := RX10) (T := TX10) (N := 42) hx hb hts hinX10 hown hK hP 0 rfl rfl 19 (by decide) fl1 (fun _ h9 => h9) rfl dX10_placeOf_3 ?_
      refine lv_iload_n hx hb dX10_placeOf_6 rfl (lv_at hl 2 rfl) ?_
      obtain ⟨hin1, h⟩ := gd_e h
      refine va_iald hx hb hK hP 9 0 rfl rfl hin1 dX10_placeOf_7 ?_
      refine lv_iload_n hx hb dX10_placeOf_8 rfl (lv_at hl 1 rfl) ?_
      refine lv_icmp_eq (tgt := 18) hx hb dX10_placeOf_9 (by decide) (fun c2 => ?_) (fun c2 => ?_)
      · have h := ite_t c2 h
        refine lv_iload_n hx hb dX10_placeOf_18 rfl (lv_at hl 2 rfl) ?_
        exact hR (some (.int x2)) _ _ (by rw [← Option.some.inj h]) rfl dX10_placeOf_19
      · have h := ite_f c2 h
        obtain ⟨x2_3, ex2_3, h⟩ := lt_e h
        refine lv_iinc (v := x2_3) (lv' := [(2, .int x2_3), (0, .ref (ad 0)), (1, .int a1)]) hx hb dX10_placeOf_12 hl (k := 2) rfl (by rw [ex2_3]; rfl) (by decide) rfl (fun ls hl => ?_)
        refine lv_goto (tgt := 2) hx hb dX10_placeOf_15 (by decide) ?_
        exact ih2 x2_3 _ (lv_sub hl [1, 2, 0] rfl) h
  rw [X10_placeOf] at h
  refine lv_iconst (v := 0) hx hb dX10_placeOf_0 (by decide) ?_
  refine lv_istore_n (lv' := [(2, .int 0), (0, .ref (ad 0)), (1, .int a1)]) hx hb dX10_placeOf_1 rfl hl (by decide) rfl (fun ls hl => ?_)
  exact n2 FU 0 _ (lv_sub hl [1, 2, 0] rfl) h
set_option maxHeartbeats 4000000 in
set_option maxRecDepth 100000 in
theorem mX10_placeOf (l : Launch) (D : va_G) (cI cZ cB : ClassId) (ad : Nat → Nat) (w : Int64) (σ : Mem) (a1 : Int32) (res : Int32) (h : X10_placeOf a1 σ = some res) : Met l yX10_placeOf wsX10_placeOf rmX10_placeOf (pR D cI cZ cB (wdX10 cI cZ cB ad w σ) [.ref (ad 0), .int a1]) (qR (some (.int res))) 0 0 (fun _ => False) := (bX10_placeOf l D cI cZ cB ad w σ a1 res h).met (by decide +kernel) rfl (Nat.le_of_ble_eq_true rfl)
