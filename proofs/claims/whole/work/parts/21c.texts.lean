/-! own words: pure part: texts; feed, octet -/
theorem app_getD (T : List Nat) (b i : Nat) : (T ++ [b]).getD i 0 = if i < T.length then T.getD i 0 else if i = T.length then b else 0 := by
  simp only [List.getD_eq_getElem?_getD]
  by_cases h : i < T.length
  · rw [if_pos h, List.getElem?_append_left h]
  · rw [if_neg h, List.getElem?_append_right (by omega)]
    by_cases h2 : i = T.length
    · rw [if_pos h2, h2, Nat.sub_self]
      rfl
    · rw [if_neg h2]
      have : i - T.length ≠ 0 := by omega
      obtain ⟨j, hj⟩ : ∃ j, i - T.length = j + 1 := ⟨i - T.length - 1, by omega⟩
      rw [hj]
      rfl
theorem app_len (T : List Nat) (b : Nat) : (T ++ [b]).length = T.length + 1 := by simp
theorem TXT.app {T : List Nat} {μ : Mem} (h : TXT T μ) (hT : T.length < 200) {b : Nat} (hb : b < 256) {μ1 : Mem} (e0 : μ1 0 1 = nI (T.length + 1)) (e1 : μ1 1 = upd (μ 1) T.length (nI b)) : TXT (T ++ [b]) μ1 := by
  obtain ⟨h1, h2, h3, h4⟩ := h
  refine ⟨by rw [app_len]; omega, by rw [app_len]; exact e0, fun i hi => ?_, fun i hi => ?_⟩
  · rw [app_len] at hi
    rw [e1, app_getD]
    by_cases h : i < T.length
    · rw [if_pos h, pk_un (by omega)]
      exact h3 i h
    · rw [if_neg h, if_pos (by omega), show i = T.length by omega, pk_us]
  · rw [app_len] at hi
    rw [app_getD]
    by_cases h : i < T.length
    · rw [if_pos h]
      exact h4 i h
    · rw [if_neg h, if_pos (by omega)]
      exact hb
theorem x8_put {T : List Nat} {μ : Mem} (h : TXT T μ) (hT : T.length < 200) {b : Nat} (hb : b < 256) : ∃ μ1, X8_put (nI b) μ = some μ1 ∧ TXT (T ++ [b]) μ1 := by
  have h2 := h.2.1
  refine ⟨up (up μ 1 T.length (nI b)) 0 1 (nI (T.length + 1)), ?_, h.app hT hb rfl rfl⟩
  unfold X8_put
  rw [h2, if_neg (show ¬ (200 : Int32) ≤ nI T.length from nI_ge (b := 200) hT (by omega)), gd_i (vp_in_nI hT (by omega)), nI_clamp (by omega)]
  show some (up (up μ 1 T.length (nI b)) 0 1 (μ 0 1 + 1)) = _
  rw [h2, nI_1]
theorem x8_byteAt {T : List Nat} {μ : Mem} (h : TXT T μ) {i : Nat} (hi : i < 2 ^ 31) : X8_byteAt (nI i) μ = some (if i < T.length then nI (T.getD i 0) else -1) := by
  obtain ⟨h1, h2, h3, h4⟩ := h
  unfold X8_byteAt
  rw [if_neg (nI_pos hi), h2]
  by_cases h : i < T.length
  · rw [if_neg (nI_ge h (by omega)), if_neg (show ¬ (200 : Int32) ≤ nI i from nI_ge (b := 200) (by omega) (by omega)), gd_i (vp_in_nI (by omega) (by omega)), nI_clamp hi, h3 i h, if_pos h]
  · rw [if_pos (nI_le (by omega) hi), if_neg h]
/-- the bytes of a number, the highest first -/
def bl (N : Nat) : Nat → List Nat
  | 0 => []
  | t + 1 => (N / 2 ^ (8 * t) % 256) :: bl N t
theorem ushr_nI {N : Nat} (hN : N < 2 ^ 32) {s : Nat} (hs : s < 32) : UInt32.toInt32 (Int32.toUInt32 (nI N) >>> (Int32.toUInt32 (nI s) &&& Int32.toUInt32 31)) = nI (N / 2 ^ s) := by
  apply b_ext
  intro i hi
  rw [b_ushr s hs, bt_nI _ hi, Nat.testBit_div_two_pow]
  by_cases h : s + i < 32
  · rw [bt_nI _ h, Nat.add_comm]
  · rw [b_big (by omega), Nat.testBit_lt_two_pow (Nat.lt_of_lt_of_le hN (Nat.pow_le_pow_right (by omega) (by omega)))]
theorem x8_four {T : List Nat} {μ : Mem} (h : TXT T μ) (hT : T.length + 4 ≤ 200) {N : Nat} (hN : N < 2 ^ 32) : ∃ μ1, X8_putFour (nI N) μ = some μ1 ∧ TXT (T ++ bl N 4) μ1 := by
  obtain ⟨μ1, e1, t1⟩ := x8_put h (b := N / 2 ^ 24 % 256) (by omega) (by omega)
  obtain ⟨μ2, e2, t2⟩ := x8_put t1 (b := N / 2 ^ 16 % 256) (by rw [app_len]; omega) (by omega)
  obtain ⟨μ3, e3, t3⟩ := x8_put t2 (b := N / 2 ^ 8 % 256) (by rw [app_len, app_len]; omega) (by omega)
  obtain ⟨μ4, e4, t4⟩ := x8_put t3 (b := N % 256) (by rw [app_len, app_len, app_len]; omega) (by omega)
  refine ⟨μ4, ?_, ?_⟩
  · unfold X8_putFour
    have u24 := ushr_nI hN (s := 24) (by omega)
    have u16 := ushr_nI hN (s := 16) (by omega)
    have u8 := ushr_nI hN (s := 8) (by omega)
    rw [show nI 24 = (24 : Int32) from rfl, show N / 2 ^ 24 = N / 2 ^ 24 % 256 by omega] at u24
    rw [show nI 16 = (16 : Int32) from rfl] at u16
    rw [show nI 8 = (8 : Int32) from rfl] at u8
    rw [u24, e1, bd_s]
    simp only [lt]
    rw [u16, and255, e2, bd_s, u8, and255, e3, bd_s, and255, e4, bd_s]
  · have e : T ++ bl N 4 = T ++ [N / 2 ^ 24 % 256] ++ [N / 2 ^ 16 % 256] ++ [N / 2 ^ 8 % 256] ++ [N % 256] := by
      simp [bl]
    rw [e]
    exact t4
theorem i8_ex (w : Int8) : ∃ k, k < 256 ∧ w = Int8.ofNat k := ⟨w.toBitVec.toNat, w.toBitVec.isLt, Int8.toBitVec_inj.mp (by
  show w.toBitVec = BitVec.ofNat 8 w.toBitVec.toNat
  rw [BitVec.ofNat_toNat, BitVec.setWidth_eq])⟩
theorem i8_tab : ∀ k, k < 256 → (Int8.ofNat k).toInt32 = sb k ∧ (Int8.ofNat k).toInt32 &&& 255 = nI k := by decide +kernel
theorem bp_bb (x : Int32) : x.toInt8.toInt32 &&& 255 = x &&& 255 := by
  apply Int32.toBitVec_inj.mp
  rw [Int32.toBitVec_and, Int32.toBitVec_and, Int8.toBitVec_toInt32, Int32.toBitVec_toInt8]
  apply BitVec.eq_of_getLsbD_eq
  intro i hi
  rw [BitVec.getLsbD_and, BitVec.getLsbD_and]
  have hm : ∀ i < 32, 8 ≤ i → (255 : Int32).toBitVec.getLsbD i = false := by decide
  rcases Nat.lt_or_ge i 8 with z | z
  · rw [BitVec.getLsbD_signExtend, BitVec.getLsbD_signExtend, if_pos z, if_pos hi]
    simp only [z, hi, decide_true, Bool.true_and]
  · rw [hm i hi z]; simp
theorem i8_sb {x : Int32} {b : Nat} (hb : b < 256) (h : x &&& 255 = nI b) : vp_nar .byte (Int8.toInt32 (Int32.toInt8 x)) = sb b := by
  rw [pk_vb]
  obtain ⟨k, hk, e⟩ := i8_ex (Int32.toInt8 x)
  have h2 := bp_bb x
  rw [e] at h2 ⊢
  obtain ⟨e1, e2⟩ := i8_tab k hk
  rw [e2, h, nI_eq (by omega) (by omega)] at h2
  rw [e1, h2]
theorem sb_and : ∀ b, b < 256 → sb b &&& 255 = nI b := by decide +kernel
theorem sb_lo {b : Nat} (h : b < 128) : sb b = nI b := if_pos h
theorem sb_eq : ∀ b, b < 256 → ∀ c, c < 128 → (sb b = nI c ↔ b = c) := by decide +kernel
theorem shr_byte {N s : Nat} (hN : N < 2 ^ 32) (hs : s ≤ 24) : (nI N >>> (nI s &&& 31)) &&& 255 = nI (N / 2 ^ s % 256) := by
  rw [← shr255 _ hs, ushr_nI hN (by omega), and255]
theorem BTP.app {T : List Nat} {τ : Mem} (h : BTP T τ) {b : Nat} {τ1 : Mem} (e0 : τ1 0 2 = nI (T.length + 1)) (e1 : τ1 1 = upd (τ 1) T.length (sb b)) : BTP (T ++ [b]) τ1 := by
  refine ⟨by rw [app_len]; exact e0, fun i hi => ?_⟩
  rw [app_len] at hi
  rw [e1, app_getD]
  by_cases h' : i < T.length
  · rw [if_pos h', pk_un (by omega)]
    exact h.2 i h'
  · rw [if_neg h', if_pos (by omega), show i = T.length by omega, pk_us]
theorem x10_four_loop {N : Nat} (hN : N < 2 ^ 32) : ∀ (t m : Nat) (T : List Nat) (τ : Mem), t ≤ 4 → t < m → BTP T τ → T.length + t ≤ 200 → ∃ τ1, X10_four_3 (nI N) m (shf t) τ = some τ1 ∧ BTP (T ++ bl N t) τ1 ∧ FR [1] [2] τ τ1 := by
  intro t
  induction t with
  | zero =>
    intro m T τ _ hm h hT
    obtain ⟨m, rfl⟩ : ∃ m', m = m' + 1 := ⟨m - 1, by omega⟩
    refine ⟨τ, ?_, by rw [show bl N 0 = [] from rfl, List.append_nil]; exact h, FR.rf⟩
    unfold X10_four_3
    rw [if_pos (show shf 0 < 0 by decide)]
  | succ t ih =>
    intro m T τ h4 hm h hT
    obtain ⟨m, rfl⟩ : ∃ m', m = m' + 1 := ⟨m - 1, by omega⟩
    have hl := h.1
    have hs := i8_sb (b := N / 2 ^ (8 * t) % 256) (by omega) (shr_byte hN (s := 8 * t) (by omega))
    obtain ⟨τ1, e1, e2, e3⟩ := ih m (T ++ [N / 2 ^ (8 * t) % 256]) (up (up τ 1 T.length (sb (N / 2 ^ (8 * t) % 256))) 0 2 (nI (T.length + 1))) (by omega) (by omega) (h.app rfl rfl) (by rw [app_len]; omega)
    refine ⟨τ1, ?_, ?_, ((FR.rf.cel (by decide) (by decide)).fld (by decide)).tr e3⟩
    · unfold X10_four_3
      rw [show shf (t + 1) = nI (8 * t) from rfl, if_neg (show ¬ nI (8 * t) < 0 from nI_pos (by omega)), hl, gd_i (vp_in_nI (by omega) (by omega)), nI_clamp (by omega), hs]
      show X10_four_3 (nI N) m (nI (8 * t) + (-8)) (up (up τ 1 T.length (sb (N / 2 ^ (8 * t) % 256))) 0 2 (τ 0 2 + 1)) = _
      rw [hl, nI_1, shf_st t (by omega)]
      exact e1
    · rw [show bl N (t + 1) = (N / 2 ^ (8 * t) % 256) :: bl N t from rfl, ← List.singleton_append, ← List.append_assoc]
      exact e2
theorem x10_four {N : Nat} (hN : N < 2 ^ 32) {T : List Nat} {τ : Mem} (h : BTP T τ) (hT : T.length + 4 ≤ 200) : ∃ τ1, X10_four (nI N) τ = some τ1 ∧ BTP (T ++ bl N 4) τ1 ∧ FR [1] [2] τ τ1 := by
  obtain ⟨τ1, e1, e2, e3⟩ := x10_four_loop hN 4 FU T τ (by omega) (by unfold FU; omega) h hT
  exact ⟨τ1, e1, e2, e3⟩
theorem bl_len (N : Nat) : ∀ t, (bl N t).length = t := by
  intro t
  induction t with
  | zero => rfl
  | succ t ih =>
    show (bl N t).length + 1 = t + 1
    rw [ih]
theorem apb_len (T : List Nat) (N : Nat) : (T ++ bl N 4).length = T.length + 4 := by rw [List.length_append, bl_len]
set_option maxHeartbeats 1000000 in
theorem pu_feed : PU_feed Rel0 := by
  intro i σ τ w κ a1 a2 a3 a4 a5 hi h
  have h' := h
  obtain ⟨T, O, L, fm, th, dy, n, lv, ur, cm, st, od, H, R, A, c, r, s4, hw⟩ := h
  have hT : σ 1 1 = nI T.length := c.1.2.1
  have hTb : τ 0 2 = nI T.length := r.1.1
  have h2 := c.1.1
  by_cases hlen : T.length + 20 ≤ 200
  · obtain ⟨N1, n1, rfl⟩ := i32_nat a1
    obtain ⟨N2, n2, rfl⟩ := i32_nat a2
    obtain ⟨N3, n3, rfl⟩ := i32_nat a3
    obtain ⟨N4, n4, rfl⟩ := i32_nat a4
    obtain ⟨N5, n5, rfl⟩ := i32_nat a5
    obtain ⟨c1, c2, c3, c4, c5, c6, c7⟩ := c
    obtain ⟨μ1, e1, t1⟩ := x8_four c1 (by omega) n1
    obtain ⟨μ2, e2, t2⟩ := x8_four (μ := mp (mg σ [1, 2] μ1) [1, 2]) t1 (by rw [apb_len]; omega) n2
    obtain ⟨μ3, e3, t3⟩ := x8_four (μ := mp (mg (mg σ [1, 2] μ1) [1, 2] μ2) [1, 2]) t2 (by rw [apb_len, apb_len]; omega) n3
    obtain ⟨μ4, e4, t4⟩ := x8_four (μ := mp (mg (mg (mg σ [1, 2] μ1) [1, 2] μ2) [1, 2] μ3) [1, 2]) t3 (by rw [apb_len, apb_len, apb_len]; omega) n4
    obtain ⟨μ5, e5, t5⟩ := x8_four (μ := mp (mg (mg (mg (mg σ [1, 2] μ1) [1, 2] μ2) [1, 2] μ3) [1, 2] μ4) [1, 2]) t4 (by rw [apb_len, apb_len, apb_len, apb_len]; omega) n5
    obtain ⟨b1, b2, b3, b4, b5, b6, b7, b8⟩ := r
    have b1' : BTP T (Mem0 τ 0) := b1.fr fr0 (by decide) (by decide)
    obtain ⟨τ1, f1, u1, g1⟩ := x10_four n1 b1' (by omega)
    obtain ⟨τ2, f2, u2, g2⟩ := x10_four n2 u1 (by rw [apb_len]; omega)
    obtain ⟨τ3, f3, u3, g3⟩ := x10_four n3 u2 (by rw [apb_len, apb_len]; omega)
    obtain ⟨τ4, f4, u4, g4⟩ := x10_four n4 u3 (by rw [apb_len, apb_len, apb_len]; omega)
    obtain ⟨τ5, f5, u5, g5⟩ := x10_four n5 u4 (by rw [apb_len, apb_len, apb_len, apb_len]; omega)
    have f : FR [1] [0, 2] τ τ5 := (fr0.mono (by decide) (by decide)).tr ((((g1.tr g2).tr (g3.tr g4)).tr g5).mono (by decide) (by decide))
    have t5' : μ5 0 1 = nI (T ++ bl N1 4 ++ bl N2 4 ++ bl N3 4 ++ bl N4 4 ++ bl N5 4).length := t5.2.1
    refine ⟨μ5 0 1, mg (mg (mg (mg (mg σ [1, 2] μ1) [1, 2] μ2) [1, 2] μ3) [1, 2] μ4) [1, 2] μ5, τ5, ?_, ?_, T ++ bl N1 4 ++ bl N2 4 ++ bl N3 4 ++ bl N4 4 ++ bl N5 4, O, L, fm, th, dy, n, lv, ur, cm, st, od, H, R, A, ?_, ?_, ?_, hw.skip⟩
    · unfold X9_feed
      rw [hT]
      have e20 : nI T.length + 20 = nI (T.length + 20) := nI_add _ 20
      rw [e20, if_pos (show nI (T.length + 20) ≤ 200 from nI_le (b := 200) hlen (by omega)), e1, bd_s]
      simp only [lt]
      rw [e2, bd_s, e3, bd_s, e4, bd_s, e5, bd_s]
      rfl
    · unfold X10_feed
      show (if τ 0 2 + 20 ≤ 200 then bd (X10_four (nI N1) (Mem0 τ 0)) _ else _) = _
      have e20 : nI T.length + 20 = nI (T.length + 20) := nI_add _ 20
      rw [hTb, e20, if_pos (show nI (T.length + 20) ≤ 200 from nI_le (b := 200) hlen (by omega)), f1, bd_s]
      simp only [lt]
      rw [f2, bd_s, f3, bd_s, f4, bd_s, f5, bd_s, u5.1, t5']
    · exact ⟨t5, c2, c3, c4, c5.eq rfl rfl rfl rfl rfl rfl rfl, c6, c7⟩
    · exact ⟨u5, b2.fr f (by decide) (by decide), b3.fr f (by decide) (by decide), b4.fr f (by decide) (by decide), b5.fr f (by decide) (by decide), b6.fr f (by decide) (by decide), (f.2 11 (by decide)).trans b7, b8.fr f (by decide)⟩
    · exact ⟨s4.1.trans (f.2 12 (by decide)).symm, s4.2.1.trans (f.2 13 (by decide)).symm, s4.2.2.1.trans (f.2 40 (by decide)).symm, s4.2.2.2.trans (f.2 41 (by decide)).symm⟩
  · have e20 : nI T.length + 20 = nI (T.length + 20) := nI_add _ 20
    have hn : ¬ nI (T.length + 20) ≤ 200 := nI_ge (a := 200) (by omega) (by omega)
    refine ⟨-1, σ, Mem0 τ 0, ?_, ?_, h'.th⟩
    · unfold X9_feed
      rw [hT, e20, if_neg hn]
    · unfold X10_feed
      show (if τ 0 2 + 20 ≤ 200 then _ else _) = _
      rw [hTb, e20, if_neg hn]
      rfl
theorem x10_thr {v : Int32} {τ : Mem} (hv : v = 0 ∨ v = 1) : X10_throwsIf v τ = some (v, up τ 0 0 v) := by
  rcases hv with rfl | rfl <;> rfl
theorem pu_octet : PU_octet Rel0 := by
  intro i σ τ w κ a1 hi h
  have h' := h
  obtain ⟨T, O, L, fm, th, dy, n, lv, ur, cm, st, od, H, R, A, c, r, s4, hw⟩ := h
  have hO : σ 3 1 = nI O.length := c.2.1.2.1
  obtain ⟨b1, b2, b3, b4⟩ := r.2.1
  have bad : X9_octet a1 σ = some none → X10_octet a1 τ = X10_octet_18 a1 1 τ → ∃ (res : Option Int32) (b : Int32) (τ1 : Mem), X9_octet a1 σ = some res ∧ X10_octet a1 τ = some (b, τ1) ∧ X10_thrown τ1 = some (rL res) ∧ (∀ v, res = some v → v = b) ∧ Rel0 (i + 6) σ τ1 w κ := fun e1 e2 => by
    refine ⟨none, 0, Mem0 τ 1, e1, ?_, rfl, (fun v hv => by cases hv), h'.th⟩
    rw [e2]
    rfl
  by_cases h0 : a1 < 0
  · exact bad (if_pos h0) (if_pos h0)
  · by_cases h1 : nI O.length ≤ a1
    · have h2 : ¬ a1 < nI O.length := Int32.not_lt.mpr h1
      refine bad ?_ ?_
      · unfold X9_octet
        rw [if_neg h0, hO, if_neg h2]
        rfl
      · unfold X10_octet
        rw [if_neg h0, b2, if_neg h2]
        rfl
    · obtain ⟨k, hk, rfl⟩ := i32_ix h0 h1 (by omega)
      refine ⟨some (nI (O.getD k 0)), nI (O.getD k 0), Mem0 τ 0, ?_, ?_, rfl, (fun v hv => by cases hv; rfl), h'.th⟩
      · unfold X9_octet
        rw [if_neg h0, hO, if_pos (nI_lt hk (by omega)), x8_byteAt c.2.1 (by omega), bd_s, if_pos hk]
      · unfold X10_octet
        rw [if_neg h0, b2, if_pos (nI_lt hk (by omega))]
        unfold X10_octet_18
        rw [x10_thr (Or.inl rfl), bd_s]
        simp only [lt]
        rw [if_pos trivial, gd_i (vp_in_nI (by omega) (by omega)), nI_clamp (by omega)]
        show some (τ 18 k, _) = _
        rw [b3 k hk]
        rfl
