/-! own words: the law's loop and its start -/
theorem arr_int {args : Array Value} {s : State} (h : (Cond.arrayClass .int).before args s = true) : ∃ cA : ClassId, ArrOfT s cA .int ∧ va_RA s cA .int := by
  obtain ⟨cA, kA, comp, h1, h2, h3⟩ := Cond.arrayClass_spec (args := args) (first := s) (o := none) (s := s) (idx := []) h
  exact ⟨cA, fun n z => ⟨fun k h => (by cases h), kA, h2, comp, h3⟩, h1⟩
theorem arr_boolean {args : Array Value} {s : State} (h : (Cond.arrayClass .boolean).before args s = true) : ∃ cA : ClassId, ArrOfT s cA .boolean ∧ va_RA s cA .boolean := by
  obtain ⟨cA, kA, comp, h1, h2, h3⟩ := Cond.arrayClass_spec (args := args) (first := s) (o := none) (s := s) (idx := []) h
  exact ⟨cA, fun n z => ⟨fun k h => (by cases h), kA, h2, comp, h3⟩, h1⟩
theorem arr_byte {args : Array Value} {s : State} (h : (Cond.arrayClass .byte).before args s = true) : ∃ cA : ClassId, ArrOfT s cA .byte ∧ va_RA s cA .byte := by
  obtain ⟨cA, kA, comp, h1, h2, h3⟩ := Cond.arrayClass_spec (args := args) (first := s) (o := none) (s := s) (idx := []) h
  exact ⟨cA, fun n z => ⟨fun k h => (by cases h), kA, h2, comp, h3⟩, h1⟩
set_option maxHeartbeats 2000000 in
set_option maxRecDepth 40000 in
theorem k_start {args : Array Value} {s : State} (hts : ∀ w ∈ lw_tbl, w.before args s = true) : ∃ (D : va_G) (cI cZ cB : ClassId), va_K D vwCl (tyA cI cZ cB) s := by
  obtain ⟨cX0, iX0, kX0⟩ := u_known (n := 5) hts gI_X0 (hts (.instantiable RX0 5) (List.mem_of_getElem? (i := 222) (by decide +kernel)))
  obtain ⟨cX2, iX2, kX2⟩ := u_known (n := 6) hts gI_X2 (hts (.instantiable RX2 6) (List.mem_of_getElem? (i := 193) (by decide +kernel)))
  obtain ⟨cX3, iX3, kX3⟩ := u_known (n := 7) hts gI_X3 (hts (.instantiable RX3 7) (List.mem_of_getElem? (i := 158) (by decide +kernel)))
  obtain ⟨cX4, iX4, kX4⟩ := u_known (n := 5) hts gI_X4 (hts (.instantiable RX4 5) (List.mem_of_getElem? (i := 130) (by decide +kernel)))
  obtain ⟨cX6, iX6, kX6⟩ := u_known (n := 3) hts gI_X6 (hts (.instantiable RX6 3) (List.mem_of_getElem? (i := 92) (by decide +kernel)))
  obtain ⟨cX7, iX7, kX7⟩ := u_known (n := 3) hts gI_X7 (hts (.instantiable RX7 3) (List.mem_of_getElem? (i := 112) (by decide +kernel)))
  obtain ⟨cX8, iX8, kX8⟩ := u_known (n := 2) hts gI_X8 (hts (.instantiable RX8 2) (List.mem_of_getElem? (i := 75) (by decide +kernel)))
  obtain ⟨cX9, iX9, kX9⟩ := u_known (n := 15) hts gI_X9 (hts (.instantiable RX9 15) (List.mem_of_getElem? (i := 67) (by decide +kernel)))
  obtain ⟨cX10, iX10, kX10⟩ := u_known (n := 42) hts gI_X10 (hts (.instantiable RX10 42) (List.mem_of_getElem? (i := 807) (by decide +kernel)))
  obtain ⟨cI, hI1, hI2⟩ := arr_int (hts (.arrayClass .int) (List.mem_of_getElem? (i := 90) (by decide +kernel)))
  obtain ⟨cZ, hZ1, hZ2⟩ := arr_boolean (hts (.arrayClass .boolean) (List.mem_of_getElem? (i := 110) (by decide +kernel)))
  obtain ⟨cB, hB1, hB2⟩ := arr_byte (hts (.arrayClass .byte) (List.mem_of_getElem? (i := 421) (by decide +kernel)))
  refine ⟨(fun c => match c with | 0 => cX0 | 1 => cX2 | 2 => cX3 | 3 => cX4 | 4 => cX6 | 5 => cX7 | 6 => cX8 | 7 => cX9 | _ => cX10, fun c => match c with | 0 => iX0 | 1 => iX2 | 2 => iX3 | 3 => iX4 | 4 => iX6 | 5 => iX7 | 6 => iX8 | 7 => iX9 | _ => iX10), cI, cZ, cB, fun c q hq => ?_, fun k q hq => ?_⟩
  · match c, hq with
    | 0, hq => cases Option.some.inj hq; exact kX0
    | 1, hq => cases Option.some.inj hq; exact kX2
    | 2, hq => cases Option.some.inj hq; exact kX3
    | 3, hq => cases Option.some.inj hq; exact kX4
    | 4, hq => cases Option.some.inj hq; exact kX6
    | 5, hq => cases Option.some.inj hq; exact kX7
    | 6, hq => cases Option.some.inj hq; exact kX8
    | 7, hq => cases Option.some.inj hq; exact kX9
    | 8, hq => cases Option.some.inj hq; exact kX10
    | c + 9, hq => cases hq
  · match k, hq with
    | 0, hq => cases Option.some.inj hq; exact ⟨hI1, hI2⟩
    | 1, hq => cases Option.some.inj hq; exact ⟨hZ1, hZ2⟩
    | 2, hq => cases Option.some.inj hq; exact ⟨hB1, hB2⟩
    | k + 3, hq => cases hq
theorem gn_start {args : Array Value} {s : State} (hts : ∀ w ∈ lw_tbl, w.before args s = true) : GN s :=
  ⟨va_Nw.of rfl (hts (.methodLinkNest RX9 9 yX8_init RX9) (List.mem_of_getElem? (i := 76) (by decide +kernel))), va_Nw.of rfl (hts (.methodLinkNest RX9 21 yX6_init RX9) (List.mem_of_getElem? (i := 93) (by decide +kernel))), va_Nw.of rfl (hts (.methodLinkNest RX9 31 yX7_init RX9) (List.mem_of_getElem? (i := 113) (by decide +kernel))), va_Nw.of rfl (hts (.methodLinkNest RX9 38 yX4_init RX9) (List.mem_of_getElem? (i := 131) (by decide +kernel))), va_Nw.of rfl (hts (.methodLinkNest RX4 11 yX8_init RX9) (List.mem_of_getElem? (i := 136) (by decide +kernel))), va_Nw.of rfl (hts (.methodLinkNest RX9 45 yX3_init RX9) (List.mem_of_getElem? (i := 159) (by decide +kernel))), va_Nw.of rfl (hts (.methodLinkNest RX9 59 yX0_init RX9) (List.mem_of_getElem? (i := 223) (by decide +kernel)))⟩
theorem nE0 : ∀ j : Nat, j < 12 → Cond.eq (.elem (.static "LawNumberer$Forms" "STEPS" "[I") (.int (Int32.ofNat j))) (.int (fSTEPS j)) ∈ flatC (Jvm.Cond.and given_1 narrow_1) := by decide +kernel
theorem nE1 : ∀ j : Nat, j < 12 → Cond.eq (.elem (.static "LawNumberer$Forms" "FIRST_SIGNS" "[C") (.int (Int32.ofNat j))) (.int (fFIRST j)) ∈ flatC (Jvm.Cond.and given_1 narrow_1) := by decide +kernel
theorem nE2 : ∀ j : Nat, j < 12 → Cond.eq (.elem (.static "LawNumberer$Forms" "SECOND_SIGNS" "[C") (.int (Int32.ofNat j))) (.int (fSECOND j)) ∈ flatC (Jvm.Cond.and given_1 narrow_1) := by decide +kernel
def tmS : Nat → Term := fun i : Nat => Term.string "LawNumberer$LevelsReader" (([55, 71, 73, 75, 77] : List Nat).getD i 0)
theorem nS1 : ∀ i : Nat, i < 5 → Cond.exactly (tmS i) "java/lang/String" ∈ flatC (Jvm.Cond.and given_1 narrow_1) := by decide +kernel
theorem nS2 : ∀ i : Nat, i < 5 → Cond.eq (.field (tmS i) "java/lang/String" "coder" "B") (.int 0) ∈ flatC (Jvm.Cond.and given_1 narrow_1) := by decide +kernel
theorem nS3 : ∀ i : Nat, i < 5 → Cond.arrayOf (.field (tmS i) "java/lang/String" "value" "[B") .byte ∈ flatC (Jvm.Cond.and given_1 narrow_1) := by decide +kernel
theorem nS4 : ∀ i : Nat, i < 5 → Cond.eq (.length (.field (tmS i) "java/lang/String" "value" "[B")) (.int (Int32.ofNat (sLens.getD i 0))) ∈ flatC (Jvm.Cond.and given_1 narrow_1) := by decide +kernel
theorem nS5 : ∀ i : Nat, i < 5 → ∀ j : Nat, j < sLens.getD i 0 → Cond.eq (.elem (.field (tmS i) "java/lang/String" "value" "[B") (.int (Int32.ofNat j))) (.int ((sByts.getD i []).getD j 0)) ∈ flatC (Jvm.Cond.and given_1 narrow_1) := by decide +kernel
theorem nS6 : ∀ i : Nat, i < 5 → ∀ j : Nat, j < 5 → i ≠ j → Cond.not (Cond.eq (tmS i) (tmS j)) ∈ flatC (Jvm.Cond.and given_1 narrow_1) ∨ Cond.not (Cond.eq (tmS j) (tmS i)) ∈ flatC (Jvm.Cond.and given_1 narrow_1) := by decide +kernel
set_option maxHeartbeats 4000000 in
set_option maxRecDepth 40000 in
theorem gx_start {args : Array Value} {s : State} (hts : ∀ w ∈ lw_tbl, w.before args s = true) (hgv : (Jvm.Cond.and given_1 narrow_1).before args s = true) : ∃ K : Nat → Nat, GX K (fun q => s.heap.size ≤ q) s s.heap ∧ GZ K (fun q => s.heap.size ≤ q) s s.heap := by
  have hs := flat_of_before _ hgv
  have hA : ∀ a : Nat, a < s.heap.size → ¬ (fun q => s.heap.size ≤ q) a := fun a h => Nat.not_le_of_lt h
  have fini := hts (.initialized "LawNumberer$Forms") (List.mem_of_getElem? (i := 65) (by decide +kernel))
  obtain ⟨t0, e0, T0⟩ := va_Tof (args := args) (s := s) (tm := (.static "LawNumberer$Forms" "STEPS" "[I")) (ty := .int) (N := 12) (f := fun j => .int (fSTEPS j)) (A := fun q => s.heap.size ≤ q) (by decide) (hs _ (by decide +kernel)) (va_eqt (z := 12) (hs _ (by decide +kernel))) (fun j hj => va_eqt (hs _ (nE0 j hj))) hA
  have Z0 := va_Zof (hts (.laysStatic "LawNumberer$Forms" "STEPS" "[I") (List.mem_of_getElem? (i := 609) (by decide +kernel))) fini e0 hA
  obtain ⟨t1, e1, T1⟩ := va_Tof (args := args) (s := s) (tm := (.static "LawNumberer$Forms" "FIRST_SIGNS" "[C")) (ty := .char) (N := 12) (f := fun j => .int (fFIRST j)) (A := fun q => s.heap.size ≤ q) (by decide) (hs _ (by decide +kernel)) (va_eqt (z := 12) (hs _ (by decide +kernel))) (fun j hj => va_eqt (hs _ (nE1 j hj))) hA
  have Z1 := va_Zof (hts (.laysStatic "LawNumberer$Forms" "FIRST_SIGNS" "[C") (List.mem_of_getElem? (i := 611) (by decide +kernel))) fini e1 hA
  obtain ⟨t2, e2, T2⟩ := va_Tof (args := args) (s := s) (tm := (.static "LawNumberer$Forms" "SECOND_SIGNS" "[C")) (ty := .char) (N := 12) (f := fun j => .int (fSECOND j)) (A := fun q => s.heap.size ≤ q) (by decide) (hs _ (by decide +kernel)) (va_eqt (z := 12) (hs _ (by decide +kernel))) (fun j hj => va_eqt (hs _ (nE2 j hj))) hA
  have Z2 := va_Zof (hts (.laysStatic "LawNumberer$Forms" "SECOND_SIGNS" "[C") (List.mem_of_getElem? (i := 614) (by decide +kernel))) fini e2 hA
  obtain ⟨aK, aV, hS, hSe⟩ := vk_Sof (args := args) (s := s) (N := 5) (tm := tmS) (len := sLens) (byt := sByts) (A := fun q => s.heap.size ≤ q) (by decide) (fun i hi => hs _ (nS1 i hi)) (fun i hi => hs _ (nS2 i hi)) (fun i hi => hs _ (nS3 i hi)) (fun i hi => hs _ (nS4 i hi)) (fun i hi j hj => hs _ (nS5 i hi j hj)) (fun i j hi hj hij => (nS6 i hi j hj hij).elim (fun h => Or.inl (hs _ h)) (fun h => Or.inr (hs _ h))) hA
  obtain ⟨x0, -, -, -, u0, -⟩ := Cond.exactly_spec (args := args) (first := s) (o := none) (s := s) (idx := []) (t := .string "LawNumberer" 197) (cls := "java/lang/String") (hs _ (by decide +kernel))
  obtain ⟨x1, -, -, -, u1, -⟩ := Cond.exactly_spec (args := args) (first := s) (o := none) (s := s) (idx := []) (t := .string "LawNumberer" 212) (cls := "java/lang/String") (hs _ (by decide +kernel))
  obtain ⟨x2, -, -, -, u2, -⟩ := Cond.exactly_spec (args := args) (first := s) (o := none) (s := s) (idx := []) (t := .string "LawNumberer" 229) (cls := "java/lang/String") (hs _ (by decide +kernel))
  refine ⟨fun i => if i = 0 then t0 else if i = 1 then t1 else if i = 2 then t2 else if i = 15 then x0 else if i = 16 then x1 else if i = 17 then x2 else if i < 20 then aK (i - 10) else aV (i - 20), ⟨⟨Z0, T0, Z1, T1, Z2, T2⟩, ⟨?_, ?_, ?_⟩, ?_⟩, ?_⟩
  · exact va_Zof (hts (.laysStatic "java/lang/String" "COMPACT_STRINGS" "Z") (List.mem_of_getElem? (i := 350) (by decide +kernel))) (hts (.initialized "java/lang/String") (List.mem_of_getElem? (i := 54) (by decide +kernel))) (va_eqi (hs _ (by decide +kernel))) hA
  · exact va_Zqof (hts (.laysStatic "jdk/internal/util/Preconditions" "SIOOBE_FORMATTER" "Ljava/util/function/BiFunction;") (List.mem_of_getElem? (i := 367) (by decide +kernel))) (hts (.initialized "jdk/internal/util/Preconditions") (List.mem_of_getElem? (i := 56) (by decide +kernel))) (hs _ (by decide +kernel)) hA
  · refine ⟨fun i hi => ?_, fun i j hi hj e => hS.2 i j hi hj ?_⟩
    · have e1 : (if 10 + i = 0 then t0 else if 10 + i = 1 then t1 else if 10 + i = 2 then t2 else if 10 + i = 15 then x0 else if 10 + i = 16 then x1 else if 10 + i = 17 then x2 else if 10 + i < 20 then aK (10 + i - 10) else aV (10 + i - 20)) = aK i := by
        rw [if_neg (by omega), if_neg (by omega), if_neg (by omega), if_neg (by omega), if_neg (by omega), if_neg (by omega), if_pos (by omega)]
        exact congrArg aK (by omega)
      have e2 : (if 20 + i = 0 then t0 else if 20 + i = 1 then t1 else if 20 + i = 2 then t2 else if 20 + i = 15 then x0 else if 20 + i = 16 then x1 else if 20 + i = 17 then x2 else if 20 + i < 20 then aK (20 + i - 10) else aV (20 + i - 20)) = aV i := by
        rw [if_neg (by omega), if_neg (by omega), if_neg (by omega), if_neg (by omega), if_neg (by omega), if_neg (by omega), if_neg (by omega)]
        exact congrArg aV (by omega)
      dsimp only
      rw [e1, e2]
      exact hS.1 i hi
    · dsimp only at e
      rw [if_neg (by omega), if_neg (by omega), if_neg (by omega), if_neg (by omega), if_neg (by omega), if_neg (by omega), if_pos (by omega), if_neg (by omega), if_neg (by omega), if_neg (by omega), if_neg (by omega), if_neg (by omega), if_neg (by omega), if_pos (by omega)] at e
      rw [show 10 + i - 10 = i by omega, show 10 + j - 10 = j by omega] at e
      exact e
  · exact ⟨vk_R.of (hts (.stringRef "LawNumberer$LevelsReader" 55 "through") (List.mem_of_getElem? (i := 336) (by decide +kernel))) (hSe 0 (by decide)), vk_R.of (hts (.stringRef "LawNumberer$LevelsReader" 71 "number") (List.mem_of_getElem? (i := 397) (by decide +kernel))) (hSe 1 (by decide)), vk_R.of (hts (.stringRef "LawNumberer$LevelsReader" 73 "roman") (List.mem_of_getElem? (i := 398) (by decide +kernel))) (hSe 2 (by decide)), vk_R.of (hts (.stringRef "LawNumberer$LevelsReader" 75 "letter") (List.mem_of_getElem? (i := 399) (by decide +kernel))) (hSe 3 (by decide)), vk_R.of (hts (.stringRef "LawNumberer$LevelsReader" 77 "small") (List.mem_of_getElem? (i := 400) (by decide +kernel))) (hSe 4 (by decide))⟩
  · refine ⟨⟨?_, ?_, ?_, ?_⟩, ?_, ?_, ?_, ?_, ?_⟩
    · exact va_Nw.of rfl (hts (.castable "java/util/NoSuchElementException" "java/util/NoSuchElementException") (List.mem_of_getElem? (i := 729) (by decide +kernel)))
    · exact va_Nw.of rfl (hts (.declares (Bundle.initS "java/lang/RuntimeException")) (List.mem_of_getElem? (i := 731) (by decide +kernel)))
    · exact va_Nw.of rfl (hts (.declares (Bundle.initS "java/lang/Exception")) (List.mem_of_getElem? (i := 733) (by decide +kernel)))
    · exact va_Nw.of rfl (hts (.declares (Bundle.initS "java/lang/Throwable")) (List.mem_of_getElem? (i := 735) (by decide +kernel)))
    · exact vx_Zqof (hts (.laysStatic Bundle.tN "UNASSIGNED_STACK" Bundle.steD) (List.mem_of_getElem? (i := 754) (by decide +kernel))) (hts (.initialized Bundle.tN) (List.mem_of_getElem? (i := 61) (by decide +kernel))) (hs _ (by decide +kernel)) hA
    · exact vx_Zqof (hts (.laysStatic Bundle.tN "SUPPRESSED_SENTINEL" Bundle.listD) (List.mem_of_getElem? (i := 756) (by decide +kernel))) (hts (.initialized Bundle.tN) (List.mem_of_getElem? (i := 61) (by decide +kernel))) (hs _ (by decide +kernel)) hA
    · exact vk_R.of (hts (.stringRef RX9 197 "no such item") (List.mem_of_getElem? (i := 766) (by decide +kernel))) u0
    · exact vk_R.of (hts (.stringRef RX9 212 "nothing such is told of an item") (List.mem_of_getElem? (i := 797) (by decide +kernel))) u1
    · exact vk_R.of (hts (.stringRef RX9 229 "no such byte") (List.mem_of_getElem? (i := 805) (by decide +kernel))) u2
theorem i32_6 {i L : Nat} (hi : i ≤ L) (hL : L ≤ 3072) (h : ¬ Int32.ofNat L - 6 < nI i) : i + 6 ≤ L := by
  have h1 : (Int32.ofNat L - 6) = Int32.ofInt ((L : Int) - 6) := by
    show nI L - nI 6 = _
    by_cases h6 : 6 ≤ L
    · rw [pk_sub h6, ← Int32.toInt_inj, nI_toInt (by omega), Int32.toInt_ofInt_of_le (by omega) (by omega)]
      omega
    · rw [← Int32.toInt_inj, pk_sub_toInt (by omega) (by omega), Int32.toInt_ofInt_of_le (by omega) (by omega)]
      omega
  rw [h1, Int32.lt_iff_toInt_lt, nI_toInt (by omega), Int32.toInt_ofInt_of_le (by omega) (by omega)] at h
  omega
set_option maxHeartbeats 4000000 in
set_option maxRecDepth 40000 in
theorem law_loop {Rel : RelT} (hU : PU Rel) {p : Program} {l : Launch} {e : Env} {s : State} {m : MethodId} {below : List Frame} {meth : Method} {c : Code} {b L : Nat} {xs : Nat → Int32} {D : va_G} {cI cZ cB cL : ClassId} {K : Nat → Nat} (C0 : LC p l s m meth c b L xs D cI cZ cB cL K) (hr : meth.sig.returnType = ret) (hlocks : meth.locks = false) {adb : Nat → Nat} {o : Nat} :
    ∀ (n i : Nat) (ada : Nat → Nat) (σ τ : Mem) (w : Int64) (κ : Nat) (f : Nat → Int64) (H : Heap) (locs : List Loc) (ls : Array Slot), L ≤ i + n → i ≤ L → LI D (fun q => s.heap.size ≤ q) (wdX9 cI cZ cB ada σ) (wdX10 cI cZ cB adb w τ) (rLx cL o f) H → va_S (fun q => s.heap.size ≤ q) s.heap H locs → lv_has ls 7 [(4, .int (nI i)), (0, .ref b), (1, .ref (ada 0)), (2, .ref (adb 0)), (3, .ref o)] → Rel i σ τ w κ →
      W p l e room_1 s m #[Value.ref b] below meth c H locs (56 + κ + i) (498668 + κ + i) (lw_Z below #[Value.ref b] s) (F0 m 23 ls []) := by
  intro n
  have hC := hU.2.1
  obtain ⟨⟨hx, hb, hml, hown, hts⟩, hfl, hX, hbl, hL, hK4, hGX, hGZ⟩ := id C0
  have hbA : ¬ (fun q => s.heap.size ≤ q) b := Nat.not_le_of_lt hbl
  induction n with
  | zero =>
    intro i ada σ τ w κ f H locs ls h1 h2 hI hS hl hR
    have hcap := hC _ _ _ _ _ hR
    refine lv_iload hx hb dL_law_23 (lv_at hl 0 rfl) ?_
    refine lv_aload_n hx hb dL_law_25 rfl (lv_at hl 1 rfl) ?_
    refine va_slen hx hb hX hbl hbA hS dL_law_26 ?_
    refine lv_bipush (v := 6) hx hb dL_law_27 (by decide) ?_
    refine lv_isub hx hb dL_law_29 ?_
    refine lv_icmp_gt (tgt := 798) hx hb dL_law_30 (by decide) (fun _ => ?_) (fun hn => absurd (i32_6 h2 hL hn) (by omega))
    refine lv_iconst (v := 1) hx hb dL_law_798 (by decide) ?_
    refine va_forget hS.2.2 (W.widen (k := 601024) (n := 7293034) (by omega) (by omega) ?_)
    exact lw_ret hx hb hr hlocks dL_law_799
  | succ n ih =>
    intro i ada σ τ w κ f H locs ls h1 h2 hI hS hl hR
    have hcap := hC _ _ _ _ _ hR
    refine lv_iload hx hb dL_law_23 (lv_at hl 0 rfl) ?_
    refine lv_aload_n hx hb dL_law_25 rfl (lv_at hl 1 rfl) ?_
    refine va_slen hx hb hX hbl hbA hS dL_law_26 ?_
    refine lv_bipush (v := 6) hx hb dL_law_27 (by decide) ?_
    refine lv_isub hx hb dL_law_29 ?_
    refine lv_icmp_gt (tgt := 798) hx hb dL_law_30 (by decide) (fun _ => ?_) (fun hn => ?_)
    · refine lv_iconst (v := 1) hx hb dL_law_798 (by decide) ?_
      refine va_forget hS.2.2 (W.widen (k := 601024) (n := 7293034) (by omega) (by omega) ?_)
      exact lw_ret hx hb hr hlocks dL_law_799
    have hi := i32_6 h2 hL hn
    have kk : ∀ (ada1 : Nat → Nat) (σ1 τ1 : Mem) (w1 : Int64) (κ1 : Nat) (f1 : Nat → Int64) (H1 : Heap) (locs1 : List Loc) (ls1 : Array Slot), ada1 0 = ada 0 → LI D (fun q => s.heap.size ≤ q) (wdX9 cI cZ cB ada1 σ1) (wdX10 cI cZ cB adb w1 τ1) (rLx cL o f1) H1 → va_S (fun q => s.heap.size ≤ q) s.heap H1 locs1 → lv_has ls1 7 [(4, .int (nI i)), (0, .ref b), (1, .ref (ada 0)), (2, .ref (adb 0)), (3, .ref o)] → Rel (i + 6) σ1 τ1 w1 κ1 → W p l e room_1 s m #[Value.ref b] below meth c H1 locs1 (56 + κ1 + (i + 6)) (498668 + κ1 + (i + 6)) (lw_Z below #[Value.ref b] s) (F0 m 792 ls1 []) := by
      intro ada1 σ1 τ1 w1 κ1 f1 H1 locs1 ls1 ha hI1 hS1 hl1 hR1
      refine lv_iinc (v := nI (i + 6)) (lv' := [(4, .int (nI (i + 6))), (0, .ref b), (1, .ref (ada 0)), (2, .ref (adb 0)), (3, .ref o)]) hx hb dL_law_792 hl1 (k := 0) rfl (by rw [← nI_add]; rfl) (by decide) rfl (fun ls2 hl2 => ?_)
      refine lv_goto (tgt := 23) hx hb dL_law_795 (by decide) ?_
      exact ih (i + 6) ada1 σ1 τ1 w1 κ1 f1 H1 locs1 ls2 (by omega) hi hI1 hS1 (by rw [ha]; exact hl2) hR1
    refine lv_aload_n hx hb dL_law_33 rfl (lv_at hl 1 rfl) ?_
    refine lv_iload hx hb dL_law_34 (lv_at hl 0 rfl) ?_
    refine va_sld hx hb hX hbl hbA hS (vp_in_nI (show i < L by omega) (by omega)) dL_law_36 ?_
    refine lv_bipush (v := 31) hx hb dL_law_37 (by decide) ?_
    refine lv_iand hx hb dL_law_39 ?_
    generalize xs (nI i).toNatClampNeg &&& 31 = x
    obtain ⟨u0, u1, u2, u3, u4, u5, u6, u7, u8, u9, u10, u11, u12, u13, u14, u15, u16, u17, u18, u19, u20, u21⟩ := hU.2.2.2
    rcases tb22 (x := x) with hq | ⟨k, hk, rfl⟩
    · exact lv_tableOut (tgt := 792) hx hb dL_law_40 hq (by decide) (W.widen (by omega) (by omega) (kk ada σ τ w κ f H locs ls rfl hI hS hl (hU.2.2.1 _ _ _ _ _ hR)))
    · match k, hk with
      | 0, _ => exact lv_tableIn (tgt := 144) (off := 104) hx hb dL_law_40 (by decide) (by decide) (by rfl) (by decide) (law_feed u0 (hC := hC) C0 hI hS hl hi hR kk)
      | 1, _ => exact lv_tableIn (tgt := 217) (off := 177) hx hb dL_law_40 (by decide) (by decide) (by rfl) (by decide) (law_end u1 (hC := hC) C0 hI hS hl hi hR kk)
      | 2, _ => exact lv_tableIn (tgt := 242) (off := 202) hx hb dL_law_40 (by decide) (by decide) (by rfl) (by decide) (law_levels u2 (hC := hC) C0 hI hS hl hi hR kk)
      | 3, _ => exact lv_tableIn (tgt := 255) (off := 215) hx hb dL_law_40 (by decide) (by decide) (by rfl) (by decide) (law_fault u3 (hC := hC) C0 hI hS hl hi hR kk)
      | 4, _ => exact lv_tableIn (tgt := 268) (off := 228) hx hb dL_law_40 (by decide) (by decide) (by rfl) (by decide) (law_add u4 (hC := hC) C0 hI hS hl hi hR kk)
      | 5, _ => exact lv_tableIn (tgt := 305) (off := 265) hx hb dL_law_40 (by decide) (by decide) (by rfl) (by decide) (law_strike u5 (hC := hC) C0 hI hS hl hi hR kk)
      | 6, _ => exact lv_tableIn (tgt := 330) (off := 290) hx hb dL_law_40 (by decide) (by decide) (by rfl) (by decide) (law_renumber u6 (hC := hC) C0 hI hS hl hi hR kk)
      | 7, _ => exact lv_tableIn (tgt := 355) (off := 315) hx hb dL_law_40 (by decide) (by decide) (by rfl) (by decide) (law_error u7 (hC := hC) C0 hI hS hl hi hR kk)
      | 8, _ => exact lv_tableIn (tgt := 404) (off := 364) hx hb dL_law_40 (by decide) (by decide) (by rfl) (by decide) (law_undo u8 (hC := hC) C0 hI hS hl hi hR kk)
      | 9, _ => exact lv_tableIn (tgt := 417) (off := 377) hx hb dL_law_40 (by decide) (by decide) (by rfl) (by decide) (law_wait u9 (hC := hC) C0 hI hS hl hi hR kk)
      | 10, _ => exact lv_tableIn (tgt := 442) (off := 402) hx hb dL_law_40 (by decide) (by decide) (by rfl) (by decide) (law_about u10 (hC := hC) C0 hI hS hl hi hR kk)
      | 11, _ => exact lv_tableIn (tgt := 510) (off := 470) hx hb dL_law_40 (by decide) (by decide) (by rfl) (by decide) (law_label u11 (hC := hC) C0 hI hS hl hi hR kk)
      | 12, _ => exact lv_tableIn (tgt := 547) (off := 507) hx hb dL_law_40 (by decide) (by decide) (by rfl) (by decide) (law_cited u12 (hC := hC) C0 hI hS hl hi hR kk)
      | 13, _ => exact lv_tableIn (tgt := 584) (off := 544) hx hb dL_law_40 (by decide) (by decide) (by rfl) (by decide) (law_octet u13 (hC := hC) C0 hI hS hl hi hR kk)
      | 14, _ => exact lv_tableIn (tgt := 640) (off := 600) hx hb dL_law_40 (by decide) (by decide) (by rfl) (by decide) (law_cite u14 (hC := hC) C0 hI hS hl hi hR kk)
      | 15, _ => exact lv_tableIn (tgt := 665) (off := 625) hx hb dL_law_40 (by decide) (by decide) (by rfl) (by decide) (law_place u15 (hC := hC) C0 hI hS hl hi hR kk)
      | 16, _ => exact lv_tableIn (tgt := 678) (off := 638) hx hb dL_law_40 (by decide) (by decide) (by rfl) (by decide) (law_bearers u16 (hC := hC) C0 hI hS hl hi hR kk)
      | 17, _ => exact lv_tableIn (tgt := 691) (off := 651) hx hb dL_law_40 (by decide) (by decide) (by rfl) (by decide) (law_read u17 (hC := hC) C0 hI hS hl hi hR kk)
      | 18, _ => exact lv_tableIn (tgt := 716) (off := 676) hx hb dL_law_40 (by decide) (by decide) (by rfl) (by decide) (law_suffix u18 (hC := hC) C0 hI hS hl hi hR kk)
      | 19, _ => exact lv_tableIn (tgt := 729) (off := 689) hx hb dL_law_40 (by decide) (by decide) (by rfl) (by decide) (law_clash u19 (hC := hC) C0 hI hS hl hi hR kk)
      | 20, _ => exact lv_tableIn (tgt := 742) (off := 702) hx hb dL_law_40 (by decide) (by decide) (by rfl) (by decide) (law_at u20 (hC := hC) C0 hI hS hl hi hR kk)
      | 21, _ => exact lv_tableIn (tgt := 767) (off := 727) hx hb dL_law_40 (by decide) (by decide) (by rfl) (by decide) (law_count u21 (hC := hC) C0 hI hS hl hi hR kk)
      | k + 22, hk => exact absurd hk (by omega)
