/-! own words: String constants: length and charAt -/
def rmJc : Room := { frames := 0, cells := 0, slots := 0, locals := 0 }
def rmJl : Room := { frames := 1, cells := 0, slots := 0, locals := 20 }
def rmJi : Room := { frames := 1, cells := 0, slots := 0, locals := 22 }
def rmJh : Room := { frames := 2, cells := 0, slots := 0, locals := 43 }
def rmJa : Room := { frames := 3, cells := 0, slots := 0, locals := 64 }
theorem narB0 : nar (some .byte) (some (.int 0)) := (by decide : narrow .byte (.int 0) = .int 0)
set_option maxHeartbeats 4000000 in
set_option maxRecDepth 100000 in
theorem mJ0_coder (K : Nat → Nat) (l : Launch) (D : va_G) (cI cZ cB : ClassId) (i : Nat) (hi : i < 5) : Met l yJ0_coder_7d493 wsJ0_coder_7d493 rmJc (pRx K D cI cZ cB wd0 [.ref (K (10 + i))]) (qR (some (.int 0))) 0 0 (fun _ => False) := by
  refine BRx.met (cc := cJ0_coder_7d493) (maxL := 1) (ty := .byte) (by decide +kernel) rfl (Nat.le_of_ble_eq_true rfl) ?_
  intro p e s m args below meth c ls Q hx hb hml hts hown hX hK hP hl0 hR
  obtain ⟨-, ⟨b1, b2, b3⟩, -⟩ := hX
  have hl : lv_has ls 1 [(0, .ref (K (10 + i)))] := hl0
  refine va_gets hx hb b1 va_S.rf hown (hts (.fieldLink RJ0 38 "java/lang/String" "COMPACT_STRINGS" "Z") (by decide +kernel)) (fun _ h9 => h9) dJ0_coder_7d493_0 ?_
  refine lv_if_eq (tgt := 13) hx hb dJ0_coder_7d493_3 (by decide) (fun c1 => absurd c1 (by decide)) (fun _ => ?_)
  refine lv_aload_n hx hb dJ0_coder_7d493_6 rfl (lv_at hl 0 rfl) ?_
  refine vk_getf hx hb (b3.1 i hi).2.1 va_S.rf hown (hts (.fieldLink RJ0 15 "java/lang/String" "coder" "B") (by decide +kernel)) (fun _ h9 => h9) dJ0_coder_7d493_7 ?_
  refine lv_goto (tgt := 14) hx hb dJ0_coder_7d493_10 (by decide) ?_
  exact hR (some (.int 0)) _ _ rfl narB0 dJ0_coder_7d493_14
set_option maxHeartbeats 4000000 in
set_option maxRecDepth 100000 in
theorem mJ0_isLatin1 (K : Nat → Nat) (l : Launch) (D : va_G) (cI cZ cB : ClassId) (i : Nat) (hi : i < 5) : Met l yJ0_isLatin1_aae02 wsJ0_isLatin1_aae02 rmJc (pRx K D cI cZ cB wd0 [.ref (K (10 + i))]) (qR (some (.int 1))) 0 0 (fun _ => False) := by
  refine BRx.met (cc := cJ0_isLatin1_aae02) (maxL := 1) (ty := .boolean) (by decide +kernel) rfl (Nat.le_of_ble_eq_true rfl) ?_
  intro p e s m args below meth c ls Q hx hb hml hts hown hX hK hP hl0 hR
  obtain ⟨-, ⟨b1, b2, b3⟩, -⟩ := hX
  have hl : lv_has ls 1 [(0, .ref (K (10 + i)))] := hl0
  refine va_gets hx hb b1 va_S.rf hown (hts (.fieldLink RJ0 38 "java/lang/String" "COMPACT_STRINGS" "Z") (by decide +kernel)) (fun _ h9 => h9) dJ0_isLatin1_aae02_0 ?_
  refine lv_if_eq (tgt := 17) hx hb dJ0_isLatin1_aae02_3 (by decide) (fun c1 => absurd c1 (by decide)) (fun _ => ?_)
  refine lv_aload_n hx hb dJ0_isLatin1_aae02_6 rfl (lv_at hl 0 rfl) ?_
  refine vk_getf hx hb (b3.1 i hi).2.1 va_S.rf hown (hts (.fieldLink RJ0 15 "java/lang/String" "coder" "B") (by decide +kernel)) (fun _ h9 => h9) dJ0_isLatin1_aae02_7 ?_
  refine lv_if_ne (tgt := 17) hx hb dJ0_isLatin1_aae02_10 (by decide) (fun c1 => absurd rfl c1) (fun _ => ?_)
  refine lv_iconst (v := 1) hx hb dJ0_isLatin1_aae02_13 (by decide) ?_
  refine lv_goto (tgt := 18) hx hb dJ0_isLatin1_aae02_14 (by decide) ?_
  exact hR (some (.int 1)) _ _ rfl nb1 dJ0_isLatin1_aae02_18
set_option maxHeartbeats 4000000 in
set_option maxRecDepth 100000 in
theorem mJ0_length (K : Nat → Nat) (l : Launch) (D : va_G) (cI cZ cB : ClassId) (i : Nat) (hi : i < 5) : Met l yJ0_length_8abf5 wsJ0_length_8abf5 rmJl (pRx K D cI cZ cB wd0 [.ref (K (10 + i))]) (qR (some (.int (nI (sLen i))))) 0 0 (fun _ => False) := by
  refine BRx.met (cc := cJ0_length_8abf5) (maxL := 1) (ty := .int) (by decide +kernel) rfl (Nat.le_of_ble_eq_true rfl) ?_
  intro p e s m args below meth c ls Q hx hb hml hts hown hX hK hP hl0 hR
  have hX0 := hX
  obtain ⟨-, ⟨b1, b2, b3⟩, -⟩ := hX0
  have hl : lv_has ls 1 [(0, .ref (K (10 + i)))] := hl0
  refine lv_aload_n hx hb dJ0_length_8abf5_0 rfl (lv_at hl 0 rfl) ?_
  refine vk_getf hx hb (b3.1 i hi).2.2.1 va_S.rf hown (hts (.fieldLink RJ0 9 "java/lang/String" "value" "[B") (by decide +kernel)) (fun _ h9 => h9) dJ0_length_8abf5_1 ?_
  refine va_tlen (v := nI (sLen i)) hx hb (b3.1 i hi).2.2.2 va_S.rf rfl dJ0_length_8abf5_4 ?_
  refine lv_aload_n hx hb dJ0_length_8abf5_5 rfl (lv_at hl 0 rfl) ?_
  refine cl_RVk (rest := [.int (nI (sLen i))]) ⟨hx, hb, hml, hown, hts⟩ (mJ0_coder K l D cI cZ cB i hi) (cwV 0 hts gJ0_length_8abf5_J0_coder_7d493 rfl rfl rfl (by decide +kernel) ⟨Nat.le_of_ble_eq_true rfl, Nat.le_of_ble_eq_true rfl⟩) hX va_S.rf hK wd0_P (vk_recv (i := i) b3 hi va_S.rf) rfl hl.1 rfl (Nat.le_of_ble_eq_true rfl) dJ0_length_8abf5_6 ⟨Nat.zero_le _, Nat.zero_le _⟩ ?_
  refine W.eq (g2 := F0 m 9 ls [.int 0, .int (nI (sLen i))]) rfl ?_
  refine lv_ishr hx hb dJ0_length_8abf5_9 ?_
  exact hR (some (.int _)) _ _ (by rw [sb_shr0]) rfl dJ0_length_8abf5_10
set_option maxHeartbeats 4000000 in
set_option maxRecDepth 100000 in
theorem mJ3_checkIndex (K : Nat → Nat) (l : Launch) (D : va_G) (cI cZ cB : ClassId) (v3 : Value) (hv3 : v3 = .null ∨ ∃ t, v3 = .ref t) (j n : Int32) (h0 : ¬ j < 0) (h1 : j < n) : Met l yJ3_checkIndex_8e157 wsJ3_checkIndex_8e157 rmJc (pRx K D cI cZ cB wd0 [.int j, .int n, v3]) (qR (some (.int j))) 0 0 (fun _ => False) := by
  refine BRx.met (cc := cJ3_checkIndex_8e157) (maxL := 3) (ty := .int) (by decide +kernel) rfl (by rcases hv3 with rfl | ⟨t, rfl⟩ <;> exact Nat.le_of_ble_eq_true rfl) ?_
  intro p e s m args below meth c ls Q hx hb hml hts hown hX hK hP hl0 hR
  have hl : lv_has ls 3 [(0, .int j), (1, .int n), (2, v3)] := hl0
  refine lv_iload_n hx hb dJ3_checkIndex_8e157_0 rfl (lv_at hl 0 rfl) ?_
  refine lv_if_lt (tgt := 9) hx hb dJ3_checkIndex_8e157_1 (by decide) (fun c1 => absurd c1 h0) (fun _ => ?_)
  refine lv_iload_n hx hb dJ3_checkIndex_8e157_4 rfl (lv_at hl 0 rfl) ?_
  refine lv_iload_n hx hb dJ3_checkIndex_8e157_5 rfl (lv_at hl 1 rfl) ?_
  refine lv_icmp_lt (tgt := 16) hx hb dJ3_checkIndex_8e157_6 (by decide) (fun _ => ?_) (fun c1 => absurd h1 c1)
  refine lv_iload_n hx hb dJ3_checkIndex_8e157_16 rfl (lv_at hl 0 rfl) ?_
  exact hR (some (.int j)) _ _ rfl rfl dJ3_checkIndex_8e157_17
set_option maxHeartbeats 4000000 in
set_option maxRecDepth 100000 in
theorem mJ0_checkIndex (K : Nat → Nat) (l : Launch) (D : va_G) (cI cZ cB : ClassId) (j n : Int32) (h0 : ¬ j < 0) (h1 : j < n) : Met l yJ0_checkIndex_df160 wsJ0_checkIndex_df160 rmJi (pRx K D cI cZ cB wd0 [.int j, .int n]) (qR none) 0 0 (fun _ => False) := by
  refine BRx.metv (cc := cJ0_checkIndex_df160) (maxL := 2) (by decide +kernel) rfl (Nat.le_of_ble_eq_true rfl) ?_
  intro p e s m args below meth c ls Q hx hb hml hts hown hX hK hP hl0 hR
  have hX0 := hX
  obtain ⟨-, ⟨b1, b2, b3⟩, -⟩ := hX0
  have hl : lv_has ls 2 [(0, .int j), (1, .int n)] := hl0
  have fl := hts (.fieldLink RJ0 1053 "jdk/internal/util/Preconditions" "SIOOBE_FORMATTER" "Ljava/util/function/BiFunction;") (by decide +kernel)
  refine lv_iload_n hx hb dJ0_checkIndex_df160_0 rfl (lv_at hl 0 rfl) ?_
  refine lv_iload_n hx hb dJ0_checkIndex_df160_1 rfl (lv_at hl 1 rfl) ?_
  have go : ∀ v3 : Value, (v3 = .null ∨ ∃ t, v3 = .ref t) → W p l e rmJi s m args below meth c s.heap [] 0 0 Q (F0 m 5 ls [v3, .int n, .int j]) := by
    intro v3 hv3
    refine cl_RSx (rest := []) ⟨hx, hb, hml, hown, hts⟩ (mJ3_checkIndex K l D cI cZ cB v3 hv3 j n h0 h1) (va_cwS 3 hts gJ0_checkIndex_df160_J3_checkIndex_8e157 rfl rfl rfl (by decide +kernel) ⟨Nat.le_of_ble_eq_true rfl, Nat.le_of_ble_eq_true rfl⟩) hX va_S.rf hK wd0_P rfl hl.1 rfl (Nat.le_of_ble_eq_true rfl) dJ0_checkIndex_df160_5 ⟨Nat.zero_le _, Nat.zero_le _⟩ ?_
    refine W.eq (g2 := F0 m 8 ls [.int j]) rfl ?_
    refine lv_pop hx hb dJ0_checkIndex_df160_8 rfl ?_
    exact hR none _ _ rfl trivial dJ0_checkIndex_df160_9
  rcases b2 with b2 | ⟨t, b2⟩
  · exact va_gets hx hb b2 va_S.rf hown fl (fun _ h9 => h9) dJ0_checkIndex_df160_2 (go .null (Or.inl rfl))
  · exact va_gets hx hb b2 va_S.rf hown fl (fun _ h9 => h9) dJ0_checkIndex_df160_2 (go (.ref t) (Or.inr ⟨t, rfl⟩))
theorem vp_in_lt {j : Int32} {n : Nat} (hn : n < 2 ^ 31) (h : vp_in j n) : ¬ j < 0 ∧ j < nI n := by
  obtain ⟨k, hk, rfl⟩ := vp_in_of h hn
  exact ⟨nI_pos (by omega), nI_lt hk hn⟩
theorem sLen_lt (i : Nat) (hi : i < 5) : sLen i < 2 ^ 31 := by
  rcases (show i = 0 ∨ i = 1 ∨ i = 2 ∨ i = 3 ∨ i = 4 by omega) with rfl | rfl | rfl | rfl | rfl <;> decide
set_option maxHeartbeats 4000000 in
set_option maxRecDepth 100000 in
theorem mJ1_charAt (K : Nat → Nat) (l : Launch) (D : va_G) (cI cZ cB : ClassId) (i : Nat) (hi : i < 5) (j : Int32) (hj : vp_in j (sLen i)) : Met l yJ1_charAt_3b067 wsJ1_charAt_3b067 rmJh (pRx K D cI cZ cB wd0 [.ref (K (20 + i)), .int j]) (qR (some (.int (sCh i j.toNatClampNeg)))) 0 0 (fun _ => False) := by
  refine BRx.met (cc := cJ1_charAt_3b067) (maxL := 2) (ty := .char) (by decide +kernel) rfl (Nat.le_of_ble_eq_true rfl) ?_
  intro p e s m args below meth c ls Q hx hb hml hts hown hX hK hP hl0 hR
  have hX0 := hX
  obtain ⟨-, ⟨b1, b2, b3⟩, -⟩ := hX0
  have hl : lv_has ls 2 [(0, .ref (K (20 + i))), (1, .int j)] := hl0
  obtain ⟨h0, h1⟩ := vp_in_lt (sLen_lt i hi) hj
  refine lv_iload_n hx hb dJ1_charAt_3b067_0 rfl (lv_at hl 1 rfl) ?_
  refine lv_aload_n hx hb dJ1_charAt_3b067_1 rfl (lv_at hl 0 rfl) ?_
  refine va_tlen (v := nI (sLen i)) hx hb (b3.1 i hi).2.2.2 va_S.rf rfl dJ1_charAt_3b067_2 ?_
  refine cl_RSx (rest := []) ⟨hx, hb, hml, hown, hts⟩ (mJ0_checkIndex K l D cI cZ cB j (nI (sLen i)) h0 h1) (va_cwS 2 hts gJ1_charAt_3b067_J0_checkIndex_df160 rfl rfl rfl (by decide +kernel) ⟨Nat.le_of_ble_eq_true rfl, Nat.le_of_ble_eq_true rfl⟩) hX va_S.rf hK wd0_P rfl hl.1 rfl (Nat.le_of_ble_eq_true rfl) dJ1_charAt_3b067_3 ⟨Nat.zero_le _, Nat.zero_le _⟩ ?_
  refine W.eq (g2 := F0 m 6 ls []) rfl ?_
  refine lv_aload_n hx hb dJ1_charAt_3b067_6 rfl (lv_at hl 0 rfl) ?_
  refine lv_iload_n hx hb dJ1_charAt_3b067_7 rfl (lv_at hl 1 rfl) ?_
  refine va_tb hx hb (b3.1 i hi).2.2.2 va_S.rf hj rfl dJ1_charAt_3b067_8 ?_
  refine lv_sipush (v := 255) hx hb dJ1_charAt_3b067_9 (by decide) ?_
  refine lv_iand hx hb dJ1_charAt_3b067_12 ?_
  refine lv_i2c (v := sCh i j.toNatClampNeg) hx hb dJ1_charAt_3b067_13 rfl ?_
  exact hR (some (.int _)) _ _ rfl (pk_nc _) dJ1_charAt_3b067_14
set_option maxHeartbeats 4000000 in
set_option maxRecDepth 100000 in
theorem mJ0_charAt (K : Nat → Nat) (l : Launch) (D : va_G) (cI cZ cB : ClassId) (i : Nat) (hi : i < 5) (j : Int32) (hj : vp_in j (sLen i)) : Met l yJ0_charAt_5068e wsJ0_charAt_5068e rmJa (pRx K D cI cZ cB wd0 [.ref (K (10 + i)), .int j]) (qR (some (.int (sCh i j.toNatClampNeg)))) 0 0 (fun _ => False) := by
  refine BRx.met (cc := cJ0_charAt_5068e) (maxL := 2) (ty := .char) (by decide +kernel) rfl (Nat.le_of_ble_eq_true rfl) ?_
  intro p e s m args below meth c ls Q hx hb hml hts hown hX hK hP hl0 hR
  have hX0 := hX
  obtain ⟨-, ⟨b1, b2, b3⟩, -⟩ := hX0
  have hl : lv_has ls 2 [(0, .ref (K (10 + i))), (1, .int j)] := hl0
  refine lv_aload_n hx hb dJ0_charAt_5068e_0 rfl (lv_at hl 0 rfl) ?_
  refine cl_RVk (rest := []) ⟨hx, hb, hml, hown, hts⟩ (mJ0_isLatin1 K l D cI cZ cB i hi) (cwV 0 hts gJ0_charAt_5068e_J0_isLatin1_aae02 rfl rfl rfl (by decide +kernel) ⟨Nat.le_of_ble_eq_true rfl, Nat.le_of_ble_eq_true rfl⟩) hX va_S.rf hK wd0_P (vk_recv (i := i) b3 hi va_S.rf) rfl hl.1 rfl (Nat.le_of_ble_eq_true rfl) dJ0_charAt_5068e_1 ⟨Nat.zero_le _, Nat.zero_le _⟩ ?_
  refine W.eq (g2 := F0 m 4 ls [.int 1]) rfl ?_
  refine lv_if_eq (tgt := 16) hx hb dJ0_charAt_5068e_4 (by decide) (fun c1 => absurd c1 (by decide)) (fun _ => ?_)
  refine lv_aload_n hx hb dJ0_charAt_5068e_7 rfl (lv_at hl 0 rfl) ?_
  refine vk_getf hx hb (b3.1 i hi).2.2.1 va_S.rf hown (hts (.fieldLink RJ0 9 "java/lang/String" "value" "[B") (by decide +kernel)) (fun _ h9 => h9) dJ0_charAt_5068e_8 ?_
  refine lv_iload_n hx hb dJ0_charAt_5068e_11 rfl (lv_at hl 1 rfl) ?_
  refine cl_RSx (rest := []) ⟨hx, hb, hml, hown, hts⟩ (mJ1_charAt K l D cI cZ cB i hi j hj) (va_cwS 2 hts gJ0_charAt_5068e_J1_charAt_3b067 rfl rfl rfl (by decide +kernel) ⟨Nat.le_of_ble_eq_true rfl, Nat.le_of_ble_eq_true rfl⟩) hX va_S.rf hK wd0_P rfl hl.1 rfl (Nat.le_of_ble_eq_true rfl) dJ0_charAt_5068e_12 ⟨Nat.zero_le _, Nat.zero_le _⟩ ?_
  refine W.eq (g2 := F0 m 15 ls [.int (sCh i j.toNatClampNeg)]) rfl ?_
  exact hR (some (.int _)) _ _ rfl (pk_nc _) dJ0_charAt_5068e_15
