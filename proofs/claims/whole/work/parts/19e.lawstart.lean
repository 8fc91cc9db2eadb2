/-! own words: from the law's entry to its loop -/
theorem P_L {D : va_G} {cl : List vw_C} {a b : va_W} {H : Heap} (h : va_P D cl (a ++ b) H) : va_P D cl a H := fun k q hq => h k q (by rw [List.getElem?_append_left (List.getElem?_eq_some_iff.mp hq).1]; exact hq)
theorem P_R {D : va_G} {cl : List vw_C} {a b : va_W} {H : Heap} (h : va_P D cl (a ++ b) H) : va_P D cl b H := fun k q hq => h (a.length + k) q (by rw [List.getElem?_append_right (by omega), Nat.add_sub_cancel_left]; exact hq)
theorem D_L {A : Nat → Prop} {a b : va_W} (h : va_D A (a ++ b)) : va_D A a := by
  have e : ∀ (k : Nat) (q : Nat × va_E), a[k]? = some q → (a ++ b)[k]? = some q := fun k q hq => by rw [List.getElem?_append_left (List.getElem?_eq_some_iff.mp hq).1]; exact hq
  exact ⟨fun i j p q hp hq he => h.1 i j p q (e i p hp) (e j q hq) he, fun k q hq => h.2 k q (e k q hq)⟩
theorem D_R {A : Nat → Prop} {a b : va_W} (h : va_D A (a ++ b)) : va_D A b := by
  have e : ∀ (k : Nat) (q : Nat × va_E), b[k]? = some q → (a ++ b)[a.length + k]? = some q := fun k q hq => by rw [List.getElem?_append_right (by omega), Nat.add_sub_cancel_left]; exact hq
  exact ⟨fun i j p q hp hq he => by have := h.1 _ _ p q (e i p hp) (e j q hq) he; omega, fun k q hq => h.2 _ q (e k q hq)⟩
theorem D_apt {A : Nat → Prop} {a b : va_W} (h : va_D A (a ++ b)) : apt a b := fun i j p q hp hq he => by
  have hl := (List.getElem?_eq_some_iff.mp hp).1
  have := h.1 i (a.length + j) p q (by rw [List.getElem?_append_left hl]; exact hp) (by rw [List.getElem?_append_right (by omega), Nat.add_sub_cancel_left]; exact hq) he
  omega
theorem P_nil {D : va_G} {cl : List vw_C} {H : Heap} : va_P D cl [] H := fun _ _ h => by cases h
theorem D_nil {A : Nat → Prop} : va_D A [] := ⟨fun _ _ _ _ h => (by cases h), fun _ _ h => (by cases h)⟩
set_option maxHeartbeats 8000000 in
set_option maxRecDepth 100000 in
theorem start_of {Rel : RelT} (hU : PU Rel) {p : Program} {e : Env} {s : State} {m : MethodId} {below : List Frame} {meth : Method} {c : Code} (l : Launch) (hflags : l.flags = flags0) {b L : Nat} {xs : Nat → Int32} (hL : L ≤ 3072) (C0 : lw_At p s m meth c b L xs) : W p l e room_1 s m #[Value.ref b] below meth c s.heap [] 0 0 (lw_Z below #[Value.ref b] s) (entryFrame m ([Value.ref b] : List Value).toArray 7) := by
  obtain ⟨hx, hb, hr, hml, hown, hts, hX, hbl, hlocks, hgv⟩ := C0
  have hfl : l.stackTraces = false := by
    unfold Launch.stackTraces
    rw [hflags]
    decide +kernel
  have hown : s.vm.findClass RL = some m.cls := hown
  obtain ⟨D, cI, cZ, cB, hK⟩ := k_start hts
  obtain ⟨K, hGX, hGZ⟩ := gx_start hts hgv
  have hN := gn_start hts
  have hA : ∀ q : Nat, s.heap.size ≤ q → (fun q => s.heap.size ≤ q) q := fun _ h => h
  have hS : va_S (fun q => s.heap.size ≤ q) s.heap s.heap [] := va_S.rf
  have hl := lv_entry ([.ref b]) (n := 7) (Nat.le_of_ble_eq_true rfl)
  rw [lg_entry_eq]
  generalize (lg_sl ([.ref b]) ++ List.replicate (7 - (lg_sl ([.ref b])).length) Slot.unset).toArray = ls at hl ⊢
  have hl : lv_has ls 7 [(0, .ref b)] := hl
  have f1 := hts (.classLink RL 8 RX9) (List.mem_of_getElem? (i := 66) (by decide +kernel))
  have f2 := hts (.instantiable RX9 15) (List.mem_of_getElem? (i := 67) (by decide +kernel))
  have f3 := hts (.initialized RX9) (List.mem_of_getElem? (i := 44) (by decide +kernel))
  have f4 := hts (.methodLink RL 19 yX9_init) (List.mem_of_getElem? (i := 68) (by decide +kernel))
  have f5 := hts (.instanceMethod yX9_init) (List.mem_of_getElem? (i := 69) (by decide +kernel))
  have g1 := hts (.classLink RL 20 RX10) (List.mem_of_getElem? (i := 806) (by decide +kernel))
  have g2 := hts (.instantiable RX10 42) (List.mem_of_getElem? (i := 807) (by decide +kernel))
  have g3 := hts (.initialized RX10) (List.mem_of_getElem? (i := 53) (by decide +kernel))
  have g4 := hts (.methodLink RL 22 yX10_init) (List.mem_of_getElem? (i := 808) (by decide +kernel))
  have g5 := hts (.instanceMethod yX10_init) (List.mem_of_getElem? (i := 809) (by decide +kernel))
  have h1 := hts (.arrayClass .long) (List.mem_of_getElem? (i := 1177) (by decide +kernel))
  refine va_new (ws := []) (ci := 7) (fs := [.null, .null, .null, .null, .null, .null, .null, .null, .null, .null, .int 0, .int 0, .int 0, .int 0, .int 0]) (C := RX9) (T := TX9) (N := 15) hx hb hts gI_X9 tyX9 tyX9_ok hown f1 f2 f3 hK P_nil D_nil hS hA rfl (fun j hj => by rcases (show j = 0 ∨ j = 1 ∨ j = 2 ∨ j = 3 ∨ j = 4 ∨ j = 5 ∨ j = 6 ∨ j = 7 ∨ j = 8 ∨ j = 9 ∨ j = 10 ∨ j = 11 ∨ j = 12 ∨ j = 13 ∨ j = 14 by omega) with rfl | rfl | rfl | rfl | rfl | rfl | rfl | rfl | rfl | rfl | rfl | rfl | rfl | rfl | rfl <;> rfl) (Nat.le_of_ble_eq_true rfl) (Nat.le_of_ble_eq_true rfl) dL_law_0 (fun q1 H hP hD hS => ?_)
  have hP : va_P D vwCl [(q1, .inr (7, [.null, .null, .null, .null, .null, .null, .null, .null, .null, .null, .int 0, .int 0, .int 0, .int 0, .int 0]))] H := hP
  have hD : va_D (fun q => s.heap.size ≤ q) [(q1, .inr (7, [.null, .null, .null, .null, .null, .null, .null, .null, .null, .null, .int 0, .int 0, .int 0, .int 0, .int 0]))] := hD
  refine lv_dup hx hb dL_law_3 rfl ?_
  have hFc := A_of hD hS hA
  refine cr_G (W.runI (As := []) (rest := [.ref q1]) ⟨hx, hb, hml, hown, hts⟩ (mX9_init l D cI cZ cB q1 H.size) (cwI 0 hts gW_X9_init rfl rfl rfl f3 f4 f5 rfl (by decide +kernel) ⟨Nat.le_of_ble_eq_true rfl, Nat.le_of_ble_eq_true rfl⟩) ⟨pI_fb, fun U hU hW => ⟨rfl, GN.moved hW hN, by rw [hU], by rw [hU]; exact hP, va_K.moved hW.alike hK, hD.weaken (fun _ _ _ _ => trivial)⟩⟩ rfl rfl hl.1 rfl (lv_room (Nat.le_of_ble_eq_true rfl)) dL_law_4 ⟨Nat.le_of_ble_eq_true rfl, Nat.le_of_ble_eq_true rfl⟩) hS (fun q _ h => hFc q h) hFc (fun adv1 H1 locs1 hP1 hD1 hk1 hS1 => ?_)
  have hD1 : va_D (fun q => s.heap.size ≤ q) (wdX9 cI cZ cB (cs q1 adv1) mX9_0) := hD1.weaken (fun k q _ h => hFc q.1 h)
  refine W.eq (g2 := F0 m 7 ls [.ref q1]) rfl ?_
  refine lv_astore_n (lv' := [(1, .ref q1), (0, .ref b)]) hx hb dL_law_7 rfl hl (by decide) rfl (fun ls hl => ?_)
  refine va_new (ci := 8) (fs := [.int 0, .null, .int 0, .int 0, .int 0, .null, .null, .null, .null, .int 0, .int 0, .int 0, .int 0, .int 0, .long 0, .int 0, .null, .null, .null, .null, .null, .int 0, .null, .null, .null, .int 0, .null, .null, .null, .int 0, .null, .null, .int 0, .null, .null, .int 0, .int 0, .int 0, .null, .null, .int 0, .int 0]) (C := RX10) (T := TX10) (N := 42) hx hb hts gI_X10 tyX10 tyX10_ok hown g1 g2 g3 hK hP1 hD1 hS1 hA rfl (fun j hj => by rcases (show j = 0 ∨ j = 1 ∨ j = 2 ∨ j = 3 ∨ j = 4 ∨ j = 5 ∨ j = 6 ∨ j = 7 ∨ j = 8 ∨ j = 9 ∨ j = 10 ∨ j = 11 ∨ j = 12 ∨ j = 13 ∨ j = 14 ∨ j = 15 ∨ j = 16 ∨ j = 17 ∨ j = 18 ∨ j = 19 ∨ j = 20 ∨ j = 21 ∨ j = 22 ∨ j = 23 ∨ j = 24 ∨ j = 25 ∨ j = 26 ∨ j = 27 ∨ j = 28 ∨ j = 29 ∨ j = 30 ∨ j = 31 ∨ j = 32 ∨ j = 33 ∨ j = 34 ∨ j = 35 ∨ j = 36 ∨ j = 37 ∨ j = 38 ∨ j = 39 ∨ j = 40 ∨ j = 41 by omega) with rfl | rfl | rfl | rfl | rfl | rfl | rfl | rfl | rfl | rfl | rfl | rfl | rfl | rfl | rfl | rfl | rfl | rfl | rfl | rfl | rfl | rfl | rfl | rfl | rfl | rfl | rfl | rfl | rfl | rfl | rfl | rfl | rfl | rfl | rfl | rfl | rfl | rfl | rfl | rfl | rfl | rfl <;> rfl) (Nat.le_of_ble_eq_true rfl) (Nat.le_of_ble_eq_true rfl) dL_law_8 (fun q2 H hP hD hS => ?_)
  have hP2 := P_R hP
  have hD2 := D_R hD
  have hI : LI D (fun q => s.heap.size ≤ q) [(q2, .inr (8, [.int 0, .null, .int 0, .int 0, .int 0, .null, .null, .null, .null, .int 0, .int 0, .int 0, .int 0, .int 0, .long 0, .int 0, .null, .null, .null, .null, .null, .int 0, .null, .null, .null, .int 0, .null, .null, .null, .int 0, .null, .null, .int 0, .null, .null, .int 0, .int 0, .int 0, .null, .null, .int 0, .int 0]))] (wdX9 cI cZ cB (cs q1 adv1) mX9_0) [] H := ⟨⟨hP2, P_L hP, P_nil⟩, ⟨hD2, D_L hD, D_nil⟩, (D_apt hD).symm, (fun _ _ _ _ _ h => by cases h), (fun _ _ _ _ _ h => by cases h)⟩
  clear hP hD
  refine lv_dup hx hb dL_law_11 rfl ?_
  have hFd := A_of hD2 hS hA
  refine cr_G (W.runI (As := []) (rest := [.ref q2]) ⟨hx, hb, hml, hown, hts⟩ (mX10_init l D cI cZ cB q2 H.size) (cwI 0 hts gW_X10_init rfl rfl rfl g3 g4 g5 rfl (by decide +kernel) ⟨Nat.le_of_ble_eq_true rfl, Nat.le_of_ble_eq_true rfl⟩) ⟨pI_fb, fun U hU hW => ⟨rfl, GN.moved hW hN, by rw [hU], by rw [hU]; exact hP2, va_K.moved hW.alike hK, hD2.weaken (fun _ _ _ _ => trivial)⟩⟩ rfl rfl hl.1 rfl (lv_room (Nat.le_of_ble_eq_true rfl)) dL_law_12 ⟨Nat.le_of_ble_eq_true rfl, Nat.le_of_ble_eq_true rfl⟩) hS (fun q _ h => hFd q h) hFd (fun adv2 H2 locs2 hP3 hD3 hk2 hS2 => ?_)
  have hI := (hI.nw hk2 hP3 hD3 hFd).swap
  refine W.eq (g2 := F0 m 15 ls [.ref q2]) rfl ?_
  refine lv_astore_n (lv' := [(2, .ref q2), (1, .ref q1), (0, .ref b)]) hx hb dL_law_15 rfl hl (by decide) rfl (fun ls hl => ?_)
  refine lv_iconst (v := 1) hx hb dL_law_16 (by decide) ?_
  refine va_newa (atype := .long) (N' := 1) (a0 := (1, .inr (.inl (fun _ => 0)))) hx hb h1 rfl hK (va_P.app hI.1.1 hI.1.2.1) (va_D.app hI.2.1.1 hI.2.1.2.1 hI.2.2.1) hS2 hA (fun _ => rfl) (by decide) (by first | rfl | decide +kernel) (Nat.le_of_ble_eq_true rfl) (Nat.le_of_ble_eq_true rfl) (Nat.le_of_ble_eq_true rfl) dL_law_17 (fun q3 cL H3 hK3 hP hD hS => ?_)
  have hI : LI D (fun q => s.heap.size ≤ q) (wdX9 cI cZ cB (cs q1 adv1) mX9_0) (wdX10 cI cZ cB (cs q2 adv2) 0 mX10_0) (rLx cL q3 (fun _ => 0)) H3 := ⟨⟨P_L (P_L hP), P_R (P_L hP), P_R hP⟩, ⟨D_L (D_L hD), D_R (D_L hD), D_R hD⟩, D_apt (D_L hD), (fun i j p q hp hq => D_apt hD i j p q (by rw [List.getElem?_append_left (List.getElem?_eq_some_iff.mp hp).1]; exact hp) hq), (fun i j p q hp hq => D_apt hD ((wdX9 cI cZ cB (cs q1 adv1) mX9_0).length + i) j p q (by rw [List.getElem?_append_right (by omega), Nat.add_sub_cancel_left]; exact hp) hq)⟩
  refine lv_astore_n (lv' := [(3, .ref q3), (2, .ref q2), (1, .ref q1), (0, .ref b)]) hx hb dL_law_19 rfl hl (by decide) rfl (fun ls hl => ?_)
  refine lv_iconst (v := 0) hx hb dL_law_20 (by decide) ?_
  refine lv_istore (lv' := [(4, .int 0), (3, .ref q3), (2, .ref q2), (1, .ref q1), (0, .ref b)]) hx hb dL_law_21 hl (by decide) rfl (fun ls hl => ?_)
  have hl : lv_has ls 7 [(4, .int (nI 0)), (0, .ref b), (1, .ref (cs q1 adv1 0)), (2, .ref (cs q2 adv2 0)), (3, .ref q3)] := lv_sub hl [0, 4, 3, 2, 1] rfl
  exact law_loop hU ⟨⟨hx, hb, hml, hown, hts⟩, hfl, hX, hbl, hL, hK3, hGX, hGZ⟩ hr hlocks L 0 (cs q1 adv1) mX9_0 mX10_0 0 0 (fun _ => 0) H3 _ ls (by omega) (by omega) hI hS hl hU.1
