/-! own words: static tables and String constants, carried along -/
def fSTEPS : Nat → Int32 := fun j => ([900, 500, 400, 100, 90, 50, 40, 10, 9, 5, 4, 1] : List Int32).getD j 0
def fFIRST : Nat → Int32 := fun j => ([67, 68, 67, 67, 88, 76, 88, 88, 73, 86, 73, 73] : List Int32).getD j 0
def fSECOND : Nat → Int32 := fun j => ([77, 0, 68, 0, 67, 0, 76, 0, 88, 0, 86, 0] : List Int32).getD j 0
abbrev sLens : List Nat := [7, 6, 5, 6, 5]
abbrev sByts : List (List Int32) := [[116, 104, 114, 111, 117, 103, 104], [110, 117, 109, 98, 101, 114], [114, 111, 109, 97, 110], [108, 101, 116, 116, 101, 114], [115, 109, 97, 108, 108]]
def sLen (i : Nat) : Nat := sLens.getD i 0
def sCh (i j : Nat) : Int32 := UInt32.toInt32 (Int32.toUInt32 (((sByts.getD i []).getD j 0) &&& 255) % 65536)
def GX (K : Nat → Nat) (A : Nat → Prop) (U : State) (H : Heap) : Prop :=
  (va_Z "LawNumberer$Forms" "STEPS" "[I" (.ref (K 0)) A U H ∧ va_T .int (K 0) 12 (fun j => .int (fSTEPS j)) A U H ∧ va_Z "LawNumberer$Forms" "FIRST_SIGNS" "[C" (.ref (K 1)) A U H ∧ va_T .char (K 1) 12 (fun j => .int (fFIRST j)) A U H ∧ va_Z "LawNumberer$Forms" "SECOND_SIGNS" "[C" (.ref (K 2)) A U H ∧ va_T .char (K 2) 12 (fun j => .int (fSECOND j)) A U H) ∧
  (va_Z "java/lang/String" "COMPACT_STRINGS" "Z" (.int 1) A U H ∧ va_Zq "jdk/internal/util/Preconditions" "SIOOBE_FORMATTER" "Ljava/util/function/BiFunction;" A U H ∧ vk_S 5 sLens sByts (fun i => K (10 + i)) (fun i => K (20 + i)) A U H) ∧
  (vk_R "LawNumberer$LevelsReader" 55 "through" (K (10 + 0)) U ∧ vk_R "LawNumberer$LevelsReader" 71 "number" (K (10 + 1)) U ∧ vk_R "LawNumberer$LevelsReader" 73 "roman" (K (10 + 2)) U ∧ vk_R "LawNumberer$LevelsReader" 75 "letter" (K (10 + 3)) U ∧ vk_R "LawNumberer$LevelsReader" 77 "small" (K (10 + 4)) U)
theorem GX.moved {K : Nat → Nat} {A : Nat → Prop} {u U : State} {H : Heap} (hW : u.WarmedH U.vm) (h : GX K A u H) : GX K A U H := by
  obtain ⟨⟨a1, a2, a3, a4, a5, a6⟩, ⟨b1, b2, b3⟩, c1, c2, c3, c4, c5⟩ := h
  have hv := hW.alike
  exact ⟨⟨va_Z.moved hv a1, va_T.moved hv a2, va_Z.moved hv a3, va_T.moved hv a4, va_Z.moved hv a5, va_T.moved hv a6⟩, ⟨va_Z.moved hv b1, va_Zq.moved hv b2, vk_S.moved hv b3⟩, vk_R.warm hW c1, vk_R.warm hW c2, vk_R.warm hW c3, vk_R.warm hW c4, vk_R.warm hW c5⟩
theorem GX.kept {K : Nat → Nat} {A : Nat → Prop} {U : State} {H H1 : Heap} (h : GX K A U H) (hq : ∀ a : Nat, a < H.size → ¬ A a → H1[a]? = H[a]?) : GX K A U H1 := by
  obtain ⟨⟨a1, a2, a3, a4, a5, a6⟩, ⟨b1, b2, b3⟩, c⟩ := h
  exact ⟨⟨a1.kept hq, a2.kept hq, a3.kept hq, a4.kept hq, a5.kept hq, a6.kept hq⟩, ⟨b1.kept hq, b2.kept hq, b3.kept hq⟩, c⟩
theorem GX.narrow {K : Nat → Nat} {A B : Nat → Prop} {U : State} {H : Heap} (h : GX K A U H) (hAB : ∀ q, B q → A q) : GX K B U H := by
  obtain ⟨⟨a1, a2, a3, a4, a5, a6⟩, ⟨b1, b2, b3⟩, c⟩ := h
  exact ⟨⟨a1.narrow hAB, a2.narrow hAB, a3.narrow hAB, a4.narrow hAB, a5.narrow hAB, a6.narrow hAB⟩, ⟨b1.narrow hAB, b2.narrow hAB, b3.narrow hAB⟩, c⟩
theorem GX.at {K : Nat → Nat} {A0 B : Nat → Prop} {s : State} {H : Heap} {locs : List Loc} (hX : GX K A0 s s.heap) (hS : va_S A0 s.heap H locs) (hB : ∀ q, B q → A0 q) : ∀ U : State, U.heap = H → s.WarmedH U.vm → GX K B U U.heap := fun U hU hW => by
  rw [hU]
  exact ((hX.kept hS.2.1).narrow hB).moved hW
def pRx (K : Nat → Nat) (D : va_G) (cI cZ cB : ClassId) (ws : va_W) (av : List Value) : Array Value → State → Prop := va_Pc av (fun U => GX K (fun _ => False) U U.heap ∧ va_P D vwCl ws U.heap ∧ va_K D vwCl (tyA cI cZ cB) U)
def pWx (K : Nat → Nat) (D : va_G) (cI cZ cB : ClassId) (ws : va_W) (sz : Nat) (av : List Value) : Array Value → State → Prop := va_Pc av (fun U => GX K (va_A ws sz) U U.heap ∧ U.heap.size = sz ∧ va_P D vwCl ws U.heap ∧ va_K D vwCl (tyA cI cZ cB) U ∧ va_D (fun _ => True) ws)
theorem pRx_fb {K : Nat → Nat} {D : va_G} {cI cZ cB : ClassId} {ws : va_W} {av : List Value} : FrameBlind (pRx K D cI cZ cB ws av) := by
  intro a U g mk q
  obtain ⟨q0, qX, qP, qK⟩ := q
  exact ⟨q0, GX.moved (u := U) (U := U.calling g mk a) (State.WarmedH.refl U) qX, qP, va_K.moved (u := U) (U := U.calling g mk a) (Vm.Alike.refl U.vm) qK⟩
theorem pWx_fb {K : Nat → Nat} {D : va_G} {cI cZ cB : ClassId} {ws : va_W} {sz : Nat} {av : List Value} : FrameBlind (pWx K D cI cZ cB ws sz av) := by
  intro a U g mk q
  obtain ⟨q0, qX, q1, qP, qK, qD⟩ := q
  exact ⟨q0, GX.moved (u := U) (U := U.calling g mk a) (State.WarmedH.refl U) qX, q1, qP, va_K.moved (u := U) (U := U.calling g mk a) (Vm.Alike.refl U.vm) qK, qD⟩
section CRX
variable {p : Program} {l : Launch} {e : Env} {R : Room} {s : State} {m : MethodId} {args : Array Value} {below : List Frame} {meth : Method} {c : Code} {H : Heap} {locs : List Loc} {cells slots : Nat} {Q : State → Prop}
variable {pc : Nat} {ls : Array Slot} {rest st0 : List Value} {a : Array Value} {A0 A1 : Nat → Prop} {H0 : Heap} {mc ms : Nat} {free : Addr → Prop}
variable {D : va_G} {cI cZ cB : ClassId} {v : Option Value}
variable {Ts ws' ws'' : List Cond} {cc bytes : ByteArray} {nL maxL index n : Nat} {own C : String} {y : MethodName} {ret : Option FieldType} {rm : Room} {b : Addr} {As : List Value}
variable {K : Nat → Nat}
/-- a reading method, called on an object -/
theorem cl_RVx {wc : va_W} {ci q0 : Nat} {q : vw_C} {fs : List Value} (S : CallFix p m c cc nL s args Ts own) (hM : Met l y ws' rm (pRx K D cI cZ cB wc (.ref b :: As)) (qR v) 0 0 (fun _ => False)) (cw : CallW R s args own C index y bytes maxL ret ws' rm 0 0 n)
    (hX : GX K A0 s s.heap) (hS : va_S A0 s.heap H locs) (hK : va_K D vwCl (tyA cI cZ cB) s) (hP : va_P D vwCl wc H) (hc : vwCl[ci]? = some q) (he : wc[q0]? = some (b, .inr (ci, fs))) (hq : q.1 = C) (hn : As.length = n) (hsize : ls.size = nL) (hstack : st0 = As.reverse ++ .ref b :: rest) (hW : (rest.map fun v => v.category).sum ≤ 8) (hdg : decode cc pc = .ok (.invokevirtual index, 3)) (hf : cells ≤ R.cells ∧ slots ≤ R.slots)
    (kk : W p l e R s m args below meth c H locs cells slots Q (F0 m (pc + 3) ls (v.toList ++ rest))) : W p l e R s m args below meth c H locs cells slots Q (F0 m pc ls st0) := by
  subst hq
  exact cr_R (W.runV S hM cw ⟨pRx_fb, va_recv hK hP hc he, fun U hU hW => ⟨rfl, GX.at hX hS (fun _ h => h.elim) U hU hW, by rw [hU]; exact hP, va_K.moved hW.alike hK⟩⟩ rfl hn hsize hstack (lv_room hW) hdg hf) kk
/-- a reading method, static -/
theorem cl_RSx {wc : va_W} (S : CallFix p m c cc nL s args Ts own) (hM : Met l y ws' rm (pRx K D cI cZ cB wc As) (qR v) 0 0 (fun _ => False)) (cw : CallB R s args own index y bytes maxL ret ws' rm 0 0 n ∧ (Cond.static y).before args s = true)
    (hX : GX K A0 s s.heap) (hS : va_S A0 s.heap H locs) (hK : va_K D vwCl (tyA cI cZ cB) s) (hP : va_P D vwCl wc H) (hn : As.length = n) (hsize : ls.size = nL) (hstack : st0 = As.reverse ++ rest) (hW : (rest.map fun v => v.category).sum ≤ 8) (hdg : decode cc pc = .ok (.invokestatic index, 3)) (hf : cells ≤ R.cells ∧ slots ≤ R.slots)
    (kk : W p l e R s m args below meth c H locs cells slots Q (F0 m (pc + 3) ls (v.toList ++ rest))) : W p l e R s m args below meth c H locs cells slots Q (F0 m pc ls st0) :=
  cr_R (W.runS S hM cw ⟨pRx_fb, fun U hU hW => ⟨rfl, GX.at hX hS (fun _ h => h.elim) U hU hW, by rw [hU]; exact hP, va_K.moved hW.alike hK⟩⟩ rfl hn hsize hstack (lv_room hW) hdg hf) kk
/-- a writing method, called on an object -/
theorem cl_WVx {ws wc w1 wn : va_W} {lp : List Nat} {ci q0 : Nat} {q : vw_C} {fs : List Value} (S : CallFix p m c cc nL s args Ts own) (hM : Met l y ws' rm (pWx K D cI cZ cB wc H.size (.ref b :: As)) (qW D v w1 (va_A wc H.size)) mc ms (va_A wc H.size)) (cw : CallW R s args own C index y bytes maxL ret ws' rm mc ms n)
    (hX : GX K A0 s s.heap) (hK : va_K D vwCl (tyA cI cZ cB) s) (hP : va_P D vwCl ws H) (hD : va_D A0 ws) (hS : va_S A0 s.heap H locs) (hA : ∀ q, s.heap.size ≤ q → A0 q) (hlp : lp.map (fun i => ws[i]?) = wc.map some) (hnd : va_nd lp = true) (hl1 : lp.length = w1.length) (hwn : wn = rep ws lp w1) (hwa : wn.map Prod.fst = ws.map Prod.fst)
    (hc : vwCl[ci]? = some q) (he : wc[q0]? = some (b, .inr (ci, fs))) (hq : q.1 = C) (hn : As.length = n) (hsize : ls.size = nL) (hstack : st0 = As.reverse ++ .ref b :: rest) (hW : (rest.map fun v => v.category).sum ≤ 8) (hdg : decode cc pc = .ok (.invokevirtual index, 3)) (hf : cells + mc ≤ R.cells ∧ slots + ms ≤ R.slots)
    (kk : ∀ (H1 : Heap) (locs1 : List Loc), va_P D vwCl wn H1 → va_D A0 wn → va_S A0 s.heap H1 locs1 → W p l e R s m args below meth c H1 locs1 (cells + mc) (slots + ms) Q (F0 m (pc + 3) ls (v.toList ++ rest))) : W p l e R s m args below meth c H locs cells slots Q (F0 m pc ls st0) := by
  subst hq
  have hPc : va_P D vwCl wc H := fun k q hk => by
    have h1 : (lp.map (fun i => ws[i]?))[k]? = some (some q) := by rw [hlp, List.getElem?_map, hk]; rfl
    rw [List.getElem?_map] at h1
    cases hi : lp[k]? with
    | none => rw [hi] at h1; cases h1
    | some i => rw [hi] at h1; exact hP i q (Option.some.inj h1)
  have hDc : va_D A0 wc := hD.sub lp hnd hlp
  have hFc := va_free hD hS hA lp hlp
  exact cr_W (W.runV S hM cw ⟨pWx_fb, va_recv hK hPc hc he, fun U hU hW => ⟨rfl, GX.at hX hS hFc U hU hW, by rw [hU], by rw [hU]; exact hPc, va_K.moved hW.alike hK, hDc.weaken (fun _ _ _ _ => trivial)⟩⟩ rfl hn hsize hstack (lv_room hW) hdg hf) hS (fun q _ h => hFc q h) hFc
    (fun H1 locs1 hP1 hk hS1 => kk H1 locs1 (rep_P hP hD hlp hk hP1 hl1 hwn) (D_of hwa hD) hS1)
/-- a writing method, static -/
theorem cl_WSx {ws wc w1 wn : va_W} {lp : List Nat} (S : CallFix p m c cc nL s args Ts own) (hM : Met l y ws' rm (pWx K D cI cZ cB wc H.size As) (qW D v w1 (va_A wc H.size)) mc ms (va_A wc H.size)) (cw : CallB R s args own index y bytes maxL ret ws' rm mc ms n ∧ (Cond.static y).before args s = true)
    (hX : GX K A0 s s.heap) (hK : va_K D vwCl (tyA cI cZ cB) s) (hP : va_P D vwCl ws H) (hD : va_D A0 ws) (hS : va_S A0 s.heap H locs) (hA : ∀ q, s.heap.size ≤ q → A0 q) (hlp : lp.map (fun i => ws[i]?) = wc.map some) (hnd : va_nd lp = true) (hl1 : lp.length = w1.length) (hwn : wn = rep ws lp w1) (hwa : wn.map Prod.fst = ws.map Prod.fst)
    (hn : As.length = n) (hsize : ls.size = nL) (hstack : st0 = As.reverse ++ rest) (hW : (rest.map fun v => v.category).sum ≤ 8) (hdg : decode cc pc = .ok (.invokestatic index, 3)) (hf : cells + mc ≤ R.cells ∧ slots + ms ≤ R.slots)
    (kk : ∀ (H1 : Heap) (locs1 : List Loc), va_P D vwCl wn H1 → va_D A0 wn → va_S A0 s.heap H1 locs1 → W p l e R s m args below meth c H1 locs1 (cells + mc) (slots + ms) Q (F0 m (pc + 3) ls (v.toList ++ rest))) : W p l e R s m args below meth c H locs cells slots Q (F0 m pc ls st0) := by
  have hPc : va_P D vwCl wc H := fun k q hk => by
    have h1 : (lp.map (fun i => ws[i]?))[k]? = some (some q) := by rw [hlp, List.getElem?_map, hk]; rfl
    rw [List.getElem?_map] at h1
    cases hi : lp[k]? with
    | none => rw [hi] at h1; cases h1
    | some i => rw [hi] at h1; exact hP i q (Option.some.inj h1)
  have hDc : va_D A0 wc := hD.sub lp hnd hlp
  have hFc := va_free hD hS hA lp hlp
  exact cr_W (W.runS S hM cw ⟨pWx_fb, fun U hU hW => ⟨rfl, GX.at hX hS hFc U hU hW, by rw [hU], by rw [hU]; exact hPc, va_K.moved hW.alike hK, hDc.weaken (fun _ _ _ _ => trivial)⟩⟩ rfl hn hsize hstack (lv_room hW) hdg hf) hS (fun q _ h => hFc q h) hFc
    (fun H1 locs1 hP1 hk hS1 => kk H1 locs1 (rep_P hP hD hlp hk hP1 hl1 hwn) (D_of hwa hD) hS1)
/-- a writing method that has the whole world, called on an object -/
theorem cl_WVsx {ws w1 wn : va_W} {ci q0 : Nat} {q : vw_C} {fs : List Value} (S : CallFix p m c cc nL s args Ts own) (hM : Met l y ws' rm (pWx K D cI cZ cB ws H.size (.ref b :: As)) (qW D v w1 (va_A ws H.size)) mc ms (va_A ws H.size)) (cw : CallW R s args own C index y bytes maxL ret ws' rm mc ms n)
    (hX : GX K A0 s s.heap) (hK : va_K D vwCl (tyA cI cZ cB) s) (hP : va_P D vwCl ws H) (hD : va_D A0 ws) (hS : va_S A0 s.heap H locs) (hA : ∀ q, s.heap.size ≤ q → A0 q) (hwn : wn = w1) (hwa : wn.map Prod.fst = ws.map Prod.fst)
    (hc : vwCl[ci]? = some q) (he : ws[q0]? = some (b, .inr (ci, fs))) (hq : q.1 = C) (hn : As.length = n) (hsize : ls.size = nL) (hstack : st0 = As.reverse ++ .ref b :: rest) (hW : (rest.map fun v => v.category).sum ≤ 8) (hdg : decode cc pc = .ok (.invokevirtual index, 3)) (hf : cells + mc ≤ R.cells ∧ slots + ms ≤ R.slots)
    (kk : ∀ (H1 : Heap) (locs1 : List Loc), va_P D vwCl wn H1 → va_D A0 wn → va_S A0 s.heap H1 locs1 → W p l e R s m args below meth c H1 locs1 (cells + mc) (slots + ms) Q (F0 m (pc + 3) ls (v.toList ++ rest))) : W p l e R s m args below meth c H locs cells slots Q (F0 m pc ls st0) := by
  subst hq; subst hwn
  have hFc : ∀ q, va_A ws H.size q → A0 q := fun q h => by
    rcases h with ⟨k, e, h⟩ | h
    · exact hD.2 k (q, e) h
    · exact hA q (Nat.le_trans hS.1 h)
  exact cr_W (W.runV S hM cw ⟨pWx_fb, va_recv hK hP hc he, fun U hU hW => ⟨rfl, GX.at hX hS hFc U hU hW, by rw [hU], by rw [hU]; exact hP, va_K.moved hW.alike hK, hD.weaken (fun _ _ _ _ => trivial)⟩⟩ rfl hn hsize hstack (lv_room hW) hdg hf) hS (fun q _ h => hFc q h) hFc
    (fun H1 locs1 hP1 _ hS1 => kk H1 locs1 hP1 (D_of hwa hD) hS1)
/-- a writing method that has the whole world, static -/
theorem cl_WSsx {ws w1 wn : va_W} (S : CallFix p m c cc nL s args Ts own) (hM : Met l y ws' rm (pWx K D cI cZ cB ws H.size As) (qW D v w1 (va_A ws H.size)) mc ms (va_A ws H.size)) (cw : CallB R s args own index y bytes maxL ret ws' rm mc ms n ∧ (Cond.static y).before args s = true)
    (hX : GX K A0 s s.heap) (hK : va_K D vwCl (tyA cI cZ cB) s) (hP : va_P D vwCl ws H) (hD : va_D A0 ws) (hS : va_S A0 s.heap H locs) (hA : ∀ q, s.heap.size ≤ q → A0 q) (hwn : wn = w1) (hwa : wn.map Prod.fst = ws.map Prod.fst)
    (hn : As.length = n) (hsize : ls.size = nL) (hstack : st0 = As.reverse ++ rest) (hW : (rest.map fun v => v.category).sum ≤ 8) (hdg : decode cc pc = .ok (.invokestatic index, 3)) (hf : cells + mc ≤ R.cells ∧ slots + ms ≤ R.slots)
    (kk : ∀ (H1 : Heap) (locs1 : List Loc), va_P D vwCl wn H1 → va_D A0 wn → va_S A0 s.heap H1 locs1 → W p l e R s m args below meth c H1 locs1 (cells + mc) (slots + ms) Q (F0 m (pc + 3) ls (v.toList ++ rest))) : W p l e R s m args below meth c H locs cells slots Q (F0 m pc ls st0) := by
  subst hwn
  have hFc : ∀ q, va_A ws H.size q → A0 q := fun q h => by
    rcases h with ⟨k, e, h⟩ | h
    · exact hD.2 k (q, e) h
    · exact hA q (Nat.le_trans hS.1 h)
  exact cr_W (W.runS S hM cw ⟨pWx_fb, fun U hU hW => ⟨rfl, GX.at hX hS hFc U hU hW, by rw [hU], by rw [hU]; exact hP, va_K.moved hW.alike hK, hD.weaken (fun _ _ _ _ => trivial)⟩⟩ rfl hn hsize hstack (lv_room hW) hdg hf) hS (fun q _ h => hFc q h) hFc
    (fun H1 locs1 hP1 _ hS1 => kk H1 locs1 hP1 (D_of hwa hD) hS1)
/-- a reading method, called on an object that lies outside the world -/
theorem cl_RVk {wc : va_W} (S : CallFix p m c cc nL s args Ts own) (hM : Met l y ws' rm (pRx K D cI cZ cB wc (.ref b :: As)) (qR v) 0 0 (fun _ => False)) (cw : CallW R s args own C index y bytes maxL ret ws' rm 0 0 n)
    (hX : GX K A0 s s.heap) (hS : va_S A0 s.heap H locs) (hK : va_K D vwCl (tyA cI cZ cB) s) (hP : va_P D vwCl wc H) (hrecv : ∃ cell : Cell, H[b]? = some cell ∧ cell.vm.isStatics = false ∧ s.vm.findClass C = some cell.cls) (hn : As.length = n) (hsize : ls.size = nL) (hstack : st0 = As.reverse ++ .ref b :: rest) (hW : (rest.map fun v => v.category).sum ≤ 8) (hdg : decode cc pc = .ok (.invokevirtual index, 3)) (hf : cells ≤ R.cells ∧ slots ≤ R.slots)
    (kk : W p l e R s m args below meth c H locs cells slots Q (F0 m (pc + 3) ls (v.toList ++ rest))) : W p l e R s m args below meth c H locs cells slots Q (F0 m pc ls st0) :=
  cr_R (W.runV S hM cw ⟨pRx_fb, hrecv, fun U hU hW => ⟨rfl, GX.at hX hS (fun _ h => h.elim) U hU hW, by rw [hU]; exact hP, va_K.moved hW.alike hK⟩⟩ rfl hn hsize hstack (lv_room hW) hdg hf) kk
end CRX
/-- a method's body that reads alone -/
def BRx (K : Nat → Nat) (l : Launch) (y : MethodName) (ws : List Cond) (rm : Room) (cc : ByteArray) (maxL : Nat) (ret : Option FieldType) (D : va_G) (cI cZ cB : ClassId) (w : va_W) (av : List Value) (v : Option Value) : Prop :=
  ∀ (p : Program) (e : Env) (s : State) (m : MethodId) (args : Array Value) (below : List Frame) (meth : Method) (c : Code) (ls : Array Slot) (Q : State → Prop), p.tables.exec = Jvm.exec → c.code = cc → c.maxLocals = maxL → (∀ w ∈ ws, w.before args s = true) → s.vm.findClass y.cls = some m.cls →
    GX K (fun _ => False) s s.heap → va_K D vwCl (tyA cI cZ cB) s → va_P D vwCl w s.heap → lv_has ls maxL (lv_args 0 av) →
    (∀ (v' : Option Value) (pc : Nat) (ls : Array Slot), v' = v → nar ret v' → decode cc pc = .ok (if ret = none then .return_ else .ireturn, 1) → W p l e rm s m args below meth c s.heap [] 0 0 Q (F0 m pc ls v'.toList)) →
    W p l e rm s m args below meth c s.heap [] 0 0 Q (F0 m 0 ls [])
theorem BRx.met {K : Nat → Nat} {l : Launch} {y : MethodName} {ws ws' : List Cond} {rm : Room} {cc : ByteArray} {maxL : Nat} {ty : FieldType} {D : va_G} {cI cZ cB : ClassId} {w : va_W} {av : List Value} {r : Int32} (hy : plainName y.cls = true) (hw : ws = Cond.code y cc maxL (some ty) :: ws') (hlen : (lg_sl av).length ≤ maxL)
    (h : BRx K l y ws rm cc maxL (some ty) D cI cZ cB w av (some (.int r))) : Met l y ws rm (pRx K D cI cZ cB w av) (qR (some (.int r))) 0 0 (fun _ => False) := by
  refine Met.ofW (cc := cc) (maxL := maxL) (ret := some ty) hy hw ?_
  intro p e s m args below meth c s₁ B hml hv
  obtain ⟨rfl, hX, hP, hK⟩ := hv
  have hl := lv_entry av hlen
  rw [lg_entry_eq]
  have hlocks := B.notSynchronized
  refine h p e s m _ below meth c _ _ B.exec B.bytes hml (atoms_spec (ws := ws) B.pre) (findClass_of_methodNamed B.named) hX hK hP hl (fun v' pc ls hv hn hdg => ?_)
  subst hv
  rw [if_neg (by intro z; cases z)] at hdg
  exact W.zret B.exec B.bytes B.returns hn (fun t ht _ => ⟨rfl, ht⟩) (fun q h => by cases h) hdg
theorem BRx.metv {K : Nat → Nat} {l : Launch} {y : MethodName} {ws ws' : List Cond} {rm : Room} {cc : ByteArray} {maxL : Nat} {D : va_G} {cI cZ cB : ClassId} {w : va_W} {av : List Value} (hy : plainName y.cls = true) (hw : ws = Cond.code y cc maxL none :: ws') (hlen : (lg_sl av).length ≤ maxL)
    (h : BRx K l y ws rm cc maxL none D cI cZ cB w av none) : Met l y ws rm (pRx K D cI cZ cB w av) (qR none) 0 0 (fun _ => False) := by
  refine Met.ofW (cc := cc) (maxL := maxL) (ret := none) hy hw ?_
  intro p e s m args below meth c s₁ B hml hv
  obtain ⟨rfl, hX, hP, hK⟩ := hv
  have hl := lv_entry av hlen
  rw [lg_entry_eq]
  have hlocks := B.notSynchronized
  refine h p e s m _ below meth c _ _ B.exec B.bytes hml (atoms_spec (ws := ws) B.pre) (findClass_of_methodNamed B.named) hX hK hP hl (fun v' pc ls hv hn hdg => ?_)
  subst hv
  rw [if_pos rfl] at hdg
  exact W.vret B.exec B.bytes B.returns (fun t ht _ => ⟨rfl, ht⟩) (fun q h => by cases h) hdg
/-- a method's body that writes in its world, and makes no cell -/
def BWx (K : Nat → Nat) (l : Launch) (y : MethodName) (ws : List Cond) (rm : Room) (cc : ByteArray) (maxL : Nat) (ret : Option FieldType) (D : va_G) (cI cZ cB : ClassId) (w : va_W) (av : List Value) (v : Option Value) (w1 : va_W) : Prop :=
  ∀ (p : Program) (e : Env) (s : State) (m : MethodId) (args : Array Value) (below : List Frame) (meth : Method) (c : Code) (ls : Array Slot) (Q : State → Prop) (A : Nat → Prop), p.tables.exec = Jvm.exec → c.code = cc → c.maxLocals = maxL → (∀ w ∈ ws, w.before args s = true) → s.vm.findClass y.cls = some m.cls →
    GX K A s s.heap → va_K D vwCl (tyA cI cZ cB) s → (∀ q, s.heap.size ≤ q → A q) → va_P D vwCl w s.heap → va_D A w → va_S A s.heap s.heap [] → lv_has ls maxL (lv_args 0 av) →
    (∀ (v' : Option Value) (w' : va_W) (pc : Nat) (ls : Array Slot) (H : Heap) (locs : List Loc), v' = v → w' = w1 → nar ret v' → decode cc pc = .ok (if ret = none then .return_ else .ireturn, 1) → va_P D vwCl w' H → va_S A s.heap H locs → W p l e rm s m args below meth c H locs 0 0 Q (F0 m pc ls v'.toList)) →
    W p l e rm s m args below meth c s.heap [] 0 0 Q (F0 m 0 ls [])
theorem BWx.met {K : Nat → Nat} {l : Launch} {y : MethodName} {ws ws' : List Cond} {rm : Room} {cc : ByteArray} {maxL : Nat} {ty : FieldType} {D : va_G} {cI cZ cB : ClassId} {w w1 : va_W} {av : List Value} {r : Int32} {sz : Nat} (hy : plainName y.cls = true) (hw : ws = Cond.code y cc maxL (some ty) :: ws') (hlen : (lg_sl av).length ≤ maxL)
    (h : BWx K l y ws rm cc maxL (some ty) D cI cZ cB w av (some (.int r)) w1) : Met l y ws rm (pWx K D cI cZ cB w sz av) (qW D (some (.int r)) w1 (va_A w sz)) 0 0 (va_A w sz) := by
  refine Met.ofW (cc := cc) (maxL := maxL) (ret := some ty) hy hw ?_
  intro p e s m args below meth c s₁ B hml hv
  obtain ⟨rfl, hX, rfl, hP, hK, hD0⟩ := hv
  have hl := lv_entry av hlen
  rw [lg_entry_eq]
  have hlocks := B.notSynchronized
  refine h p e s m _ below meth c _ _ _ B.exec B.bytes hml (atoms_spec (ws := ws) B.pre) (findClass_of_methodNamed B.named) hX hK (fun q h => Or.inr h) hP hD0.self va_S.rf hl (fun v' w' pc ls H locs hv hw' hn hdg hP1 hS => ?_)
  subst hv; subst hw'
  rw [if_neg (by intro z; cases z)] at hdg
  exact W.zret B.exec B.bytes B.returns hn (fun t ht _ => ⟨rfl, by rw [ht]; exact hP1, hS.F ht⟩) hS.2.2 hdg
theorem BWx.metv {K : Nat → Nat} {l : Launch} {y : MethodName} {ws ws' : List Cond} {rm : Room} {cc : ByteArray} {maxL : Nat} {D : va_G} {cI cZ cB : ClassId} {w w1 : va_W} {av : List Value} {sz : Nat} (hy : plainName y.cls = true) (hw : ws = Cond.code y cc maxL none :: ws') (hlen : (lg_sl av).length ≤ maxL)
    (h : BWx K l y ws rm cc maxL none D cI cZ cB w av none w1) : Met l y ws rm (pWx K D cI cZ cB w sz av) (qW D none w1 (va_A w sz)) 0 0 (va_A w sz) := by
  refine Met.ofW (cc := cc) (maxL := maxL) (ret := none) hy hw ?_
  intro p e s m args below meth c s₁ B hml hv
  obtain ⟨rfl, hX, rfl, hP, hK, hD0⟩ := hv
  have hl := lv_entry av hlen
  rw [lg_entry_eq]
  have hlocks := B.notSynchronized
  refine h p e s m _ below meth c _ _ _ B.exec B.bytes hml (atoms_spec (ws := ws) B.pre) (findClass_of_methodNamed B.named) hX hK (fun q h => Or.inr h) hP hD0.self va_S.rf hl (fun v' w' pc ls H locs hv hw' hn hdg hP1 hS => ?_)
  subst hv; subst hw'
  rw [if_pos rfl] at hdg
  exact W.vret B.exec B.bytes B.returns (fun t ht _ => ⟨rfl, by rw [ht]; exact hP1, hS.F ht⟩) hS.2.2 hdg
