/-! own words: three blocks of one world; what the law asks of class and reference -/
def apt (w1 w2 : va_W) : Prop := ∀ (i j : Nat) (p q : Nat × va_E), w1[i]? = some p → w2[j]? = some q → p.1 ≠ q.1
theorem apt.symm {w1 w2 : va_W} (h : apt w1 w2) : apt w2 w1 := fun i j p q hp hq e => h j i q p hq hp e.symm
theorem fst_at {ws ws' : va_W} (h : ws'.map Prod.fst = ws.map Prod.fst) (i : Nat) (p : Nat × va_E) (hp : ws'[i]? = some p) : ∃ p', ws[i]? = some p' ∧ p'.1 = p.1 := by
  have h1 : (ws'.map Prod.fst)[i]? = some p.1 := by rw [List.getElem?_map, hp]; rfl
  rw [h, List.getElem?_map] at h1
  cases hi : ws[i]? with
  | none => rw [hi] at h1; cases h1
  | some p' => rw [hi] at h1; exact ⟨p', rfl, Option.some.inj h1⟩
theorem apt.of {w1 w1' w2 : va_W} (h : apt w1 w2) (e : w1'.map Prod.fst = w1.map Prod.fst) : apt w1' w2 := fun i j p q hp hq => by
  obtain ⟨p', h1, h2⟩ := fst_at e i p hp
  rw [← h2]
  exact h i j p' q h1 hq
def LI (D : va_G) (A : Nat → Prop) (wa wb wc : va_W) (H : Heap) : Prop := (va_P D vwCl wa H ∧ va_P D vwCl wb H ∧ va_P D vwCl wc H) ∧ (va_D A wa ∧ va_D A wb ∧ va_D A wc) ∧ apt wa wb ∧ apt wa wc ∧ apt wb wc
theorem LI.swap {D : va_G} {A : Nat → Prop} {wa wb wc : va_W} {H : Heap} (h : LI D A wa wb wc H) : LI D A wb wa wc H := by
  obtain ⟨⟨p1, p2, p3⟩, ⟨d1, d2, d3⟩, a, b, c⟩ := h
  exact ⟨⟨p2, p1, p3⟩, ⟨d2, d1, d3⟩, a.symm, c, b⟩
theorem blk_kept {D : va_G} {cl : List vw_C} {wa wr : va_W} {H H1 : Heap} (hk : ∀ q : Nat, q < H.size → ¬ va_A wa H.size q → H1[q]? = H[q]?) (hr : va_P D cl wr H) (ha : apt wa wr) : va_P D cl wr H1 := fun k q hq => by
  have hlt := (hr k q hq).lt
  refine (hr k q hq).kept (hk q.1 hlt fun hA => ?_)
  rcases hA with ⟨k2, e, h2⟩ | h
  · exact ha k2 k (q.1, e) q h2 hq rfl
  · omega
theorem A_of {A0 : Nat → Prop} {wa : va_W} {H0 H : Heap} {locs : List Loc} (hD : va_D A0 wa) (hS : va_S A0 H0 H locs) (hA : ∀ q, H0.size ≤ q → A0 q) : ∀ q, va_A wa H.size q → A0 q := fun q h => by
  rcases h with ⟨k, e, h⟩ | h
  · exact hD.2 k (q, e) h
  · exact hA q (Nat.le_trans hS.1 h)
theorem LI.wr {D : va_G} {A : Nat → Prop} {wa wb wc w1 : va_W} {H H1 : Heap} (hI : LI D A wa wb wc H) (hk : ∀ q : Nat, q < H.size → ¬ va_A wa H.size q → H1[q]? = H[q]?) (hP : va_P D vwCl w1 H1) (e : w1.map Prod.fst = wa.map Prod.fst) : LI D A w1 wb wc H1 := by
  obtain ⟨⟨p1, p2, p3⟩, ⟨d1, d2, d3⟩, a, b, c⟩ := hI
  exact ⟨⟨hP, blk_kept hk p2 a, blk_kept hk p3 b⟩, ⟨D_of e d1, d2, d3⟩, a.of e, b.of e, c⟩
theorem apt.new {D : va_G} {cl : List vw_C} {wa wr w1 : va_W} {H : Heap} (ha : apt wa wr) (hr : va_P D cl wr H) (h1 : va_D (va_A wa H.size) w1) : apt w1 wr := fun i j p q hp hq e => by
  rcases h1.2 i p hp with ⟨k, e2, h⟩ | h
  · exact ha k j (p.1, e2) q h hq e
  · have := (hr j q hq).lt
    rw [e] at h
    omega
theorem LI.nw {D : va_G} {A : Nat → Prop} {wa wb wc w1 : va_W} {H H1 : Heap} (hI : LI D A wa wb wc H) (hk : ∀ q : Nat, q < H.size → ¬ va_A wa H.size q → H1[q]? = H[q]?) (hP : va_P D vwCl w1 H1) (hD : va_D (va_A wa H.size) w1) (hA : ∀ q, va_A wa H.size q → A q) : LI D A w1 wb wc H1 := by
  obtain ⟨⟨p1, p2, p3⟩, ⟨d1, d2, d3⟩, a, b, c⟩ := hI
  exact ⟨⟨hP, blk_kept hk p2 a, blk_kept hk p3 b⟩, ⟨hD.weaken (fun k q _ h => hA q.1 h), d2, d3⟩, a.new p2 hD, b.new p3 hD, c⟩
section CLW
variable {p : Program} {l : Launch} {e : Env} {R : Room} {s : State} {m : MethodId} {args : Array Value} {below : List Frame} {meth : Method} {c : Code} {H : Heap} {locs : List Loc} {cells slots : Nat} {Q : State → Prop}
variable {pc : Nat} {ls : Array Slot} {rest st0 : List Value} {a : Array Value} {A0 A1 : Nat → Prop} {mc ms : Nat} {free : Addr → Prop}
variable {D : va_G} {cI cZ cB : ClassId} {v : Option Value}
variable {Ts ws' ws'' : List Cond} {cc bytes : ByteArray} {nL maxL index n : Nat} {own C : String} {y : MethodName} {ret : Option FieldType} {rm : Room} {b : Addr} {As : List Value}
variable {K : Nat → Nat} {wa wb wc w1 : va_W} {wf : (Nat → Nat) → va_W}
theorem la_V {ci q0 : Nat} {q : vw_C} {fs : List Value} (S : CallFix p m c cc nL s args Ts own) (hM : Met l y ws' rm (pW D cI cZ cB wa H.size (.ref b :: As)) (qW D v w1 (va_A wa H.size)) mc ms (va_A wa H.size)) (cw : CallW R s args own C index y bytes maxL ret ws' rm mc ms n)
    (hK : va_K D vwCl (tyA cI cZ cB) s) (hI : LI D A0 wa wb wc H) (hS : va_S A0 s.heap H locs) (hA : ∀ q, s.heap.size ≤ q → A0 q) (hw1 : w1.map Prod.fst = wa.map Prod.fst)
    (hc : vwCl[ci]? = some q) (he : wa[q0]? = some (b, .inr (ci, fs))) (hq : q.1 = C) (hn : As.length = n) (hsize : ls.size = nL) (hstack : st0 = As.reverse ++ .ref b :: rest) (hW : (rest.map fun v => v.category).sum ≤ 8) (hdg : decode cc pc = .ok (.invokevirtual index, 3)) (hf : cells + mc ≤ R.cells ∧ slots + ms ≤ R.slots)
    (kk : ∀ (H1 : Heap) (locs1 : List Loc), LI D A0 w1 wb wc H1 → va_S A0 s.heap H1 locs1 → W p l e R s m args below meth c H1 locs1 (cells + mc) (slots + ms) Q (F0 m (pc + 3) ls (v.toList ++ rest))) : W p l e R s m args below meth c H locs cells slots Q (F0 m pc ls st0) := by
  subst hq
  have hFc := A_of hI.2.1.1 hS hA
  exact cr_W (W.runV S hM cw ⟨pW_fb, va_recv hK hI.1.1 hc he, fun U hU hW => ⟨rfl, by rw [hU], by rw [hU]; exact hI.1.1, va_K.moved hW.alike hK, hI.2.1.1.weaken (fun _ _ _ _ => trivial)⟩⟩ rfl hn hsize hstack (lv_room hW) hdg hf) hS (fun q _ h => hFc q h) hFc
    (fun H1 locs1 hP1 hk hS1 => kk H1 locs1 (hI.wr hk hP1 hw1) hS1)
theorem la_Vx {ci q0 : Nat} {q : vw_C} {fs : List Value} (S : CallFix p m c cc nL s args Ts own) (hM : Met l y ws' rm (pWx K D cI cZ cB wa H.size (.ref b :: As)) (qW D v w1 (va_A wa H.size)) mc ms (va_A wa H.size)) (cw : CallW R s args own C index y bytes maxL ret ws' rm mc ms n)
    (hX : GX K A0 s s.heap) (hK : va_K D vwCl (tyA cI cZ cB) s) (hI : LI D A0 wa wb wc H) (hS : va_S A0 s.heap H locs) (hA : ∀ q, s.heap.size ≤ q → A0 q) (hw1 : w1.map Prod.fst = wa.map Prod.fst)
    (hc : vwCl[ci]? = some q) (he : wa[q0]? = some (b, .inr (ci, fs))) (hq : q.1 = C) (hn : As.length = n) (hsize : ls.size = nL) (hstack : st0 = As.reverse ++ .ref b :: rest) (hW : (rest.map fun v => v.category).sum ≤ 8) (hdg : decode cc pc = .ok (.invokevirtual index, 3)) (hf : cells + mc ≤ R.cells ∧ slots + ms ≤ R.slots)
    (kk : ∀ (H1 : Heap) (locs1 : List Loc), LI D A0 w1 wb wc H1 → va_S A0 s.heap H1 locs1 → W p l e R s m args below meth c H1 locs1 (cells + mc) (slots + ms) Q (F0 m (pc + 3) ls (v.toList ++ rest))) : W p l e R s m args below meth c H locs cells slots Q (F0 m pc ls st0) := by
  subst hq
  have hFc := A_of hI.2.1.1 hS hA
  exact cr_W (W.runV S hM cw ⟨pWx_fb, va_recv hK hI.1.1 hc he, fun U hU hW => ⟨rfl, GX.at hX hS hFc U hU hW, by rw [hU], by rw [hU]; exact hI.1.1, va_K.moved hW.alike hK, hI.2.1.1.weaken (fun _ _ _ _ => trivial)⟩⟩ rfl hn hsize hstack (lv_room hW) hdg hf) hS (fun q _ h => hFc q h) hFc
    (fun H1 locs1 hP1 hk hS1 => kk H1 locs1 (hI.wr hk hP1 hw1) hS1)
theorem la_VG {ci q0 : Nat} {q : vw_C} {fs : List Value} (S : CallFix p m c cc nL s args Ts own) (hM : Met l y ws' rm (pW D cI cZ cB wa H.size (.ref b :: As)) (qG D v wf (va_A wa H.size)) mc ms (va_A wa H.size)) (cw : CallW R s args own C index y bytes maxL ret ws' rm mc ms n)
    (hK : va_K D vwCl (tyA cI cZ cB) s) (hI : LI D A0 wa wb wc H) (hS : va_S A0 s.heap H locs) (hA : ∀ q, s.heap.size ≤ q → A0 q)
    (hc : vwCl[ci]? = some q) (he : wa[q0]? = some (b, .inr (ci, fs))) (hq : q.1 = C) (hn : As.length = n) (hsize : ls.size = nL) (hstack : st0 = As.reverse ++ .ref b :: rest) (hW : (rest.map fun v => v.category).sum ≤ 8) (hdg : decode cc pc = .ok (.invokevirtual index, 3)) (hf : cells + mc ≤ R.cells ∧ slots + ms ≤ R.slots)
    (kk : ∀ (adv : Nat → Nat) (H1 : Heap) (locs1 : List Loc), LI D A0 (wf adv) wb wc H1 → va_S A0 s.heap H1 locs1 → W p l e R s m args below meth c H1 locs1 (cells + mc) (slots + ms) Q (F0 m (pc + 3) ls (v.toList ++ rest))) : W p l e R s m args below meth c H locs cells slots Q (F0 m pc ls st0) := by
  subst hq
  have hFc := A_of hI.2.1.1 hS hA
  exact cr_G (W.runV S hM cw ⟨pW_fb, va_recv hK hI.1.1 hc he, fun U hU hW => ⟨rfl, by rw [hU], by rw [hU]; exact hI.1.1, va_K.moved hW.alike hK, hI.2.1.1.weaken (fun _ _ _ _ => trivial)⟩⟩ rfl hn hsize hstack (lv_room hW) hdg hf) hS (fun q _ h => hFc q h) hFc
    (fun adv H1 locs1 hP1 hD1 hk hS1 => kk adv H1 locs1 (hI.nw hk hP1 hD1 hFc) hS1)
/-- the two helpers: their world is the table's cell and the class's block -/
theorem la_Z {cL : ClassId} {x x1 : Nat × va_E} {wa1 : va_W} {hh : List (Nat × Nat × Nat × Nat)} (S : CallFix p m c cc nL s args Ts own) (hM : vx_Met l y ws' rm (pL K D cI cZ cB cL (x :: wa) H.size As) (qW D v (x1 :: wa1) (va_A (x :: wa) H.size)) (fun _ _ _ => False) mc ms (va_A (x :: wa) H.size)) (cw : vx_CSW R s args own index y bytes maxL ret hh ws' rm mc ms n)
    (hZ : GZ K A0 s s.heap) (hK : va_K D vwCl (tyL cI cZ cB cL) s) (hI : LI D A0 wa wb [x] H) (hS : va_S A0 s.heap H locs) (hA : ∀ q, s.heap.size ≤ q → A0 q) (hx1 : x1.1 = x.1) (hw1 : wa1.map Prod.fst = wa.map Prod.fst)
    (hn : As.length = n) (hsize : ls.size = nL) (hstack : st0 = As.reverse ++ rest) (hW : (rest.map fun v => v.category).sum ≤ 8) (hdg : decode cc pc = .ok (.invokestatic index, 3)) (hf : cells + mc ≤ R.cells ∧ slots + ms ≤ R.slots)
    (kk : ∀ (H1 : Heap) (locs1 : List Loc), LI D A0 wa1 wb [x1] H1 → va_S A0 s.heap H1 locs1 → W p l e R s m args below meth c H1 locs1 (cells + mc) (slots + ms) Q (F0 m (pc + 3) ls (v.toList ++ rest))) : W p l e R s m args below meth c H locs cells slots Q (F0 m pc ls st0) := by
  obtain ⟨⟨p1, p2, p3⟩, ⟨d1, d2, d3⟩, i1, i2, i3⟩ := hI
  have hP : va_P D vwCl (x :: wa) H := va_P.app p3 p1
  have hD : va_D A0 (x :: wa) := va_D.app d3 d1 i2.symm
  have hFc := A_of hD hS hA
  have hap : apt (x :: wa) wb := fun i j p q hp hq => by
    cases i with
    | zero => exact i3.symm 0 j p q (by simpa using hp) hq
    | succ i => exact i1 i j p q (by simpa using hp) hq
  refine cr_W (cr_ofX (vx_runSX S hM cw ⟨pL_fb, fun U hU hW => ⟨rfl, GZ.at hZ hS hFc U hU hW, by rw [hU], by rw [hU]; exact hP, va_K.moved hW.alike hK, hD.weaken (fun _ _ _ _ => trivial)⟩⟩ rfl hn hsize hstack (lv_room hW) hdg hf)) hS (fun q _ h => hFc q h) hFc
    (fun H1 locs1 hP1 hk hS1 => kk H1 locs1 ⟨⟨?_, blk_kept hk p2 hap, ?_⟩, ⟨D_of hw1 d1, d2, ?_⟩, i1.of hw1, ?_, ?_⟩ hS1)
  · exact fun k q hq => hP1 (k + 1) q (by simpa using hq)
  · exact fun k q hq => hP1 k q (by cases k with | zero => simpa using hq | succ k => simp at hq)
  · exact D_of (by simp [hx1]) d3
  · exact ((i2.of hw1).symm.of (by simp [hx1])).symm
  · exact (i3.symm.of (by simp [hx1])).symm
theorem la_arg {xs : Nat → Int32} {bb L i j0 j4 : Nat} {lv : List (Nat × Value)} {k : Int} (kn : Nat) (hx : p.tables.exec = Jvm.exec) (hb : c.code = cc) (hX : va_X bb L xs s s.heap) (hbl : bb < s.heap.size) (hbA : ¬ A0 bb) (hS : va_S A0 s.heap H locs) (hl : lv_has ls nL lv) (h0 : lv[j0]? = some (0, .ref bb)) (h4 : lv[j4]? = some (4, .int (nI i)))
    (hk : Int32.ofInt k = nI kn) (hi : i + kn < L) (hL : L ≤ 3072) (d0 : decode cc pc = .ok (.aload_n 0, 1)) (d1 : decode cc (pc + 1) = .ok (.iload 4, 2)) (d3 : decode cc (pc + 3) = .ok (.iconst k, 1)) (d4 : decode cc (pc + 4) = .ok (.iadd, 1)) (d5 : decode cc (pc + 5) = .ok (.iaload, 1))
    (kk : W p l e R s m args below meth c H locs cells slots Q (F0 m (pc + 6) ls (.int (xs (i + kn)) :: rest))) : W p l e R s m args below meth c H locs cells slots Q (F0 m pc ls rest) := by
  refine lv_aload_n hx hb d0 rfl (lv_at hl j0 h0) ?_
  refine lv_iload hx hb d1 (lv_at hl j4 h4) ?_
  refine lv_iconst hx hb d3 hk ?_
  refine lv_iadd hx hb d4 ?_
  rw [nI_add]
  refine va_sld hx hb hX hbl hbA hS (vp_in_nI hi (by omega)) d5 ?_
  rw [nI_clamp (by omega)]
  exact kk
end CLW
def rLx (cL : ClassId) (o : Nat) (f : Nat → Int64) : va_W := [(o, .inl (cL, (1, .inr (.inl f))))]
/-- what holds at the law's loop -/
def LC (p : Program) (l : Launch) (s : State) (m : MethodId) (meth : Method) (c : Code) (b L : Nat) (xs : Nat → Int32) (D : va_G) (cI cZ cB cL : ClassId) (K : Nat → Nat) : Prop :=
  (p.tables.exec = Jvm.exec ∧ c.code = cL_law ∧ c.maxLocals = 7 ∧ s.vm.findClass RL = some m.cls ∧ ∀ w ∈ lw_tbl, w.before #[Value.ref b] s = true) ∧ l.stackTraces = false ∧ va_X b L xs s s.heap ∧ b < s.heap.size ∧ L ≤ 3072 ∧ va_K D vwCl (tyL cI cZ cB cL) s ∧ GX K (fun q => s.heap.size ≤ q) s s.heap ∧ GZ K (fun q => s.heap.size ≤ q) s s.heap
theorem tb22 {x : Int32} : (x.toInt < 0 ∨ 21 < x.toInt) ∨ ∃ k : Nat, k < 22 ∧ x = nI k := by
  by_cases h : x.toInt < 0 ∨ 21 < x.toInt
  · exact Or.inl h
  · refine Or.inr ⟨x.toInt.toNat, by omega, ?_⟩
    rw [← Int32.toInt_inj, nI_toInt (by omega)]
    omega
def RelT : Type := Nat → Mem → Mem → Int64 → Nat → Prop
