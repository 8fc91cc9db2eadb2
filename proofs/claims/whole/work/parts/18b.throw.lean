/-! own words: methods that throw NoSuchElementException -/
theorem nse_words : ∀ w ∈ (zAtoms.filter vx_no).filter (fun w => !goodWord w), w ∈ [Cond.castable NSE NSE, .declares (Bundle.initS "java/lang/RuntimeException"), .declares (Bundle.initS "java/lang/Exception"), .declares (Bundle.initS Bundle.tN)] := by decide +kernel
def GZ (K : Nat → Nat) (A : Nat → Prop) (U : State) (H : Heap) : Prop :=
  (va_Nw (.castable NSE NSE) U ∧ va_Nw (.declares (Bundle.initS "java/lang/RuntimeException")) U ∧ va_Nw (.declares (Bundle.initS "java/lang/Exception")) U ∧ va_Nw (.declares (Bundle.initS Bundle.tN)) U) ∧ vx_Zq Bundle.tN "UNASSIGNED_STACK" Bundle.steD A U H ∧ vx_Zq Bundle.tN "SUPPRESSED_SENTINEL" Bundle.listD A U H ∧ vk_R RX9 197 "no such item" (K 15) U ∧ vk_R RX9 212 "nothing such is told of an item" (K 16) U ∧ vk_R RX9 229 "no such byte" (K 17) U
theorem GZ.moved {K : Nat → Nat} {A : Nat → Prop} {u U : State} {H : Heap} (hW : u.WarmedH U.vm) (h : GZ K A u H) : GZ K A U H := by
  obtain ⟨⟨a, a1, a2, a3⟩, b, c, d, e, f⟩ := h
  exact ⟨⟨va_Nw.warmC hW a, va_Nw.warmD hW a1, va_Nw.warmD hW a2, va_Nw.warmD hW a3⟩, vx_Zq.moved hW.alike b, vx_Zq.moved hW.alike c, vk_R.warm hW d, vk_R.warm hW e, vk_R.warm hW f⟩
theorem GZ.kept {K : Nat → Nat} {A : Nat → Prop} {U : State} {H H1 : Heap} (h : GZ K A U H) (hq : ∀ a : Nat, a < H.size → ¬ A a → H1[a]? = H[a]?) : GZ K A U H1 := by
  obtain ⟨a, b, c, d⟩ := h
  exact ⟨a, b.kept hq, c.kept hq, d⟩
theorem GZ.narrow {K : Nat → Nat} {A B : Nat → Prop} {U : State} {H : Heap} (h : GZ K A U H) (hAB : ∀ q, B q → A q) : GZ K B U H := by
  obtain ⟨a, b, c, d⟩ := h
  exact ⟨a, b.narrow hAB, c.narrow hAB, d⟩
def pZ (K : Nat → Nat) (D : va_G) (cI cZ cB : ClassId) (ws : va_W) (av : List Value) : Array Value → State → Prop := va_Pc av (fun U => GZ K (fun _ => False) U U.heap ∧ va_P D vwCl ws U.heap ∧ va_K D vwCl (tyA cI cZ cB) U)
theorem pZ_fb {K : Nat → Nat} {D : va_G} {cI cZ cB : ClassId} {ws : va_W} {av : List Value} : FrameBlind (pZ K D cI cZ cB ws av) := by
  intro a U g mk q
  obtain ⟨q0, qX, qP, qK⟩ := q
  exact ⟨q0, GZ.moved (u := U) (U := U.calling g mk a) (State.WarmedH.refl U) qX, qP, va_K.moved (u := U) (U := U.calling g mk a) (Vm.Alike.refl U.vm) qK⟩
def qT (res : Option Int32) : Array Value → State → Outcome → State → Prop := fun _ st oc t => ∃ v, res = some v ∧ oc = .returned (some (.int v)) ∧ t.heap = st.heap
def xT (res : Option Int32) : String → State → State → Prop := fun E st t => res = none ∧ E = NSE ∧ st.heap.size ≤ t.heap.size ∧ ∀ q : Nat, q < st.heap.size → t.heap[q]? = st.heap[q]?
def BZ (K : Nat → Nat) (l : Launch) (y : MethodName) (ws : List Cond) (rm : Room) (cc : ByteArray) (maxL : Nat) (D : va_G) (cI cZ cB : ClassId) (w : va_W) (av : List Value) (res : Option Int32) : Prop :=
  ∀ (p : Program) (e : Env) (s : State) (m : MethodId) (args : Array Value) (below : List Frame) (meth : Method) (c : Code) (ls : Array Slot) (Q : State → Prop), p.tables.exec = Jvm.exec → c.code = cc → c.maxLocals = maxL → (∀ w ∈ ws, w.before args s = true) → s.vm.findClass y.cls = some m.cls →
    GZ K (fun _ => False) s s.heap → va_K D vwCl (tyA cI cZ cB) s → va_P D vwCl w s.heap → lv_has ls maxL (lv_args 0 av) →
    (∀ (v' : Int32) (pc : Nat) (ls : Array Slot), res = some v' → decode cc pc = .ok (.ireturn, 1) → W p l e rm s m args below meth c s.heap [] 0 0 Q (F0 m pc ls [.int v'])) →
    (∀ (pc is sa : Nat) (text : String) (ls : Array Slot), res = none → vk_R RX9 is text sa s → decode cc pc = .ok (.new 195, 3) → decode cc (pc + 3) = .ok (.dup, 1) → decode cc (pc + 4) = .ok (.ldc is, 2) → decode cc (pc + 6) = .ok (.invokespecial 199, 3) → decode cc (pc + 9) = .ok (.athrow, 1) → ls.size = maxL → W p l e rm s m args below meth c s.heap [] 0 0 Q (F0 m pc ls [])) →
    W p l e rm s m args below meth c s.heap [] 0 0 Q (F0 m 0 ls [])
theorem nse_good : ∀ w ∈ Cond.classLink RX9 195 NSE :: Cond.initialized NSE :: zAtoms.filter vx_no, vx_ot w = true := by decide +kernel
theorem BZ.met {K : Nat → Nat} {l : Launch} {y : MethodName} {ws ws' : List Cond} {rm : Room} {cc : ByteArray} {maxL : Nat} {D : va_G} {cI cZ cB : ClassId} {w : va_W} {av : List Value} {res : Option Int32} (hfl : l.stackTraces = false) (hy : plainName y.cls = true) (hyc : y.cls = RX9) (hw : ws = Cond.code y cc maxL (some .int) :: ws') (hlen : (lg_sl av).length ≤ maxL)
    (hcl : Cond.classLink RX9 195 NSE ∈ ws) (hini : Cond.initialized NSE ∈ ws) (hat : ∀ w ∈ (zAtoms.filter vx_no).filter goodWord, w ∈ ws) (hfr : 6 ≤ rm.frames) (hlo : 82 ≤ rm.locals) (hce : rm.cells = 1) (hsl : rm.slots = 6)
    (h : BZ K l y ws rm cc maxL D cI cZ cB w av res) : vx_Met l y ws rm (pZ K D cI cZ cB w av) (qT res) (xT res) 1 6 (fun _ => False) := by
  refine vx_ofW (cc := cc) (maxL := maxL) (ret := some .int) hy hw ?_
  intro p e s m args below meth c s₁ B hml htab hv
  obtain ⟨rfl, hZ, hP, hK⟩ := hv
  have hl := lv_entry av hlen
  rw [lg_entry_eq]
  have hlocks := B.notSynchronized
  have hts := atoms_spec (ws := ws) B.pre
  have hown := findClass_of_methodNamed B.named
  obtain ⟨⟨z1, z5, z6, z7⟩, z2, z3, z4⟩ := id hZ
  refine h p e s m _ below meth c _ _ B.exec B.bytes hml hts hown hZ hK hP hl (fun v' pc ls hres hdg => ?_) (fun pc is sa text ls hres hstr d0 d3 d4 d6 d9 hsz => ?_)
  · exact vx_ret (W.widen (k := 1) (n := 6) (Nat.le_of_ble_eq_true rfl) (Nat.le_of_ble_eq_true rfl) (W.iret B.exec B.bytes B.returns (fun t ht _ => ⟨v', hres, rfl, ht⟩) (fun q h => by cases h) hdg))
  · rw [hyc] at hown
    exact z_throw (A := fun _ => False) B.exec B.bytes hfl hown (hts _ hcl) (hts _ hini) hstr (vx_hat (fun w hw => hts w (hat w hw)) nse_words (vx_c (va_Nw.use rfl z1) (vx_c (va_Nw.use rfl z5) (vx_c (va_Nw.use rfl z6) (vx_c (va_Nw.use rfl z7) vx_n))))) nse_good z2 z3 va_S.rf (hsz.trans hml.symm) d0 d3 d4 d6 d9 (fun x hx => (htab x hx).elim)
      (by show 5 < rm.frames; omega) (by show 0 + (13 * 3 + 43) ≤ rm.locals; omega) (by show 0 + 1 ≤ rm.cells; omega) (by show 0 + 6 ≤ rm.slots; omega) hlocks (fun t _ h1 h2 => ⟨hres, rfl, h1, h2⟩) (fun z hz => by cases hz) (Nat.le_refl 1) (Nat.le_refl 6)
def wsZ_about : List Cond := .code yX9_about cX9_about 3 (some .int) :: ((wsX9_about_r1 ++ wsX9_about_r2) ++ wsX90 ++ wsX30 ++ wsX60 ++ (zAtoms.filter vx_no).filter goodWord)
set_option maxRecDepth 20000 in
theorem ggZ_about_X3_has : GoodIn wsZ_about wsX3_has := goodIn_r _ [13, 14, 54, 55, 56, 57, 58, 59, 60] (by decide +kernel) (by decide +kernel)
set_option maxRecDepth 20000 in
theorem gZ_about_X3_has : GoodIn wsZ_about (wsV RX9 148 RX3 yX3_has wsX3_has) := goodIn_app (goodIn_of _ (by decide +kernel)) ggZ_about_X3_has
set_option maxRecDepth 20000 in
theorem ggZ_about_X6_isThrough : GoodIn wsZ_about wsX6_isThrough := goodIn_r _ [19, 20, 21, 61, 62, 63] (by decide +kernel) (by decide +kernel)
set_option maxRecDepth 20000 in
theorem gZ_about_X6_isThrough : GoodIn wsZ_about (wsV RX9 120 RX6 yX6_isThrough wsX6_isThrough) := goodIn_app (goodIn_of _ (by decide +kernel)) ggZ_about_X6_isThrough
set_option maxRecDepth 20000 in
theorem ggZ_about_X3_placeInRow : GoodIn wsZ_about wsX3_placeInRow := goodIn_r _ [25, 26, 27, 28, 29, 30, 31, 12, 32, 14, 33, 34, 35, 36, 37, 10, 11, 13, 54, 55, 56, 57, 58, 59, 60] (by decide +kernel) (by decide +kernel)
set_option maxRecDepth 20000 in
theorem gZ_about_X3_placeInRow : GoodIn wsZ_about (wsV RX9 202 RX3 yX3_placeInRow wsX3_placeInRow) := goodIn_app (goodIn_of _ (by decide +kernel)) ggZ_about_X3_placeInRow
set_option maxRecDepth 20000 in
theorem ggZ_about_X3_placeOf : GoodIn wsZ_about wsX3_placeOf := goodIn_r _ [32, 14, 26, 54, 55, 56, 57, 58, 59, 60] (by decide +kernel) (by decide +kernel)
set_option maxRecDepth 20000 in
theorem gZ_about_X3_placeOf : GoodIn wsZ_about (wsV RX9 206 RX3 yX3_placeOf wsX3_placeOf) := goodIn_app (goodIn_of _ (by decide +kernel)) ggZ_about_X3_placeOf
def wsZ_octet : List Cond := .code yX9_octet cX9_octet 2 (some .int) :: ([.classLink RX9 195 "java/util/NoSuchElementException", .initialized "java/util/NoSuchElementException", .fieldLink RX9 16 "LawNumberer" "out" "LLawNumberer$Text;", .fieldLink RX9 78 "LawNumberer$Text" "length" "I", .methodLink RX9 231 yX8_byteAt, .instanceMethod yX8_byteAt, .selects RX8 yX8_byteAt yX8_byteAt, .initialized RX8, .code yX8_byteAt cX8_byteAt 2 (some .int), .fieldLink RX8 15 "LawNumberer$Text" "length" "I", .fieldLink RX8 9 "LawNumberer$Text" "bytes" "[I"] ++ wsX90 ++ wsX80 ++ (zAtoms.filter vx_no).filter goodWord)
set_option maxRecDepth 20000 in
theorem ggZ_octet_X8_byteAt : GoodIn wsZ_octet wsX8_byteAt := goodIn_r _ [9, 10, 11, 27, 28] (by decide +kernel) (by decide +kernel)
set_option maxRecDepth 20000 in
theorem gZ_octet_X8_byteAt : GoodIn wsZ_octet (wsV RX9 231 RX8 yX8_byteAt wsX8_byteAt) := goodIn_app (goodIn_of _ (by decide +kernel)) ggZ_octet_X8_byteAt
