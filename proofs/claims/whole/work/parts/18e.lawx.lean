/-! own words: the law's two helpers with a table -/
theorem GZ.at {K : Nat → Nat} {A0 B : Nat → Prop} {s : State} {H : Heap} {locs : List Loc} (hX : GZ K A0 s s.heap) (hS : va_S A0 s.heap H locs) (hB : ∀ q, B q → A0 q) : ∀ U : State, U.heap = H → s.WarmedH U.vm → GZ K B U U.heap := fun U hU hW => by
  rw [hU]
  exact ((hX.kept hS.2.1).narrow hB).moved hW
def rL (res : Option Int32) : Int32 := match res with
  | some _ => 0
  | none => 1
def fL (res : Option Int32) (f : Nat → Int64) : Nat → Int64 := match res with
  | some v => vp_updL f 0 v.toInt64
  | none => f
abbrev tyL (cI cZ cB cL : ClassId) : List (ClassId × FieldType) := [(cI, .int), (cZ, .boolean), (cB, .byte), (cL, .long)]
def wdL (cI cZ cB cL : ClassId) (ad : Nat → Nat) (σ : Mem) (o : Nat) (f : Nat → Int64) : va_W := (o, .inl (cL, (1, .inr (.inl f)))) :: wdX9 cI cZ cB ad σ
def pL (K : Nat → Nat) (D : va_G) (cI cZ cB cL : ClassId) (ws : va_W) (sz : Nat) (av : List Value) : Array Value → State → Prop := va_Pc av (fun U => GZ K (va_A ws sz) U U.heap ∧ U.heap.size = sz ∧ va_P D vwCl ws U.heap ∧ va_K D vwCl (tyL cI cZ cB cL) U ∧ va_D (fun _ => True) ws)
theorem pL_fb {K : Nat → Nat} {D : va_G} {cI cZ cB cL : ClassId} {ws : va_W} {sz : Nat} {av : List Value} : FrameBlind (pL K D cI cZ cB cL ws sz av) := by
  intro a U g mk q
  obtain ⟨q0, qX, q1, qP, qK, qD⟩ := q
  exact ⟨q0, GZ.moved (u := U) (U := U.calling g mk a) (State.WarmedH.refl U) qX, q1, qP, va_K.moved (u := U) (U := U.calling g mk a) (Vm.Alike.refl U.vm) qK, qD⟩
section CRZ
variable {p : Program} {l : Launch} {e : Env} {R : Room} {s : State} {m : MethodId} {args : Array Value} {below : List Frame} {meth : Method} {c : Code} {H : Heap} {locs : List Loc} {cells slots : Nat} {Q : State → Prop}
variable {pc : Nat} {ls : Array Slot} {rest st0 : List Value} {a : Array Value} {A0 A1 : Nat → Prop} {H0 : Heap} {mc ms : Nat} {free : Addr → Prop}
theorem cr_Z {res : Option Int32} (hr : vx_Run p l e R s m args below meth c H locs cells slots mc ms (F0 m pc ls st0) rest (qT res a) (xT res) (fun _ => False)) (hS : va_S A0 H0 H locs)
    (kx : ∀ (q9 : Nat) (ce : Cell) (H1 : Heap), res = none → H.size ≤ H1.size → (∀ q : Nat, q < H.size → H1[q]? = H[q]?) → va_S A0 H0 H1 locs → H1[q9]? = some ce → ce.vm = .none → s.vm.findClass NSE = some ce.cls → vx_W p l e R s m args below meth c H1 locs (cells + mc) (slots + ms) Q (F0 m pc ls rest) q9)
    (kk : ∀ v : Int32, res = some v → W p l e R s m args below meth c H locs (cells + mc) (slots + ms) Q (F0 m (pc + 3) ls (.int v :: rest))) : W p l e R s m args below meth c H locs cells slots Q (F0 m pc ls st0) := by
  intro T hT X
  rcases hr T hT X with ⟨v, st₀, t, T', L, h0, X', hL, e1, -, ⟨v', hres, hv, hh⟩, st⟩ | ⟨q, st₀, t, T', L, E, ce, h0, X', hL, e1, -, ⟨hres, rfl, hz, hk⟩, hce, hcv, hcl, st⟩
  · cases hv
    obtain ⟨t2, a1, b1⟩ := kk v' hres T' (by rw [e1, hh, h0]) (Stand.forget X' (fun q h => (hL q h).elim))
    exact ⟨t2, st t2 a1, b1⟩
  · rw [h0] at hz hk
    obtain ⟨t2, a1, b1⟩ := kx q ce T'.heap hres (by rw [e1]; exact hz) (fun q h1 => by rw [e1]; exact hk q h1)
      ⟨Nat.le_trans hS.1 (by rw [e1]; exact hz), fun q h1 h2 => by rw [e1, hk q (Nat.lt_of_lt_of_le h1 hS.1)]; exact hS.2.1 q h1 h2, hS.2.2⟩ (by rw [e1]; exact hce) hcv hcl T' rfl (Stand.forget X' (fun q h => (hL q h).elim))
    exact ⟨t2, st.trans a1, b1⟩
theorem cr_ofX {Qa : State → Outcome → State → Prop} {g : JFrame} (h : vx_Run p l e R s m args below meth c H locs cells slots mc ms g rest Qa (fun _ _ _ => False) free) : CallRun p l e R s m args below meth c H locs cells slots mc ms g rest Qa free := by
  intro T hT X
  rcases h T hT X with ⟨v, st₀, t, T', L, a1, a2, a3, a4, -, a5, a6⟩ | ⟨q, st₀, t, T', L, E, ce, a1, a2, a3, a4, a5, a6, a7⟩
  · exact ⟨v, st₀, t, T', L, a1, a2, a3, a4, a5, a6⟩
  · exact a6.elim
end CRZ
theorem P_kept {D : va_G} {cl : List vw_C} {ws : va_W} {H H1 : Heap} (hP : va_P D cl ws H) (hk : ∀ q : Nat, q < H.size → H1[q]? = H[q]?) : va_P D cl ws H1 := fun k q h => (hP k q h).kept (hk q.1 (hP k q h).lt)
def wsZL_about : List Cond := .codeWith yL_about cL_about 5 (some .int) [(0, 10, 13, 13)] :: ([.classLink RL 13 NSE, .methodLink RL 7 yX9_about, .instanceMethod yX9_about, .selects RX9 yX9_about yX9_about, .initialized RX9] ++ wsZ_about)
set_option maxRecDepth 20000 in
theorem gZL_about : GoodIn wsZL_about (wsV RL 7 RX9 yX9_about wsZ_about) := goodIn_app (goodIn_of _ (by decide +kernel)) (goodIn_sub (fun w h => List.mem_cons_of_mem _ (List.mem_append_right _ h)) (by decide +kernel))
def rmL_about : Room := { frames := 7, cells := 1, slots := 6, locals := 104 }
set_option maxHeartbeats 4000000 in
set_option maxRecDepth 100000 in
theorem mL_about (K : Nat → Nat) (l : Launch) (hfl : l.stackTraces = false) (D : va_G) (cI cZ cB cL : ClassId) (ad : Nat → Nat) (σ : Mem) (o : Nat) (f : Nat → Int64) (sz : Nat) (a1 a2 : Int32) (res : Option Int32) (h : X9_about a1 a2 σ = some res) :
    vx_Met l yL_about wsZL_about rmL_about (pL K D cI cZ cB cL (wdL cI cZ cB cL ad σ o f) sz [.ref (ad 0), .int a1, .int a2, .ref o]) (qW D (some (.int (rL res))) (wdL cI cZ cB cL ad σ o (fL res f)) (va_A (wdL cI cZ cB cL ad σ o f) sz)) (fun _ _ _ => False) 1 6 (va_A (wdL cI cZ cB cL ad σ o f) sz) := by
  refine vx_ofWH (cc := cL_about) (maxL := 5) (ret := some .int) (hh := [(0, 10, 13, 13)]) (by decide +kernel) rfl ?_
  intro p e s m args below meth c s₁ B hml hv
  obtain ⟨rfl, hZ, rfl, hP, hK4, hD0⟩ := hv
  have hx := B.exec
  have hb := B.bytes
  have hr := B.returns
  have hts := atoms_spec (ws := wsZL_about) B.pre
  have hown : s.vm.findClass RL = some m.cls := findClass_of_methodNamed B.named
  have hlocks := B.notSynchronized
  have htab := vx_table (x := yL_about) B (hts _ List.mem_cons_self)
  have hD := hD0.self (sz := s.heap.size)
  have hK := hK4.sub (tys' := tyA cI cZ cB) [0, 1, 2] rfl
  have hFr : ∀ q, va_A (wdL cI cZ cB cL ad σ o f) s.heap.size q → va_A (wdL cI cZ cB cL ad σ o f) s.heap.size q := fun _ h => h
  generalize hAe : va_A (wdL cI cZ cB cL ad σ o f) s.heap.size = A at hD hZ hFr ⊢
  have hA : ∀ q : Nat, s.heap.size ≤ q → A q := fun q h => by rw [← hAe]; exact Or.inr h
  have hS : va_S A s.heap s.heap [] := va_S.rf
  have hl := lv_entry ([.ref (ad 0), .int a1, .int a2, .ref o]) (n := 5) (Nat.le_of_ble_eq_true rfl)
  rw [lg_entry_eq]
  generalize (lg_sl ([.ref (ad 0), .int a1, .int a2, .ref o]) ++ List.replicate (5 - (lg_sl ([.ref (ad 0), .int a1, .int a2, .ref o])).length) Slot.unset).toArray = ls at hl ⊢
  have hl : lv_has ls 5 [(0, .ref (ad 0)), (1, .int a1), (2, .int a2), (3, .ref o)] := hl
  have hPc := hP.sub (ws' := wdX9 cI cZ cB ad σ) [1, 2, 3, 4, 5, 6, 7, 8, 9, 10, 11, 12, 13, 14, 15, 16, 17, 18, 19, 20, 21, 22, 23, 24, 25, 26, 27, 28, 29, 30, 31, 32] rfl
  refine lv_aload_n hx hb dL_about_0 rfl (lv_at hl 3 rfl) ?_
  refine lv_iconst (v := 0) hx hb dL_about_1 (by decide) ?_
  refine lv_aload_n hx hb dL_about_2 rfl (lv_at hl 0 rfl) ?_
  refine lv_iload_n hx hb dL_about_3 rfl (lv_at hl 1 rfl) ?_
  refine lv_iload_n hx hb dL_about_4 rfl (lv_at hl 2 rfl) ?_
  refine cr_Z (rest := [.int 0, .ref o]) (vx_runV ⟨hx, hb, hml, hown, hts⟩ (mX9_about K l D cI cZ cB ad σ a1 a2 hfl res h) (cwV 2 hts gZL_about rfl rfl rfl (by decide +kernel) ⟨Nat.le_of_ble_eq_true rfl, Nat.le_of_ble_eq_true rfl⟩) ⟨pZ_fb, va_recv hK hPc (ci := 7) (q0 := 0) rfl rfl, fun U hU hW => ⟨rfl, GZ.at hZ hS (fun _ h => h.elim) U hU hW, by rw [hU]; exact hPc, va_K.moved hW.alike hK⟩⟩ rfl rfl hl.1 rfl (lv_room (Nat.le_of_ble_eq_true rfl)) dL_about_5 ⟨Nat.le_of_ble_eq_true rfl, Nat.le_of_ble_eq_true rfl⟩) hS (fun q9 ce H1 hres hz hk hS1 hce hcv hcl => ?_) (fun v hres => ?_)
  · refine vx_catch (own := RL) (name := NSE) hown [] ⟨0, 10, 13, 13⟩ [] (htab.trans rfl) (fun z hz => by cases hz) (by decide) (by decide) (hts (.classLink RL 13 NSE) (by decide +kernel)) (va_Nw.use rfl hZ.1.1) hce hcv hcl ?_
    refine lv_astore (lv' := [(4, .ref q9)]) hx hb dL_about_13 (lv_sub hl [] rfl) (by decide) rfl (fun ls hl => ?_)
    refine lv_iconst (v := 1) hx hb dL_about_15 (by decide) ?_
    refine vx_ret (W.widen (k := 1) (n := 6) (Nat.le_of_ble_eq_true rfl) (Nat.le_of_ble_eq_true rfl) (W.iret hx hb hr (fun t ht _ => ⟨by rw [hres]; rfl, ?_, hS1.F ht⟩) hS1.2.2 dL_about_16))
    rw [ht, hres]
    exact P_kept hP hk
  · refine lv_i2l (v := v.toInt64) hx hb dL_about_8 rfl ?_
    refine va_last hx hb hK4 hP hD hS 0 3 rfl rfl (vp_in_iff.mpr (by decide)) dL_about_9 (fun H locs hP hD hS => ?_)
    refine lv_goto (tgt := 17) hx hb dL_about_10 (by decide) ?_
    refine lv_iconst (v := 0) hx hb dL_about_17 (by decide) ?_
    refine vx_ret (W.widen (k := 1) (n := 6) (Nat.le_of_ble_eq_true rfl) (Nat.le_of_ble_eq_true rfl) (W.iret hx hb hr (fun t ht _ => ⟨by rw [hres]; rfl, ?_, hS.F ht⟩) hS.2.2 dL_about_18))
    rw [ht, hres]
    exact hP
def wsZL_octet : List Cond := .codeWith yL_octet cL_octet 4 (some .int) [(0, 9, 12, 13)] :: ([.classLink RL 13 NSE, .methodLink RL 15 yX9_octet, .instanceMethod yX9_octet, .selects RX9 yX9_octet yX9_octet, .initialized RX9] ++ wsZ_octet)
set_option maxRecDepth 20000 in
theorem gZL_octet : GoodIn wsZL_octet (wsV RL 15 RX9 yX9_octet wsZ_octet) := goodIn_app (goodIn_of _ (by decide +kernel)) (goodIn_sub (fun w h => List.mem_cons_of_mem _ (List.mem_append_right _ h)) (by decide +kernel))
def rmL_octet : Room := { frames := 7, cells := 1, slots := 6, locals := 103 }
set_option maxHeartbeats 4000000 in
set_option maxRecDepth 100000 in
theorem mL_octet (K : Nat → Nat) (l : Launch) (hfl : l.stackTraces = false) (D : va_G) (cI cZ cB cL : ClassId) (ad : Nat → Nat) (σ : Mem) (o : Nat) (f : Nat → Int64) (sz : Nat) (a1 : Int32) (res : Option Int32) (h : X9_octet a1 σ = some res) :
    vx_Met l yL_octet wsZL_octet rmL_octet (pL K D cI cZ cB cL (wdL cI cZ cB cL ad σ o f) sz [.ref (ad 0), .int a1, .ref o]) (qW D (some (.int (rL res))) (wdL cI cZ cB cL ad σ o (fL res f)) (va_A (wdL cI cZ cB cL ad σ o f) sz)) (fun _ _ _ => False) 1 6 (va_A (wdL cI cZ cB cL ad σ o f) sz) := by
  refine vx_ofWH (cc := cL_octet) (maxL := 4) (ret := some .int) (hh := [(0, 9, 12, 13)]) (by decide +kernel) rfl ?_
  intro p e s m args below meth c s₁ B hml hv
  obtain ⟨rfl, hZ, rfl, hP, hK4, hD0⟩ := hv
  have hx := B.exec
  have hb := B.bytes
  have hr := B.returns
  have hts := atoms_spec (ws := wsZL_octet) B.pre
  have hown : s.vm.findClass RL = some m.cls := findClass_of_methodNamed B.named
  have hlocks := B.notSynchronized
  have htab := vx_table (x := yL_octet) B (hts _ List.mem_cons_self)
  have hD := hD0.self (sz := s.heap.size)
  have hK := hK4.sub (tys' := tyA cI cZ cB) [0, 1, 2] rfl
  have hFr : ∀ q, va_A (wdL cI cZ cB cL ad σ o f) s.heap.size q → va_A (wdL cI cZ cB cL ad σ o f) s.heap.size q := fun _ h => h
  generalize hAe : va_A (wdL cI cZ cB cL ad σ o f) s.heap.size = A at hD hZ hFr ⊢
  have hA : ∀ q : Nat, s.heap.size ≤ q → A q := fun q h => by rw [← hAe]; exact Or.inr h
  have hS : va_S A s.heap s.heap [] := va_S.rf
  have hl := lv_entry ([.ref (ad 0), .int a1, .ref o]) (n := 4) (Nat.le_of_ble_eq_true rfl)
  rw [lg_entry_eq]
  generalize (lg_sl ([.ref (ad 0), .int a1, .ref o]) ++ List.replicate (4 - (lg_sl ([.ref (ad 0), .int a1, .ref o])).length) Slot.unset).toArray = ls at hl ⊢
  have hl : lv_has ls 4 [(0, .ref (ad 0)), (1, .int a1), (2, .ref o)] := hl
  have hPc := hP.sub (ws' := wdX9 cI cZ cB ad σ) [1, 2, 3, 4, 5, 6, 7, 8, 9, 10, 11, 12, 13, 14, 15, 16, 17, 18, 19, 20, 21, 22, 23, 24, 25, 26, 27, 28, 29, 30, 31, 32] rfl
  refine lv_aload_n hx hb dL_octet_0 rfl (lv_at hl 2 rfl) ?_
  refine lv_iconst (v := 0) hx hb dL_octet_1 (by decide) ?_
  refine lv_aload_n hx hb dL_octet_2 rfl (lv_at hl 0 rfl) ?_
  refine lv_iload_n hx hb dL_octet_3 rfl (lv_at hl 1 rfl) ?_
  refine cr_Z (rest := [.int 0, .ref o]) (vx_runV ⟨hx, hb, hml, hown, hts⟩ (mX9_octet K l D cI cZ cB ad σ a1 hfl res h) (cwV 1 hts gZL_octet rfl rfl rfl (by decide +kernel) ⟨Nat.le_of_ble_eq_true rfl, Nat.le_of_ble_eq_true rfl⟩) ⟨pZ_fb, va_recv hK hPc (ci := 7) (q0 := 0) rfl rfl, fun U hU hW => ⟨rfl, GZ.at hZ hS (fun _ h => h.elim) U hU hW, by rw [hU]; exact hPc, va_K.moved hW.alike hK⟩⟩ rfl rfl hl.1 rfl (lv_room (Nat.le_of_ble_eq_true rfl)) dL_octet_4 ⟨Nat.le_of_ble_eq_true rfl, Nat.le_of_ble_eq_true rfl⟩) hS (fun q9 ce H1 hres hz hk hS1 hce hcv hcl => ?_) (fun v hres => ?_)
  · refine vx_catch (own := RL) (name := NSE) hown [] ⟨0, 9, 12, 13⟩ [] (htab.trans rfl) (fun z hz => by cases hz) (by decide) (by decide) (hts (.classLink RL 13 NSE) (by decide +kernel)) (va_Nw.use rfl hZ.1.1) hce hcv hcl ?_
    refine lv_astore_n (lv' := [(3, .ref q9)]) hx hb dL_octet_12 rfl (lv_sub hl [] rfl) (by decide) rfl (fun ls hl => ?_)
    refine lv_iconst (v := 1) hx hb dL_octet_13 (by decide) ?_
    refine vx_ret (W.widen (k := 1) (n := 6) (Nat.le_of_ble_eq_true rfl) (Nat.le_of_ble_eq_true rfl) (W.iret hx hb hr (fun t ht _ => ⟨by rw [hres]; rfl, ?_, hS1.F ht⟩) hS1.2.2 dL_octet_14))
    rw [ht, hres]
    exact P_kept hP hk
  · refine lv_i2l (v := v.toInt64) hx hb dL_octet_7 rfl ?_
    refine va_last hx hb hK4 hP hD hS 0 3 rfl rfl (vp_in_iff.mpr (by decide)) dL_octet_8 (fun H locs hP hD hS => ?_)
    refine lv_goto (tgt := 15) hx hb dL_octet_9 (by decide) ?_
    refine lv_iconst (v := 0) hx hb dL_octet_15 (by decide) ?_
    refine vx_ret (W.widen (k := 1) (n := 6) (Nat.le_of_ble_eq_true rfl) (Nat.le_of_ble_eq_true rfl) (W.iret hx hb hr (fun t ht _ => ⟨by rw [hres]; rfl, ?_, hS.F ht⟩) hS.2.2 dL_octet_16))
    rw [ht, hres]
    exact hP
