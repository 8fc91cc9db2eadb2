/-! own words: bodies that make cells; History.hasRoom -/
def kad {α : Type} (k : Nat) (x : Option (α × Nat)) : Option (α × Nat) := match x with
  | none => none
  | some a => some (a.1, k + a.2)
theorem kad_e {α : Type} {k : Nat} {x : Option (α × Nat)} {res : α × Nat} (h : kad k x = some res) : ∃ r, x = some r ∧ res.1 = r.1 ∧ res.2 = k + r.2 := by
  cases x with
  | none => cases h
  | some a =>
    have e := Option.some.inj h
    exact ⟨a, rfl, by rw [← e], by rw [← e]⟩
def qG (D : va_G) (v : Option Value) (wf : (Nat → Nat) → va_W) (A : Nat → Prop) : Array Value → State → Outcome → State → Prop := fun _ st oc t => oc = .returned v ∧ (∃ adv : Nat → Nat, va_P D vwCl (wf adv) t.heap ∧ va_D A (wf adv)) ∧ va_F A st t
def BG (l : Launch) (y : MethodName) (ws : List Cond) (rm : Nat → Room) (cc : ByteArray) (maxL : Nat) (ret : Option FieldType) (D : va_G) (cI cZ cB : ClassId) (w : va_W) (av : List Value) (v : Option Value) (wf : (Nat → Nat) → va_W) (κ : Nat) : Prop :=
  ∀ (p : Program) (e : Env) (s : State) (m : MethodId) (args : Array Value) (below : List Frame) (meth : Method) (c : Code) (ls : Array Slot) (Q : State → Prop) (A : Nat → Prop), p.tables.exec = Jvm.exec → c.code = cc → c.maxLocals = maxL → (∀ w ∈ ws, w.before args s = true) → s.vm.findClass y.cls = some m.cls →
    va_K D vwCl (tyA cI cZ cB) s → (∀ q, s.heap.size ≤ q → A q) → va_P D vwCl w s.heap → va_D A w → va_S A s.heap s.heap [] → lv_has ls maxL (lv_args 0 av) →
    (∀ (v' : Option Value) (adv : Nat → Nat) (w' : va_W) (pc : Nat) (ls : Array Slot) (H : Heap) (locs : List Loc) (kc : Nat), v' = v → w' = wf adv → nar ret v' → decode cc pc = .ok (if ret = none then .return_ else .ireturn, 1) → va_P D vwCl w' H → va_D A w' → va_S A s.heap H locs → kc ≤ κ → W p l e (rm κ) s m args below meth c H locs kc kc Q (F0 m pc ls v'.toList)) →
    W p l e (rm κ) s m args below meth c s.heap [] 0 0 Q (F0 m 0 ls [])
theorem BG.met {l : Launch} {y : MethodName} {ws ws' : List Cond} {rm : Nat → Room} {cc : ByteArray} {maxL : Nat} {ty : FieldType} {D : va_G} {cI cZ cB : ClassId} {w : va_W} {wf : (Nat → Nat) → va_W} {κ : Nat} {av : List Value} {r : Int32} {sz : Nat} (hy : plainName y.cls = true) (hw : ws = Cond.code y cc maxL (some ty) :: ws') (hlen : (lg_sl av).length ≤ maxL)
    (h : BG l y ws rm cc maxL (some ty) D cI cZ cB w av (some (.int r)) wf κ) : Met l y ws (rm κ) (pW D cI cZ cB w sz av) (qG D (some (.int r)) wf (va_A w sz)) κ κ (va_A w sz) := by
  refine Met.ofW (cc := cc) (maxL := maxL) (ret := some ty) hy hw ?_
  intro p e s m args below meth c s₁ B hml hv
  obtain ⟨rfl, rfl, hP, hK, hD0⟩ := hv
  have hl := lv_entry av hlen
  rw [lg_entry_eq]
  have hlocks := B.notSynchronized
  refine h p e s m _ below meth c _ _ _ B.exec B.bytes hml (atoms_spec (ws := ws) B.pre) (findClass_of_methodNamed B.named) hK (fun q h => Or.inr h) hP hD0.self va_S.rf hl (fun v' adv w' pc ls H locs kc hv hw' hn hdg hP1 hD1 hS hkc => ?_)
  subst hv; subst hw'
  rw [if_neg (by intro z; cases z)] at hdg
  refine W.widen hkc hkc ?_
  exact W.zret B.exec B.bytes B.returns hn (fun t ht _ => ⟨rfl, ⟨adv, by rw [ht]; exact hP1, hD1⟩, hS.F ht⟩) hS.2.2 hdg
theorem BG.metv {l : Launch} {y : MethodName} {ws ws' : List Cond} {rm : Nat → Room} {cc : ByteArray} {maxL : Nat} {D : va_G} {cI cZ cB : ClassId} {w : va_W} {wf : (Nat → Nat) → va_W} {κ : Nat} {av : List Value} {sz : Nat} (hy : plainName y.cls = true) (hw : ws = Cond.code y cc maxL none :: ws') (hlen : (lg_sl av).length ≤ maxL)
    (h : BG l y ws rm cc maxL none D cI cZ cB w av none wf κ) : Met l y ws (rm κ) (pW D cI cZ cB w sz av) (qG D none wf (va_A w sz)) κ κ (va_A w sz) := by
  refine Met.ofW (cc := cc) (maxL := maxL) (ret := none) hy hw ?_
  intro p e s m args below meth c s₁ B hml hv
  obtain ⟨rfl, rfl, hP, hK, hD0⟩ := hv
  have hl := lv_entry av hlen
  rw [lg_entry_eq]
  have hlocks := B.notSynchronized
  refine h p e s m _ below meth c _ _ _ B.exec B.bytes hml (atoms_spec (ws := ws) B.pre) (findClass_of_methodNamed B.named) hK (fun q h => Or.inr h) hP hD0.self va_S.rf hl (fun v' adv w' pc ls H locs kc hv hw' hn hdg hP1 hD1 hS hkc => ?_)
  subst hv; subst hw'
  rw [if_pos rfl] at hdg
  refine W.widen hkc hkc ?_
  exact W.vret B.exec B.bytes B.returns (fun t ht _ => ⟨rfl, ⟨adv, by rw [ht]; exact hP1, hD1⟩, hS.F ht⟩) hS.2.2 hdg
section CRG
variable {p : Program} {l : Launch} {e : Env} {R : Room} {s : State} {m : MethodId} {args : Array Value} {below : List Frame} {meth : Method} {c : Code} {H : Heap} {locs : List Loc} {cells slots : Nat} {Q : State → Prop}
variable {pc : Nat} {ls : Array Slot} {rest st0 : List Value} {a : Array Value} {A0 A1 : Nat → Prop} {H0 : Heap} {mc ms : Nat} {free : Addr → Prop}
variable {D : va_G} {cI cZ cB : ClassId} {v : Option Value}
theorem cr_G {wf : (Nat → Nat) → va_W} (hr : CallRun p l e R s m args below meth c H locs cells slots mc ms (F0 m pc ls st0) rest (qG D v wf A1 a) free) (hS : va_S A0 H0 H locs) (hA : ∀ q, q < H.size → A1 q → A0 q) (hf : ∀ q, free q → A0 q)
    (kk : ∀ (adv : Nat → Nat) (H1 : Heap) (locs1 : List Loc), va_P D vwCl (wf adv) H1 → va_D A1 (wf adv) → (∀ q : Nat, q < H.size → ¬ A1 q → H1[q]? = H[q]?) → va_S A0 H0 H1 locs1 → W p l e R s m args below meth c H1 locs1 (cells + mc) (slots + ms) Q (F0 m (pc + 3) ls (v.toList ++ rest))) : W p l e R s m args below meth c H locs cells slots Q (F0 m pc ls st0) := by
  intro T hT X
  obtain ⟨v', st₀, t, T', L, h0, X', hL, e1, ⟨hv, ⟨adv, hp, hd⟩, hz, hk⟩, st⟩ := hr T hT X
  cases hv
  rw [h0] at hz hk
  obtain ⟨t2, a1, b1⟩ := kk adv T'.heap (locs ++ L) (by rw [e1]; exact hp) hd (fun q h1 h2 => by rw [e1]; exact hk q h1 h2)
    ⟨Nat.le_trans hS.1 (by rw [e1]; exact hz), fun q h1 h2 => by rw [e1, hk q (Nat.lt_of_lt_of_le h1 hS.1) (fun z => h2 (hA q (Nat.lt_of_lt_of_le h1 hS.1) z))]; exact hS.2.1 q h1 h2, fun q hq => by
      rcases List.mem_append.mp hq with h | h
      · exact hS.2.2 q h
      · exact hf _ (hL q h)⟩ T' rfl X'
  exact ⟨t2, st t2 a1, b1⟩
theorem cr_C {wf : Nat → va_W} (hr : CallRun p l e R s m args below meth c H locs cells slots mc ms (F0 m pc ls st0) rest (qC D wf A1 a) free) (hS : va_S A0 H0 H locs) (hA : ∀ q, q < H.size → A1 q → A0 q) (hf : ∀ q, free q → A0 q)
    (kk : ∀ (q : Nat) (H1 : Heap) (locs1 : List Loc), va_P D vwCl (wf q) H1 → va_D A1 (wf q) → (∀ q : Nat, q < H.size → ¬ A1 q → H1[q]? = H[q]?) → va_S A0 H0 H1 locs1 → W p l e R s m args below meth c H1 locs1 (cells + mc) (slots + ms) Q (F0 m (pc + 3) ls (.ref q :: rest))) : W p l e R s m args below meth c H locs cells slots Q (F0 m pc ls st0) := by
  intro T hT X
  obtain ⟨v', st₀, t, T', L, h0, X', hL, e1, ⟨qq, hv, hp, hd, hz, hk⟩, st⟩ := hr T hT X
  cases hv
  rw [h0] at hz hk
  obtain ⟨t2, a1, b1⟩ := kk qq T'.heap (locs ++ L) (by rw [e1]; exact hp) hd (fun q h1 h2 => by rw [e1]; exact hk q h1 h2)
    ⟨Nat.le_trans hS.1 (by rw [e1]; exact hz), fun q h1 h2 => by rw [e1, hk q (Nat.lt_of_lt_of_le h1 hS.1) (fun z => h2 (hA q (Nat.lt_of_lt_of_le h1 hS.1) z))]; exact hS.2.1 q h1 h2, fun q hq => by
      rcases List.mem_append.mp hq with h | h
      · exact hS.2.2 q h
      · exact hf _ (hL q h)⟩ T' rfl X'
  exact ⟨t2, st t2 a1, b1⟩
variable {Ts ws' ws'' : List Cond} {cc bytes : ByteArray} {nL maxL index n : Nat} {own C : String} {y : MethodName} {ret : Option FieldType} {rm : Room} {b : Addr} {As : List Value}
/-- a making method, called on an object -/
theorem cl_GV {ws wc : va_W} {wf wn : (Nat → Nat) → va_W} {lp : List Nat} {ci q0 : Nat} {q : vw_C} {fs : List Value} (S : CallFix p m c cc nL s args Ts own) (hM : Met l y ws' rm (pW D cI cZ cB wc H.size (.ref b :: As)) (qG D v wf (va_A wc H.size)) mc ms (va_A wc H.size)) (cw : CallW R s args own C index y bytes maxL ret ws' rm mc ms n)
    (hK : va_K D vwCl (tyA cI cZ cB) s) (hP : va_P D vwCl ws H) (hD : va_D A0 ws) (hS : va_S A0 H0 H locs) (hA : ∀ q, H0.size ≤ q → A0 q) (hlp : lp.map (fun i => ws[i]?) = wc.map some) (hnd : va_nd lp = true) (hl1 : ∀ adv, lp.length = (wf adv).length) (hwn : ∀ adv, wn adv = rep ws lp (wf adv))
    (hc : vwCl[ci]? = some q) (he : wc[q0]? = some (b, .inr (ci, fs))) (hq : q.1 = C) (hn : As.length = n) (hsize : ls.size = nL) (hstack : st0 = As.reverse ++ .ref b :: rest) (hW : (rest.map fun v => v.category).sum ≤ 8) (hdg : decode cc pc = .ok (.invokevirtual index, 3)) (hf : cells + mc ≤ R.cells ∧ slots + ms ≤ R.slots)
    (kk : ∀ (adv : Nat → Nat) (H1 : Heap) (locs1 : List Loc), va_P D vwCl (wn adv) H1 → va_D A0 (wn adv) → va_S A0 H0 H1 locs1 → W p l e R s m args below meth c H1 locs1 (cells + mc) (slots + ms) Q (F0 m (pc + 3) ls (v.toList ++ rest))) : W p l e R s m args below meth c H locs cells slots Q (F0 m pc ls st0) := by
  subst hq
  have hPc : va_P D vwCl wc H := fun k q hk => by
    have h1 : (lp.map (fun i => ws[i]?))[k]? = some (some q) := by rw [hlp, List.getElem?_map, hk]; rfl
    rw [List.getElem?_map] at h1
    cases hi : lp[k]? with
    | none => rw [hi] at h1; cases h1
    | some i => rw [hi] at h1; exact hP i q (Option.some.inj h1)
  have hDc : va_D A0 wc := hD.sub lp hnd hlp
  have hFc := va_free hD hS hA lp hlp
  exact cr_G (W.runV S hM cw ⟨pW_fb, va_recv hK hPc hc he, fun U hU hW => ⟨rfl, by rw [hU], by rw [hU]; exact hPc, va_K.moved hW.alike hK, hDc.weaken (fun _ _ _ _ => trivial)⟩⟩ rfl hn hsize hstack (lv_room hW) hdg hf) hS (fun q _ h => hFc q h) hFc
    (fun adv H1 locs1 hP1 hD1 hk hS1 => kk adv H1 locs1 (rep_P hP hD hlp hk hP1 (hl1 adv) (hwn adv)) (rep_D hP hD hlp hFc hD1 (hl1 adv) (hwn adv)) hS1)
theorem cl_GVs {ws : va_W} {wf : (Nat → Nat) → va_W} {ci q0 : Nat} {q : vw_C} {fs : List Value} (S : CallFix p m c cc nL s args Ts own) (hM : Met l y ws' rm (pW D cI cZ cB ws H.size (.ref b :: As)) (qG D v wf (va_A ws H.size)) mc ms (va_A ws H.size)) (cw : CallW R s args own C index y bytes maxL ret ws' rm mc ms n)
    (hK : va_K D vwCl (tyA cI cZ cB) s) (hP : va_P D vwCl ws H) (hD : va_D A0 ws) (hS : va_S A0 H0 H locs) (hA : ∀ q, H0.size ≤ q → A0 q)
    (hc : vwCl[ci]? = some q) (he : ws[q0]? = some (b, .inr (ci, fs))) (hq : q.1 = C) (hn : As.length = n) (hsize : ls.size = nL) (hstack : st0 = As.reverse ++ .ref b :: rest) (hW : (rest.map fun v => v.category).sum ≤ 8) (hdg : decode cc pc = .ok (.invokevirtual index, 3)) (hf : cells + mc ≤ R.cells ∧ slots + ms ≤ R.slots)
    (kk : ∀ (adv : Nat → Nat) (H1 : Heap) (locs1 : List Loc), va_P D vwCl (wf adv) H1 → va_D A0 (wf adv) → va_S A0 H0 H1 locs1 → W p l e R s m args below meth c H1 locs1 (cells + mc) (slots + ms) Q (F0 m (pc + 3) ls (v.toList ++ rest))) : W p l e R s m args below meth c H locs cells slots Q (F0 m pc ls st0) := by
  subst hq
  have hFc : ∀ q, va_A ws H.size q → A0 q := fun q h => by
    rcases h with ⟨k, e, h⟩ | h
    · exact hD.2 k (q, e) h
    · exact hA q (Nat.le_trans hS.1 h)
  exact cr_G (W.runV S hM cw ⟨pW_fb, va_recv hK hP hc he, fun U hU hW => ⟨rfl, by rw [hU], by rw [hU]; exact hP, va_K.moved hW.alike hK, hD.weaken (fun _ _ _ _ => trivial)⟩⟩ rfl hn hsize hstack (lv_room hW) hdg hf) hS (fun q _ h => hFc q h) hFc
    (fun adv H1 locs1 hP1 hD1 _ hS1 => kk adv H1 locs1 hP1 (hD1.weaken (fun k q _ h => hFc q.1 h)) hS1)
end CRG
def gcp (f : Nat → Int32) (n : Nat) : Nat → Int32 := va_cpy f (fun _ => 0) 0 0 n
def X2_hasRoom (σ : Mem) : Option ((Int32 × Mem) × Nat) :=
  if nI (σ 6 0).toNatClampNeg ≤ σ 0 5 then
    if σ 0 5 < 40960 then
      lt (if 40960 < σ 0 5 * 2 then 40960 else σ 0 5 * 2) fun m =>
      gp ((σ 6 0).toNatClampNeg < 40960 ∧ nI (σ 6 0).toNatClampNeg < m ∧ m.toNatClampNeg ≤ 40960 ∧ (σ 6 0).toNatClampNeg ≤ m.toNatClampNeg ∧ ¬ m < 0) <|
      lt (upc (upc (upc (upc (up σ 6 0 m) 1 (gcp (σ 1) (σ 6 0).toNatClampNeg)) 2 (gcp (σ 2) (σ 6 0).toNatClampNeg)) 3 (gcp (σ 3) (σ 6 0).toNatClampNeg)) 4 (gcp (σ 4) (σ 6 0).toNatClampNeg)) fun σ1 =>
      some ((1, σ1), 4 * (m.toNatClampNeg + 1))
    else some ((0, σ), 0)
  else some ((1, σ), 0)
def rmX2_hasRoom (κ : Nat) : Room := { frames := 2, cells := κ, slots := κ, locals := 90 }
abbrev LH : List Nat := [1, 2, 3, 4]
abbrev LH9 : List Nat := [22, 23, 24, 25]
set_option maxHeartbeats 4000000 in
set_option maxRecDepth 100000 in
theorem bX2_hasRoom (l : Launch) (D : va_G) (cI cZ cB : ClassId) (ad : Nat → Nat) (σ : Mem) (res : (Int32 × Mem) × Nat) (h : X2_hasRoom σ = some res) : BG l yX2_hasRoom wsX2_hasRoom rmX2_hasRoom cX2_hasRoom 2 (some .boolean) D cI cZ cB (wdX2 cI cZ cB ad σ) [.ref (ad 0)] (some (.int res.1.1)) (fun adv => wdX2 cI cZ cB (mg ad LH adv) res.1.2) res.2 := by
  intro p e s m args below meth c ls Q A hx hb hml hts hown hK hA hP hD hS hl0 hR
  have hinX2 : ∀ w ∈ u_ws RX2 TX2 6, w ∈ wsX2_hasRoom := (fun _ h => List.mem_cons_of_mem _ (List.mem_append_right _ h))
  have hfS := hts (.fieldLink RX2 33 "LawNumberer$History" "size" "I") (by decide +kernel)
  have hf2 := hts (.fieldLink RX2 15 "LawNumberer$History" "days" "[I") (by decide +kernel)
  have hf1 := hts (.fieldLink RX2 11 "LawNumberer$History" "givenTo" "[I") (by decide +kernel)
  have hf3 := hts (.fieldLink RX2 18 "LawNumberer$History" "labels" "[I") (by decide +kernel)
  have hf4 := hts (.fieldLink RX2 21 "LawNumberer$History" "earlier" "[I") (by decide +kernel)
  have hco := hts (.constant RX2 47 (40960)) (by decide +kernel)
  have hl : lv_has ls 2 [(0, .ref (ad 0))] := hl0
  unfold X2_hasRoom at h
  refine lv_aload_n hx hb dX2_hasRoom_0 rfl (lv_at hl 0 rfl) ?_
  refine va_get (ci := 1) (v := .int (σ 0 5)) (C := RX2) (T := TX2) (N := 6) hx hb hts hinX2 hown hK hP 0 rfl rfl 5 (by decide) hfS (fun _ h9 => h9) rfl dX2_hasRoom_1 ?_
  refine lv_aload_n hx hb dX2_hasRoom_4 rfl (lv_at hl 0 rfl) ?_
  refine va_get (ci := 1) (v := .ref (ad 2)) (C := RX2) (T := TX2) (N := 6) hx hb hts hinX2 hown hK hP 0 rfl rfl 1 (by decide) hf2 (fun _ h9 => h9) rfl dX2_hasRoom_5 ?_
  refine va_alen (v := nI (σ 6 0).toNatClampNeg) hx hb hK hP 2 0 rfl rfl rfl dX2_hasRoom_8 ?_
  refine lv_icmp_ge (tgt := 14) hx hb dX2_hasRoom_9 (by decide) (fun c1 => ?_) (fun c1 => ?_)
  case refine_2 =>
    have h := ite_f c1 h
    refine lv_iconst (v := 1) hx hb dX2_hasRoom_12 (by decide) ?_
    exact hR (some (.int 1)) (mp ad LH) _ _ _ _ _ _ (by rw [← Option.some.inj h]) (by rw [← Option.some.inj h]; rfl) nb1 dX2_hasRoom_13 hP hD hS (Nat.zero_le _)
  have h := ite_t c1 h
  refine lv_aload_n hx hb dX2_hasRoom_14 rfl (lv_at hl 0 rfl) ?_
  refine va_get (ci := 1) (v := .int (σ 0 5)) (C := RX2) (T := TX2) (N := 6) hx hb hts hinX2 hown hK hP 0 rfl rfl 5 (by decide) hfS (fun _ h9 => h9) rfl dX2_hasRoom_15 ?_
  refine lv_ldc (v := 40960) hx hb hown hco dX2_hasRoom_18 ?_
  refine lv_icmp_lt (tgt := 25) hx hb dX2_hasRoom_20 (by decide) (fun c2 => ?_) (fun c2 => ?_)
  case refine_2 =>
    have h := ite_f c2 h
    refine lv_iconst (v := 0) hx hb dX2_hasRoom_23 (by decide) ?_
    exact hR (some (.int 0)) (mp ad LH) _ _ _ _ _ _ (by rw [← Option.some.inj h]) (by rw [← Option.some.inj h]; rfl) nb0 dX2_hasRoom_24 hP hD hS (Nat.zero_le _)
  have h := ite_t c2 h
  obtain ⟨r, er, h⟩ := lt_e h
  obtain ⟨⟨g1, g2, g3, g4, g5⟩, h⟩ := gp_e h
  obtain ⟨σ1, eσ1, h⟩ := lt_e h
  have eres := Option.some.inj h
  have hκ : res.2 = 4 * (r.toNatClampNeg + 1) := by rw [← eres]
  refine lv_aload_n hx hb dX2_hasRoom_25 rfl (lv_at hl 0 rfl) ?_
  refine va_get (ci := 1) (v := .int (σ 0 5)) (C := RX2) (T := TX2) (N := 6) hx hb hts hinX2 hown hK hP 0 rfl rfl 5 (by decide) hfS (fun _ h9 => h9) rfl dX2_hasRoom_26 ?_
  refine lv_iconst (v := 2) hx hb dX2_hasRoom_29 (by decide) ?_
  refine lv_imul hx hb dX2_hasRoom_30 ?_
  refine lv_ldc (v := 40960) hx hb hown hco dX2_hasRoom_31 ?_
  refine va_mmin hx hb (hml.trans hl.1.symm) hown (hts (.methodLink RX2 48 Lib.Math.min.name) (by decide +kernel)) (hts (.static Lib.Math.min.name) (by decide +kernel)) (hts (.initialized "java/lang/Math") (by decide +kernel)) (hts (.code Lib.Math.min.name Lib.Math.min.code 2 (some .int)) (by decide +kernel)) (Nat.le_of_ble_eq_true rfl) (Nat.le_of_ble_eq_true rfl) (Nat.zero_le _) (Nat.zero_le _) dX2_hasRoom_33 ?_
  refine lv_topE er ?_
  refine lv_istore_n (lv' := [(1, .int r), (0, .ref (ad 0))]) hx hb dX2_hasRoom_36 rfl hl (by decide) rfl (fun ls hl => ?_)
  have hn : (σ 6 0).toNatClampNeg < 2 ^ 31 := by omega
  refine lv_aload_n hx hb dX2_hasRoom_37 rfl (lv_at hl 1 rfl) ?_
  refine lv_aload_n hx hb dX2_hasRoom_38 rfl (lv_at hl 1 rfl) ?_
  refine va_get (ci := 1) (v := .ref (ad 1)) (C := RX2) (T := TX2) (N := 6) hx hb hts hinX2 hown hK hP 0 rfl rfl 0 (by decide) hf1 (fun _ h9 => h9) rfl dX2_hasRoom_39 ?_
  refine lv_iload_n hx hb dX2_hasRoom_42 rfl (lv_at hl 0 rfl) ?_
  have hPc := hP.sub (ws' := [((ad 1), .inl (cI, ((σ 6 0).toNatClampNeg, .inl (σ 1))))]) [1] rfl
  have hDc := hD.sub (ws' := [((ad 1), .inl (cI, ((σ 6 0).toNatClampNeg, .inl (σ 1))))]) [1] rfl rfl
  have hFc := va_free (wc := [((ad 1), .inl (cI, ((σ 6 0).toNatClampNeg, .inl (σ 1))))]) hD hS hA [1] rfl
  refine cr_C (W.runS (rest := [.ref (ad 0)]) ⟨hx, hb, hml, hown, hts⟩ (mJ7_copyOf l D cI cZ cB (ad 1) (σ 6 0).toNatClampNeg (σ 1) r (r.toNatClampNeg + 1) (Nat.le_refl _) s.heap.size hn g2 g3 g5 g4) (va_cwS 2 hts gX2_hasRoom_J7_copyOf_59c91 rfl rfl rfl (by decide +kernel) ⟨Nat.le_of_ble_eq_true rfl, Nat.le_of_ble_eq_true rfl⟩) ⟨pW_fb, fun U hU hW => ⟨rfl, by rw [hU], by rw [hU]; exact hPc, va_K.moved hW.alike hK, hDc.weaken (fun _ _ _ _ => trivial)⟩⟩ rfl rfl hl.1 rfl (lv_room (Nat.le_of_ble_eq_true rfl)) dX2_hasRoom_43 ⟨by show _ ≤ res.2; omega, by show _ ≤ res.2; omega⟩) hS (fun q _ h => hFc q h) hFc (fun q1 H1 locs hP1 hD1 hk1 hS => ?_)
  obtain ⟨hP, hD⟩ := va_join (wr := [(ad 0, .inr (1, [.ref (ad 1), .ref (ad 2), .ref (ad 3), .ref (ad 4), .ref (ad 5), .int (σ 0 5)])), ((ad 2), .inl (cI, ((σ 6 0).toNatClampNeg, .inl (σ 2)))), ((ad 3), .inl (cI, ((σ 6 0).toNatClampNeg, .inl (σ 3)))), ((ad 4), .inl (cI, ((σ 6 0).toNatClampNeg, .inl (σ 4)))), (ad 5, .inl (cI, (80, .inl (σ 5))))]) (w1 := [((ad 1), .inl (cI, ((σ 6 0).toNatClampNeg, .inl (σ 1)))), (q1, .inl (cI, (r.toNatClampNeg, .inl (gcp (σ 1) (σ 6 0).toNatClampNeg))))]) hP hD [1] [0, 2, 3, 4, 5] rfl rfl rfl (by decide) hk1 hFc hP1 hD1
  generalize H1 = H at hP hS ⊢
  have hP := hP.sub (ws' := [(ad 0, .inr (1, [.ref (ad 1), .ref (ad 2), .ref (ad 3), .ref (ad 4), .ref (ad 5), .int (σ 0 5)])), ((ad 1), .inl (cI, ((σ 6 0).toNatClampNeg, .inl (σ 1)))), ((ad 2), .inl (cI, ((σ 6 0).toNatClampNeg, .inl (σ 2)))), ((ad 3), .inl (cI, ((σ 6 0).toNatClampNeg, .inl (σ 3)))), ((ad 4), .inl (cI, ((σ 6 0).toNatClampNeg, .inl (σ 4)))), (ad 5, .inl (cI, (80, .inl (σ 5)))), (q1, .inl (cI, (r.toNatClampNeg, .inl (gcp (σ 1) (σ 6 0).toNatClampNeg))))]) [0, 5, 1, 2, 3, 4, 6] rfl
  have hD := hD.sub (ws' := [(ad 0, .inr (1, [.ref (ad 1), .ref (ad 2), .ref (ad 3), .ref (ad 4), .ref (ad 5), .int (σ 0 5)])), ((ad 1), .inl (cI, ((σ 6 0).toNatClampNeg, .inl (σ 1)))), ((ad 2), .inl (cI, ((σ 6 0).toNatClampNeg, .inl (σ 2)))), ((ad 3), .inl (cI, ((σ 6 0).toNatClampNeg, .inl (σ 3)))), ((ad 4), .inl (cI, ((σ 6 0).toNatClampNeg, .inl (σ 4)))), (ad 5, .inl (cI, (80, .inl (σ 5)))), (q1, .inl (cI, (r.toNatClampNeg, .inl (gcp (σ 1) (σ 6 0).toNatClampNeg))))]) [0, 5, 1, 2, 3, 4, 6] rfl rfl
  refine va_put (ci := 1) (v := .ref q1) (ty := .array .int) (C := RX2) (T := TX2) (N := 6) hx hb hts hinX2 tyX2 tyX2_ok nmX2 hown hK hP hD hS 0 rfl rfl 0 (by decide) hf1 (fun _ h9 => h9) rfl (by decide +kernel) rfl rfl (Nat.le_of_ble_eq_true rfl) dX2_hasRoom_46 (fun H locs hP hD hS => ?_)
  have hP := hP.sub (ws' := [(ad 0, .inr (1, [.ref q1, .ref (ad 2), .ref (ad 3), .ref (ad 4), .ref (ad 5), .int (σ 0 5)])), (q1, .inl (cI, (r.toNatClampNeg, .inl (gcp (σ 1) (σ 6 0).toNatClampNeg)))), ((ad 2), .inl (cI, ((σ 6 0).toNatClampNeg, .inl (σ 2)))), ((ad 3), .inl (cI, ((σ 6 0).toNatClampNeg, .inl (σ 3)))), ((ad 4), .inl (cI, ((σ 6 0).toNatClampNeg, .inl (σ 4)))), (ad 5, .inl (cI, (80, .inl (σ 5))))]) [0, 6, 2, 3, 4, 5] rfl
  have hD := hD.sub (ws' := [(ad 0, .inr (1, [.ref q1, .ref (ad 2), .ref (ad 3), .ref (ad 4), .ref (ad 5), .int (σ 0 5)])), (q1, .inl (cI, (r.toNatClampNeg, .inl (gcp (σ 1) (σ 6 0).toNatClampNeg)))), ((ad 2), .inl (cI, ((σ 6 0).toNatClampNeg, .inl (σ 2)))), ((ad 3), .inl (cI, ((σ 6 0).toNatClampNeg, .inl (σ 3)))), ((ad 4), .inl (cI, ((σ 6 0).toNatClampNeg, .inl (σ 4)))), (ad 5, .inl (cI, (80, .inl (σ 5))))]) [0, 6, 2, 3, 4, 5] rfl rfl
  refine lv_aload_n hx hb dX2_hasRoom_49 rfl (lv_at hl 1 rfl) ?_
  refine lv_aload_n hx hb dX2_hasRoom_50 rfl (lv_at hl 1 rfl) ?_
  refine va_get (ci := 1) (v := .ref (ad 2)) (C := RX2) (T := TX2) (N := 6) hx hb hts hinX2 hown hK hP 0 rfl rfl 1 (by decide) hf2 (fun _ h9 => h9) rfl dX2_hasRoom_51 ?_
  refine lv_iload_n hx hb dX2_hasRoom_54 rfl (lv_at hl 0 rfl) ?_
  have hPc := hP.sub (ws' := [((ad 2), .inl (cI, ((σ 6 0).toNatClampNeg, .inl (σ 2))))]) [2] rfl
  have hDc := hD.sub (ws' := [((ad 2), .inl (cI, ((σ 6 0).toNatClampNeg, .inl (σ 2))))]) [2] rfl rfl
  have hFc := va_free (wc := [((ad 2), .inl (cI, ((σ 6 0).toNatClampNeg, .inl (σ 2))))]) hD hS hA [2] rfl
  refine cr_C (W.runS (rest := [.ref (ad 0)]) ⟨hx, hb, hml, hown, hts⟩ (mJ7_copyOf l D cI cZ cB (ad 2) (σ 6 0).toNatClampNeg (σ 2) r (r.toNatClampNeg + 1) (Nat.le_refl _) H.size hn g2 g3 g5 g4) (va_cwS 2 hts gX2_hasRoom_J7_copyOf_59c91 rfl rfl rfl (by decide +kernel) ⟨Nat.le_of_ble_eq_true rfl, Nat.le_of_ble_eq_true rfl⟩) ⟨pW_fb, fun U hU hW => ⟨rfl, by rw [hU], by rw [hU]; exact hPc, va_K.moved hW.alike hK, hDc.weaken (fun _ _ _ _ => trivial)⟩⟩ rfl rfl hl.1 rfl (lv_room (Nat.le_of_ble_eq_true rfl)) dX2_hasRoom_55 ⟨by show _ ≤ res.2; omega, by show _ ≤ res.2; omega⟩) hS (fun q _ h => hFc q h) hFc (fun q2 H1 locs hP1 hD1 hk1 hS => ?_)
  obtain ⟨hP, hD⟩ := va_join (wr := [(ad 0, .inr (1, [.ref q1, .ref (ad 2), .ref (ad 3), .ref (ad 4), .ref (ad 5), .int (σ 0 5)])), (q1, .inl (cI, (r.toNatClampNeg, .inl (gcp (σ 1) (σ 6 0).toNatClampNeg)))), ((ad 3), .inl (cI, ((σ 6 0).toNatClampNeg, .inl (σ 3)))), ((ad 4), .inl (cI, ((σ 6 0).toNatClampNeg, .inl (σ 4)))), (ad 5, .inl (cI, (80, .inl (σ 5))))]) (w1 := [((ad 2), .inl (cI, ((σ 6 0).toNatClampNeg, .inl (σ 2)))), (q2, .inl (cI, (r.toNatClampNeg, .inl (gcp (σ 2) (σ 6 0).toNatClampNeg))))]) hP hD [2] [0, 1, 3, 4, 5] rfl rfl rfl (by decide) hk1 hFc hP1 hD1
  generalize H1 = H at hP hS ⊢
  have hP := hP.sub (ws' := [(ad 0, .inr (1, [.ref q1, .ref (ad 2), .ref (ad 3), .ref (ad 4), .ref (ad 5), .int (σ 0 5)])), (q1, .inl (cI, (r.toNatClampNeg, .inl (gcp (σ 1) (σ 6 0).toNatClampNeg)))), ((ad 2), .inl (cI, ((σ 6 0).toNatClampNeg, .inl (σ 2)))), ((ad 3), .inl (cI, ((σ 6 0).toNatClampNeg, .inl (σ 3)))), ((ad 4), .inl (cI, ((σ 6 0).toNatClampNeg, .inl (σ 4)))), (ad 5, .inl (cI, (80, .inl (σ 5)))), (q2, .inl (cI, (r.toNatClampNeg, .inl (gcp (σ 2) (σ 6 0).toNatClampNeg))))]) [0, 1, 5, 2, 3, 4, 6] rfl
  have hD := hD.sub (ws' := [(ad 0, .inr (1, [.ref q1, .ref (ad 2), .ref (ad 3), .ref (ad 4), .ref (ad 5), .int (σ 0 5)])), (q1, .inl (cI, (r.toNatClampNeg, .inl (gcp (σ 1) (σ 6 0).toNatClampNeg)))), ((ad 2), .inl (cI, ((σ 6 0).toNatClampNeg, .inl (σ 2)))), ((ad 3), .inl (cI, ((σ 6 0).toNatClampNeg, .inl (σ 3)))), ((ad 4), .inl (cI, ((σ 6 0).toNatClampNeg, .inl (σ 4)))), (ad 5, .inl (cI, (80, .inl (σ 5)))), (q2, .inl (cI, (r.toNatClampNeg, .inl (gcp (σ 2) (σ 6 0).toNatClampNeg))))]) [0, 1, 5, 2, 3, 4, 6] rfl rfl
  refine va_put (ci := 1) (v := .ref q2) (ty := .array .int) (C := RX2) (T := TX2) (N := 6) hx hb hts hinX2 tyX2 tyX2_ok nmX2 hown hK hP hD hS 0 rfl rfl 1 (by decide) hf2 (fun _ h9 => h9) rfl (by decide +kernel) rfl rfl (Nat.le_of_ble_eq_true rfl) dX2_hasRoom_58 (fun H locs hP hD hS => ?_)
  have hP := hP.sub (ws' := [(ad 0, .inr (1, [.ref q1, .ref q2, .ref (ad 3), .ref (ad 4), .ref (ad 5), .int (σ 0 5)])), (q1, .inl (cI, (r.toNatClampNeg, .inl (gcp (σ 1) (σ 6 0).toNatClampNeg)))), (q2, .inl (cI, (r.toNatClampNeg, .inl (gcp (σ 2) (σ 6 0).toNatClampNeg)))), ((ad 3), .inl (cI, ((σ 6 0).toNatClampNeg, .inl (σ 3)))), ((ad 4), .inl (cI, ((σ 6 0).toNatClampNeg, .inl (σ 4)))), (ad 5, .inl (cI, (80, .inl (σ 5))))]) [0, 1, 6, 3, 4, 5] rfl
  have hD := hD.sub (ws' := [(ad 0, .inr (1, [.ref q1, .ref q2, .ref (ad 3), .ref (ad 4), .ref (ad 5), .int (σ 0 5)])), (q1, .inl (cI, (r.toNatClampNeg, .inl (gcp (σ 1) (σ 6 0).toNatClampNeg)))), (q2, .inl (cI, (r.toNatClampNeg, .inl (gcp (σ 2) (σ 6 0).toNatClampNeg)))), ((ad 3), .inl (cI, ((σ 6 0).toNatClampNeg, .inl (σ 3)))), ((ad 4), .inl (cI, ((σ 6 0).toNatClampNeg, .inl (σ 4)))), (ad 5, .inl (cI, (80, .inl (σ 5))))]) [0, 1, 6, 3, 4, 5] rfl rfl
  refine lv_aload_n hx hb dX2_hasRoom_61 rfl (lv_at hl 1 rfl) ?_
  refine lv_aload_n hx hb dX2_hasRoom_62 rfl (lv_at hl 1 rfl) ?_
  refine va_get (ci := 1) (v := .ref (ad 3)) (C := RX2) (T := TX2) (N := 6) hx hb hts hinX2 hown hK hP 0 rfl rfl 2 (by decide) hf3 (fun _ h9 => h9) rfl dX2_hasRoom_63 ?_
  refine lv_iload_n hx hb dX2_hasRoom_66 rfl (lv_at hl 0 rfl) ?_
  have hPc := hP.sub (ws' := [((ad 3), .inl (cI, ((σ 6 0).toNatClampNeg, .inl (σ 3))))]) [3] rfl
  have hDc := hD.sub (ws' := [((ad 3), .inl (cI, ((σ 6 0).toNatClampNeg, .inl (σ 3))))]) [3] rfl rfl
  have hFc := va_free (wc := [((ad 3), .inl (cI, ((σ 6 0).toNatClampNeg, .inl (σ 3))))]) hD hS hA [3] rfl
  refine cr_C (W.runS (rest := [.ref (ad 0)]) ⟨hx, hb, hml, hown, hts⟩ (mJ7_copyOf l D cI cZ cB (ad 3) (σ 6 0).toNatClampNeg (σ 3) r (r.toNatClampNeg + 1) (Nat.le_refl _) H.size hn g2 g3 g5 g4) (va_cwS 2 hts gX2_hasRoom_J7_copyOf_59c91 rfl rfl rfl (by decide +kernel) ⟨Nat.le_of_ble_eq_true rfl, Nat.le_of_ble_eq_true rfl⟩) ⟨pW_fb, fun U hU hW => ⟨rfl, by rw [hU], by rw [hU]; exact hPc, va_K.moved hW.alike hK, hDc.weaken (fun _ _ _ _ => trivial)⟩⟩ rfl rfl hl.1 rfl (lv_room (Nat.le_of_ble_eq_true rfl)) dX2_hasRoom_67 ⟨by show _ ≤ res.2; omega, by show _ ≤ res.2; omega⟩) hS (fun q _ h => hFc q h) hFc (fun q3 H1 locs hP1 hD1 hk1 hS => ?_)
  obtain ⟨hP, hD⟩ := va_join (wr := [(ad 0, .inr (1, [.ref q1, .ref q2, .ref (ad 3), .ref (ad 4), .ref (ad 5), .int (σ 0 5)])), (q1, .inl (cI, (r.toNatClampNeg, .inl (gcp (σ 1) (σ 6 0).toNatClampNeg)))), (q2, .inl (cI, (r.toNatClampNeg, .inl (gcp (σ 2) (σ 6 0).toNatClampNeg)))), ((ad 4), .inl (cI, ((σ 6 0).toNatClampNeg, .inl (σ 4)))), (ad 5, .inl (cI, (80, .inl (σ 5))))]) (w1 := [((ad 3), .inl (cI, ((σ 6 0).toNatClampNeg, .inl (σ 3)))), (q3, .inl (cI, (r.toNatClampNeg, .inl (gcp (σ 3) (σ 6 0).toNatClampNeg))))]) hP hD [3] [0, 1, 2, 4, 5] rfl rfl rfl (by decide) hk1 hFc hP1 hD1
  generalize H1 = H at hP hS ⊢
  have hP := hP.sub (ws' := [(ad 0, .inr (1, [.ref q1, .ref q2, .ref (ad 3), .ref (ad 4), .ref (ad 5), .int (σ 0 5)])), (q1, .inl (cI, (r.toNatClampNeg, .inl (gcp (σ 1) (σ 6 0).toNatClampNeg)))), (q2, .inl (cI, (r.toNatClampNeg, .inl (gcp (σ 2) (σ 6 0).toNatClampNeg)))), ((ad 3), .inl (cI, ((σ 6 0).toNatClampNeg, .inl (σ 3)))), ((ad 4), .inl (cI, ((σ 6 0).toNatClampNeg, .inl (σ 4)))), (ad 5, .inl (cI, (80, .inl (σ 5)))), (q3, .inl (cI, (r.toNatClampNeg, .inl (gcp (σ 3) (σ 6 0).toNatClampNeg))))]) [0, 1, 2, 5, 3, 4, 6] rfl
  have hD := hD.sub (ws' := [(ad 0, .inr (1, [.ref q1, .ref q2, .ref (ad 3), .ref (ad 4), .ref (ad 5), .int (σ 0 5)])), (q1, .inl (cI, (r.toNatClampNeg, .inl (gcp (σ 1) (σ 6 0).toNatClampNeg)))), (q2, .inl (cI, (r.toNatClampNeg, .inl (gcp (σ 2) (σ 6 0).toNatClampNeg)))), ((ad 3), .inl (cI, ((σ 6 0).toNatClampNeg, .inl (σ 3)))), ((ad 4), .inl (cI, ((σ 6 0).toNatClampNeg, .inl (σ 4)))), (ad 5, .inl (cI, (80, .inl (σ 5)))), (q3, .inl (cI, (r.toNatClampNeg, .inl (gcp (σ 3) (σ 6 0).toNatClampNeg))))]) [0, 1, 2, 5, 3, 4, 6] rfl rfl
  refine va_put (ci := 1) (v := .ref q3) (ty := .array .int) (C := RX2) (T := TX2) (N := 6) hx hb hts hinX2 tyX2 tyX2_ok nmX2 hown hK hP hD hS 0 rfl rfl 2 (by decide) hf3 (fun _ h9 => h9) rfl (by decide +kernel) rfl rfl (Nat.le_of_ble_eq_true rfl) dX2_hasRoom_70 (fun H locs hP hD hS => ?_)
  have hP := hP.sub (ws' := [(ad 0, .inr (1, [.ref q1, .ref q2, .ref q3, .ref (ad 4), .ref (ad 5), .int (σ 0 5)])), (q1, .inl (cI, (r.toNatClampNeg, .inl (gcp (σ 1) (σ 6 0).toNatClampNeg)))), (q2, .inl (cI, (r.toNatClampNeg, .inl (gcp (σ 2) (σ 6 0).toNatClampNeg)))), (q3, .inl (cI, (r.toNatClampNeg, .inl (gcp (σ 3) (σ 6 0).toNatClampNeg)))), ((ad 4), .inl (cI, ((σ 6 0).toNatClampNeg, .inl (σ 4)))), (ad 5, .inl (cI, (80, .inl (σ 5))))]) [0, 1, 2, 6, 4, 5] rfl
  have hD := hD.sub (ws' := [(ad 0, .inr (1, [.ref q1, .ref q2, .ref q3, .ref (ad 4), .ref (ad 5), .int (σ 0 5)])), (q1, .inl (cI, (r.toNatClampNeg, .inl (gcp (σ 1) (σ 6 0).toNatClampNeg)))), (q2, .inl (cI, (r.toNatClampNeg, .inl (gcp (σ 2) (σ 6 0).toNatClampNeg)))), (q3, .inl (cI, (r.toNatClampNeg, .inl (gcp (σ 3) (σ 6 0).toNatClampNeg)))), ((ad 4), .inl (cI, ((σ 6 0).toNatClampNeg, .inl (σ 4)))), (ad 5, .inl (cI, (80, .inl (σ 5))))]) [0, 1, 2, 6, 4, 5] rfl rfl
  refine lv_aload_n hx hb dX2_hasRoom_73 rfl (lv_at hl 1 rfl) ?_
  refine lv_aload_n hx hb dX2_hasRoom_74 rfl (lv_at hl 1 rfl) ?_
  refine va_get (ci := 1) (v := .ref (ad 4)) (C := RX2) (T := TX2) (N := 6) hx hb hts hinX2 hown hK hP 0 rfl rfl 3 (by decide) hf4 (fun _ h9 => h9) rfl dX2_hasRoom_75 ?_
  refine lv_iload_n hx hb dX2_hasRoom_78 rfl (lv_at hl 0 rfl) ?_
  have hPc := hP.sub (ws' := [((ad 4), .inl (cI, ((σ 6 0).toNatClampNeg, .inl (σ 4))))]) [4] rfl
  have hDc := hD.sub (ws' := [((ad 4), .inl (cI, ((σ 6 0).toNatClampNeg, .inl (σ 4))))]) [4] rfl rfl
  have hFc := va_free (wc := [((ad 4), .inl (cI, ((σ 6 0).toNatClampNeg, .inl (σ 4))))]) hD hS hA [4] rfl
  refine cr_C (W.runS (rest := [.ref (ad 0)]) ⟨hx, hb, hml, hown, hts⟩ (mJ7_copyOf l D cI cZ cB (ad 4) (σ 6 0).toNatClampNeg (σ 4) r (r.toNatClampNeg + 1) (Nat.le_refl _) H.size hn g2 g3 g5 g4) (va_cwS 2 hts gX2_hasRoom_J7_copyOf_59c91 rfl rfl rfl (by decide +kernel) ⟨Nat.le_of_ble_eq_true rfl, Nat.le_of_ble_eq_true rfl⟩) ⟨pW_fb, fun U hU hW => ⟨rfl, by rw [hU], by rw [hU]; exact hPc, va_K.moved hW.alike hK, hDc.weaken (fun _ _ _ _ => trivial)⟩⟩ rfl rfl hl.1 rfl (lv_room (Nat.le_of_ble_eq_true rfl)) dX2_hasRoom_79 ⟨by show _ ≤ res.2; omega, by show _ ≤ res.2; omega⟩) hS (fun q _ h => hFc q h) hFc (fun q4 H1 locs hP1 hD1 hk1 hS => ?_)
  obtain ⟨hP, hD⟩ := va_join (wr := [(ad 0, .inr (1, [.ref q1, .ref q2, .ref q3, .ref (ad 4), .ref (ad 5), .int (σ 0 5)])), (q1, .inl (cI, (r.toNatClampNeg, .inl (gcp (σ 1) (σ 6 0).toNatClampNeg)))), (q2, .inl (cI, (r.toNatClampNeg, .inl (gcp (σ 2) (σ 6 0).toNatClampNeg)))), (q3, .inl (cI, (r.toNatClampNeg, .inl (gcp (σ 3) (σ 6 0).toNatClampNeg)))), (ad 5, .inl (cI, (80, .inl (σ 5))))]) (w1 := [((ad 4), .inl (cI, ((σ 6 0).toNatClampNeg, .inl (σ 4)))), (q4, .inl (cI, (r.toNatClampNeg, .inl (gcp (σ 4) (σ 6 0).toNatClampNeg))))]) hP hD [4] [0, 1, 2, 3, 5] rfl rfl rfl (by decide) hk1 hFc hP1 hD1
  generalize H1 = H at hP hS ⊢
  have hP := hP.sub (ws' := [(ad 0, .inr (1, [.ref q1, .ref q2, .ref q3, .ref (ad 4), .ref (ad 5), .int (σ 0 5)])), (q1, .inl (cI, (r.toNatClampNeg, .inl (gcp (σ 1) (σ 6 0).toNatClampNeg)))), (q2, .inl (cI, (r.toNatClampNeg, .inl (gcp (σ 2) (σ 6 0).toNatClampNeg)))), (q3, .inl (cI, (r.toNatClampNeg, .inl (gcp (σ 3) (σ 6 0).toNatClampNeg)))), ((ad 4), .inl (cI, ((σ 6 0).toNatClampNeg, .inl (σ 4)))), (ad 5, .inl (cI, (80, .inl (σ 5)))), (q4, .inl (cI, (r.toNatClampNeg, .inl (gcp (σ 4) (σ 6 0).toNatClampNeg))))]) [0, 1, 2, 3, 5, 4, 6] rfl
  have hD := hD.sub (ws' := [(ad 0, .inr (1, [.ref q1, .ref q2, .ref q3, .ref (ad 4), .ref (ad 5), .int (σ 0 5)])), (q1, .inl (cI, (r.toNatClampNeg, .inl (gcp (σ 1) (σ 6 0).toNatClampNeg)))), (q2, .inl (cI, (r.toNatClampNeg, .inl (gcp (σ 2) (σ 6 0).toNatClampNeg)))), (q3, .inl (cI, (r.toNatClampNeg, .inl (gcp (σ 3) (σ 6 0).toNatClampNeg)))), ((ad 4), .inl (cI, ((σ 6 0).toNatClampNeg, .inl (σ 4)))), (ad 5, .inl (cI, (80, .inl (σ 5)))), (q4, .inl (cI, (r.toNatClampNeg, .inl (gcp (σ 4) (σ 6 0).toNatClampNeg))))]) [0, 1, 2, 3, 5, 4, 6] rfl rfl
  refine va_put (ci := 1) (v := .ref q4) (ty := .array .int) (C := RX2) (T := TX2) (N := 6) hx hb hts hinX2 tyX2 tyX2_ok nmX2 hown hK hP hD hS 0 rfl rfl 3 (by decide) hf4 (fun _ h9 => h9) rfl (by decide +kernel) rfl rfl (Nat.le_of_ble_eq_true rfl) dX2_hasRoom_82 (fun H locs hP hD hS => ?_)
  have hP := hP.sub (ws' := [(ad 0, .inr (1, [.ref q1, .ref q2, .ref q3, .ref q4, .ref (ad 5), .int (σ 0 5)])), (q1, .inl (cI, (r.toNatClampNeg, .inl (gcp (σ 1) (σ 6 0).toNatClampNeg)))), (q2, .inl (cI, (r.toNatClampNeg, .inl (gcp (σ 2) (σ 6 0).toNatClampNeg)))), (q3, .inl (cI, (r.toNatClampNeg, .inl (gcp (σ 3) (σ 6 0).toNatClampNeg)))), (q4, .inl (cI, (r.toNatClampNeg, .inl (gcp (σ 4) (σ 6 0).toNatClampNeg)))), (ad 5, .inl (cI, (80, .inl (σ 5))))]) [0, 1, 2, 3, 6, 5] rfl
  have hD := hD.sub (ws' := [(ad 0, .inr (1, [.ref q1, .ref q2, .ref q3, .ref q4, .ref (ad 5), .int (σ 0 5)])), (q1, .inl (cI, (r.toNatClampNeg, .inl (gcp (σ 1) (σ 6 0).toNatClampNeg)))), (q2, .inl (cI, (r.toNatClampNeg, .inl (gcp (σ 2) (σ 6 0).toNatClampNeg)))), (q3, .inl (cI, (r.toNatClampNeg, .inl (gcp (σ 3) (σ 6 0).toNatClampNeg)))), (q4, .inl (cI, (r.toNatClampNeg, .inl (gcp (σ 4) (σ 6 0).toNatClampNeg)))), (ad 5, .inl (cI, (80, .inl (σ 5))))]) [0, 1, 2, 3, 6, 5] rfl rfl
  refine lv_iconst (v := 1) hx hb dX2_hasRoom_85 (by decide) ?_
  refine hR (some (.int 1)) (fun i => ([q1, q2, q3, q4] : List Nat).getD i 0) [(ad 0, .inr (1, [.ref q1, .ref q2, .ref q3, .ref q4, .ref (ad 5), .int (σ 0 5)])), (q1, .inl (cI, (r.toNatClampNeg, .inl (gcp (σ 1) (σ 6 0).toNatClampNeg)))), (q2, .inl (cI, (r.toNatClampNeg, .inl (gcp (σ 2) (σ 6 0).toNatClampNeg)))), (q3, .inl (cI, (r.toNatClampNeg, .inl (gcp (σ 3) (σ 6 0).toNatClampNeg)))), (q4, .inl (cI, (r.toNatClampNeg, .inl (gcp (σ 4) (σ 6 0).toNatClampNeg)))), (ad 5, .inl (cI, (80, .inl (σ 5))))] _ _ _ _ _ (by rw [← eres]) ?_ nb1 dX2_hasRoom_86 hP hD hS (by omega)
  rw [← eres, eσ1]
  rfl
set_option maxHeartbeats 4000000 in
set_option maxRecDepth 100000 in
theorem mX2_hasRoom (l : Launch) (D : va_G) (cI cZ cB : ClassId) (ad : Nat → Nat) (σ : Mem) (sz : Nat) (res : (Int32 × Mem) × Nat) (h : X2_hasRoom σ = some res) : Met l yX2_hasRoom wsX2_hasRoom (rmX2_hasRoom res.2) (pW D cI cZ cB (wdX2 cI cZ cB ad σ) sz [.ref (ad 0)]) (qG D (some (.int res.1.1)) (fun adv => wdX2 cI cZ cB (mg ad LH adv) res.1.2) (va_A (wdX2 cI cZ cB ad σ) sz)) res.2 res.2 (va_A (wdX2 cI cZ cB ad σ) sz) := (bX2_hasRoom l D cI cZ cB ad σ res h).met (by decide +kernel) rfl (Nat.le_of_ble_eq_true rfl)
