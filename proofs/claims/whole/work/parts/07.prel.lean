/-! own words: memories, worlds, combinators, calls -/
abbrev Mem : Type := Nat → Nat → Int32
def upc (σ : Mem) (c : Nat) (f : Nat → Int32) : Mem := fun c' => cond (Nat.beq c' c) f (σ c')
def up (σ : Mem) (c j : Nat) (v : Int32) : Mem := upc σ c (upd (σ c) j v)
def mp {α : Type} (σ : Nat → α) (l : List Nat) : Nat → α := fun c => σ (l.getD c 0)
def mgA {α : Type} : List Nat → Nat → (Nat → α) → α → Nat → α
  | [], _, _, d, _ => d
  | a :: l, i, τ, d, c => cond (Nat.beq c a) (τ i) (mgA l (i + 1) τ d c)
def mg {α : Type} (σ : Nat → α) (l : List Nat) (τ : Nat → α) : Nat → α := fun c => mgA l 0 τ (σ c) c
theorem upc_s (σ : Mem) (c : Nat) (f : Nat → Int32) : upc σ c f c = f := by simp [upc]
theorem upc_n (σ : Mem) {c c' : Nat} (f : Nat → Int32) (h : c' ≠ c) : upc σ c f c' = σ c' := by
  cases hb : Nat.beq c' c with
  | true => exact absurd (Nat.eq_of_beq_eq_true hb) h
  | false => simp [upc, hb]
/-- in range, or nothing -/
def gd {β : Type} (i : Int32) (n : Nat) (x : Option β) : Option β := if i < 0 ∨ n ≤ i.toNatClampNeg then none else x
theorem gd_e {β : Type} {i : Int32} {n : Nat} {x : Option β} {r : β} (h : gd i n x = some r) : vp_in i n ∧ x = some r := by
  unfold gd at h
  by_cases q : i < 0 ∨ n ≤ i.toNatClampNeg
  · rw [if_pos q] at h; cases h
  · rw [if_neg q] at h; exact ⟨q, h⟩
theorem gd_i {β : Type} {i : Int32} {n : Nat} {x : Option β} (h : vp_in i n) : gd i n x = x := if_neg h
/-- not zero, or nothing -/
def gz {β : Type} (y : Int32) (x : Option β) : Option β := if y = 0 then none else x
theorem gz_e {β : Type} {y : Int32} {x : Option β} {r : β} (h : gz y x = some r) : ¬ y = 0 ∧ x = some r := by
  unfold gz at h
  by_cases q : y = 0
  · rw [if_pos q] at h; cases h
  · rw [if_neg q] at h; exact ⟨q, h⟩
/-- a condition, or nothing -/
def gp {β : Type} (c : Prop) [Decidable c] (x : Option β) : Option β := if c then x else none
theorem gp_e {β : Type} {c : Prop} [Decidable c] {x : Option β} {r : β} (h : gp c x = some r) : c ∧ x = some r := by
  unfold gp at h
  by_cases q : c
  · rw [if_pos q] at h; exact ⟨q, h⟩
  · rw [if_neg q] at h; cases h
def lt {α : Type} {β : Type} (x : α) (f : α → β) : β := f x
theorem lt_e {α β : Type} {x : α} {f : α → Option β} {r : β} (h : lt x f = some r) : ∃ y, y = x ∧ f y = some r := ⟨x, rfl, h⟩
def bd {α β : Type} (x : Option α) (f : α → Option β) : Option β := match x with
  | none => none
  | some a => f a
theorem bd_e {α β : Type} {x : Option α} {f : α → Option β} {r : β} (h : bd x f = some r) : ∃ y, x = some y ∧ f y = some r := by
  cases x with
  | none => cases h
  | some a => exact ⟨a, rfl, h⟩
theorem bd_s {α β : Type} (a : α) (f : α → Option β) : bd (some a) f = f a := rfl
theorem ite_t {α : Type} {c : Prop} [Decidable c] {x y z : α} (hc : c) (h : (if c then x else y) = z) : x = z := (if_pos hc).symm.trans h
theorem ite_f {α : Type} {c : Prop} [Decidable c] {x y z : α} (hc : ¬ c) (h : (if c then x else y) = z) : y = z := (if_neg hc).symm.trans h
/-- the fuel of every loop -/
def FU : Nat := 1000000
-- worlds with some places put anew
def rep (ws : va_W) : List Nat → va_W → va_W
  | k :: l, q :: w => rep (ws.set k q) l w
  | _, _ => ws
theorem rep_at : ∀ (l : List Nat) (w ws : va_W) (k : Nat) (q : Nat × va_E), l.length = w.length → (rep ws l w)[k]? = some q → q ∈ w ∨ (k ∉ l ∧ ws[k]? = some q) := by
  intro l
  induction l with
  | nil =>
    intro w ws k q _ h
    have h1 : rep ws [] w = ws := by unfold rep; rfl
    rw [h1] at h
    exact Or.inr ⟨List.not_mem_nil, h⟩
  | cons a l ih =>
    intro w ws k q hl h
    cases w with
    | nil => simp at hl
    | cons b w =>
      have h1 : rep ws (a :: l) (b :: w) = rep (ws.set a b) l w := rfl
      rw [h1] at h
      rcases ih w (ws.set a b) k q (by simpa using hl) h with h2 | ⟨h2, h3⟩
      · exact Or.inl (List.mem_cons_of_mem _ h2)
      · by_cases hk : a = k
        · subst hk
          rw [List.getElem?_set] at h3
          split at h3
          · split at h3
            · cases h3; exact Or.inl List.mem_cons_self
            · cases h3
          · rename_i hne; exact absurd rfl hne
        · rw [List.getElem?_set_ne hk] at h3
          exact Or.inr ⟨fun hm => (List.mem_cons.mp hm).elim (fun e => hk e.symm) h2, h3⟩
theorem rep_P {D : va_G} {cl : List vw_C} {ws wc w1 ws' : va_W} {H H1 : Heap} {A0 : Nat → Prop} {l : List Nat} (hP : va_P D cl ws H) (hD : va_D A0 ws) (hC : l.map (fun i => ws[i]?) = wc.map some) (hk : ∀ q : Nat, q < H.size → ¬ va_A wc H.size q → H1[q]? = H[q]?) (hP1 : va_P D cl w1 H1) (hl : l.length = w1.length) (hr : ws' = rep ws l w1) : va_P D cl ws' H1 := by
  intro k q hq
  rw [hr] at hq
  rcases rep_at l w1 ws k q hl hq with h | ⟨h1, h2⟩
  · obtain ⟨i, hi⟩ := List.getElem?_of_mem h
    exact hP1 i q hi
  · have hlt := (hP k q h2).lt
    refine (hP k q h2).kept (hk q.1 hlt fun hA => ?_)
    rcases hA with ⟨k2, e, h⟩ | h
    · have h3 : (l.map (fun i => ws[i]?))[k2]? = some (some (q.1, e)) := by rw [hC, List.getElem?_map, h]; rfl
      rw [List.getElem?_map] at h3
      cases hi : l[k2]? with
      | none => rw [hi] at h3; cases h3
      | some j =>
        rw [hi] at h3
        have h4 : ws[j]? = some (q.1, e) := Option.some.inj h3
        have hkj := hD.1 k j q (q.1, e) h2 h4 rfl
        subst hkj
        exact h1 (List.mem_of_getElem? hi)
    · omega
theorem D_of {A : Nat → Prop} {ws ws' : va_W} (h : ws'.map Prod.fst = ws.map Prod.fst) (hD : va_D A ws) : va_D A ws' := by
  have key : ∀ (i : Nat) (p : Nat × va_E), ws'[i]? = some p → ∃ p', ws[i]? = some p' ∧ p'.1 = p.1 := by
    intro i p hp
    have h1 : (ws'.map Prod.fst)[i]? = some p.1 := by rw [List.getElem?_map, hp]; rfl
    rw [h, List.getElem?_map] at h1
    cases hi : ws[i]? with
    | none => rw [hi] at h1; cases h1
    | some p' => rw [hi] at h1; exact ⟨p', rfl, Option.some.inj h1⟩
  refine ⟨fun i j p q hp hq hpq => ?_, fun k q hq => ?_⟩
  · obtain ⟨p', h1, h2⟩ := key i p hp
    obtain ⟨q', h3, h4⟩ := key j q hq
    exact hD.1 i j p' q' h1 h3 (h2.trans (hpq.trans h4.symm))
  · obtain ⟨q', h1, h2⟩ := key k q hq
    rw [← h2]
    exact hD.2 k q' h1
abbrev wd0 : va_W := []
theorem wd0_P {D : va_G} {cl : List vw_C} {H : Heap} : va_P D cl wd0 H := fun _ _ h => by cases h
theorem nb_of {x : Int32} (h : x = 0 ∨ x = 1) : narrow .boolean (.int x) = .int x := by
  rcases h with rfl | rfl <;> decide
theorem tb_out {x : Int32} (lo hi : Int) (h : ∀ k : Int, lo ≤ k → k ≤ hi → ¬ x = Int32.ofInt k) : x.toInt < lo ∨ hi < x.toInt := by
  by_cases h1 : x.toInt < lo
  · exact Or.inl h1
  · by_cases h2 : hi < x.toInt
    · exact Or.inr h2
    · exact absurd (Int32.ofInt_toInt x).symm (h x.toInt (by omega) (by omega))
theorem tb_in {x : Int32} {lo hi : Int} (h : ¬ (x.toInt < lo ∨ hi < x.toInt)) : ∃ k : Int, lo ≤ k ∧ k ≤ hi ∧ x = Int32.ofInt k :=
  ⟨x.toInt, by omega, by omega, (Int32.ofInt_toInt x).symm⟩
def nar (ret : Option FieldType) (v : Option Value) : Prop := match ret, v with
  | some ty, some x => narrow ty x = x
  | _, _ => True
theorem nb0 : nar (some .boolean) (some (.int 0)) := nb_of (Or.inl rfl)
theorem nb1 : nar (some .boolean) (some (.int 1)) := nb_of (Or.inr rfl)
-- the array classes
abbrev tyA (cI cZ cB : ClassId) : List (ClassId × FieldType) := [(cI, .int), (cZ, .boolean), (cB, .byte)]
-- starts and ends
def pR (D : va_G) (cI cZ cB : ClassId) (ws : va_W) (av : List Value) : Array Value → State → Prop := va_Pc av (fun U => va_P D vwCl ws U.heap ∧ va_K D vwCl (tyA cI cZ cB) U)
def pW (D : va_G) (cI cZ cB : ClassId) (ws : va_W) (sz : Nat) (av : List Value) : Array Value → State → Prop := va_Pc av (fun U => U.heap.size = sz ∧ va_P D vwCl ws U.heap ∧ va_K D vwCl (tyA cI cZ cB) U ∧ va_D (fun _ => True) ws)
def qR (v : Option Value) : Array Value → State → Outcome → State → Prop := fun _ st oc t => oc = .returned v ∧ t.heap = st.heap
def qW (D : va_G) (v : Option Value) (w1 : va_W) (A : Nat → Prop) : Array Value → State → Outcome → State → Prop := fun _ st oc t => oc = .returned v ∧ va_P D vwCl w1 t.heap ∧ va_F A st t
theorem pR_fb {D : va_G} {cI cZ cB : ClassId} {ws : va_W} {av : List Value} : FrameBlind (pR D cI cZ cB ws av) := by
  intro a U g mk q
  obtain ⟨q0, qP, qK⟩ := q
  exact ⟨q0, qP, va_K.moved (u := U) (U := U.calling g mk a) (Vm.Alike.refl U.vm) qK⟩
theorem pW_fb {D : va_G} {cI cZ cB : ClassId} {ws : va_W} {sz : Nat} {av : List Value} : FrameBlind (pW D cI cZ cB ws sz av) := by
  intro a U g mk q
  obtain ⟨q0, q1, qP, qK, qD⟩ := q
  exact ⟨q0, q1, qP, va_K.moved (u := U) (U := U.calling g mk a) (Vm.Alike.refl U.vm) qK, qD⟩
section CR
variable {p : Program} {l : Launch} {e : Env} {R : Room} {s : State} {m : MethodId} {args : Array Value} {below : List Frame} {meth : Method} {c : Code} {H : Heap} {locs : List Loc} {cells slots : Nat} {Q : State → Prop}
variable {pc : Nat} {ls : Array Slot} {rest st0 : List Value} {a : Array Value} {A0 A1 : Nat → Prop} {H0 : Heap} {mc ms : Nat} {free : Addr → Prop}
variable {D : va_G} {cI cZ cB : ClassId} {v : Option Value}
theorem lv_topE {x e1 : Int32} (h : x = e1) (k : W p l e R s m args below meth c H locs cells slots Q (F0 m pc ls (.int x :: rest))) : W p l e R s m args below meth c H locs cells slots Q (F0 m pc ls (.int e1 :: rest)) := h ▸ k
theorem lv_topF {x e1 : Int64} (h : x = e1) (k : W p l e R s m args below meth c H locs cells slots Q (F0 m pc ls (.long x :: rest))) : W p l e R s m args below meth c H locs cells slots Q (F0 m pc ls (.long e1 :: rest)) := h ▸ k
theorem cr_R (hr : CallRun p l e R s m args below meth c H locs cells slots 0 0 (F0 m pc ls st0) rest (qR v a) (fun _ => False))
    (kk : W p l e R s m args below meth c H locs cells slots Q (F0 m (pc + 3) ls (v.toList ++ rest))) : W p l e R s m args below meth c H locs cells slots Q (F0 m pc ls st0) := by
  intro T hT X
  obtain ⟨v', st₀, t, T', L, h0, X', hL, e1, ⟨hv, hh⟩, st⟩ := hr T hT X
  cases hv
  obtain ⟨t2, a1, b1⟩ := kk T' (by rw [e1, hh, h0]) (Stand.forget X' (fun q h => (hL q h).elim))
  exact ⟨t2, st t2 a1, b1⟩
theorem cr_W {w1 : va_W} (hr : CallRun p l e R s m args below meth c H locs cells slots mc ms (F0 m pc ls st0) rest (qW D v w1 A1 a) free) (hS : va_S A0 H0 H locs) (hA : ∀ q, q < H.size → A1 q → A0 q) (hf : ∀ q, free q → A0 q)
    (kk : ∀ (H1 : Heap) (locs1 : List Loc), va_P D vwCl w1 H1 → (∀ q : Nat, q < H.size → ¬ A1 q → H1[q]? = H[q]?) → va_S A0 H0 H1 locs1 → W p l e R s m args below meth c H1 locs1 (cells + mc) (slots + ms) Q (F0 m (pc + 3) ls (v.toList ++ rest))) : W p l e R s m args below meth c H locs cells slots Q (F0 m pc ls st0) := by
  intro T hT X
  obtain ⟨v', st₀, t, T', L, h0, X', hL, e1, ⟨hv, hp, hz, hk⟩, st⟩ := hr T hT X
  cases hv
  rw [h0] at hz hk
  obtain ⟨t2, a1, b1⟩ := kk T'.heap (locs ++ L) (by rw [e1]; exact hp) (fun q h1 h2 => by rw [e1]; exact hk q h1 h2)
    ⟨Nat.le_trans hS.1 (by rw [e1]; exact hz), fun q h1 h2 => by rw [e1, hk q (Nat.lt_of_lt_of_le h1 hS.1) (fun z => h2 (hA q (Nat.lt_of_lt_of_le h1 hS.1) z))]; exact hS.2.1 q h1 h2, fun q hq => by
      rcases List.mem_append.mp hq with h | h
      · exact hS.2.2 q h
      · exact hf _ (hL q h)⟩ T' rfl X'
  exact ⟨t2, st t2 a1, b1⟩
variable {Ts ws' ws'' : List Cond} {cc bytes : ByteArray} {nL maxL index n : Nat} {own C : String} {y : MethodName} {ret : Option FieldType} {rm : Room} {b : Addr} {As : List Value}
/-- a reading method, called on an object -/
theorem cl_RV {wc : va_W} {ci q0 : Nat} {q : vw_C} {fs : List Value} (S : CallFix p m c cc nL s args Ts own) (hM : Met l y ws' rm (pR D cI cZ cB wc (.ref b :: As)) (qR v) 0 0 (fun _ => False)) (cw : CallW R s args own C index y bytes maxL ret ws' rm 0 0 n)
    (hK : va_K D vwCl (tyA cI cZ cB) s) (hP : va_P D vwCl wc H) (hc : vwCl[ci]? = some q) (he : wc[q0]? = some (b, .inr (ci, fs))) (hq : q.1 = C) (hn : As.length = n) (hsize : ls.size = nL) (hstack : st0 = As.reverse ++ .ref b :: rest) (hW : (rest.map fun v => v.category).sum ≤ 8) (hdg : decode cc pc = .ok (.invokevirtual index, 3)) (hf : cells ≤ R.cells ∧ slots ≤ R.slots)
    (kk : W p l e R s m args below meth c H locs cells slots Q (F0 m (pc + 3) ls (v.toList ++ rest))) : W p l e R s m args below meth c H locs cells slots Q (F0 m pc ls st0) := by
  subst hq
  exact cr_R (W.runV S hM cw ⟨pR_fb, va_recv hK hP hc he, fun U hU hW => ⟨rfl, by rw [hU]; exact hP, va_K.moved hW.alike hK⟩⟩ rfl hn hsize hstack (lv_room hW) hdg hf) kk
/-- a reading method, static -/
theorem cl_RS {wc : va_W} (S : CallFix p m c cc nL s args Ts own) (hM : Met l y ws' rm (pR D cI cZ cB wc As) (qR v) 0 0 (fun _ => False)) (cw : CallB R s args own index y bytes maxL ret ws' rm 0 0 n ∧ (Cond.static y).before args s = true)
    (hK : va_K D vwCl (tyA cI cZ cB) s) (hP : va_P D vwCl wc H) (hn : As.length = n) (hsize : ls.size = nL) (hstack : st0 = As.reverse ++ rest) (hW : (rest.map fun v => v.category).sum ≤ 8) (hdg : decode cc pc = .ok (.invokestatic index, 3)) (hf : cells ≤ R.cells ∧ slots ≤ R.slots)
    (kk : W p l e R s m args below meth c H locs cells slots Q (F0 m (pc + 3) ls (v.toList ++ rest))) : W p l e R s m args below meth c H locs cells slots Q (F0 m pc ls st0) :=
  cr_R (W.runS S hM cw ⟨pR_fb, fun U hU hW => ⟨rfl, by rw [hU]; exact hP, va_K.moved hW.alike hK⟩⟩ rfl hn hsize hstack (lv_room hW) hdg hf) kk
/-- a writing method, called on an object -/
theorem cl_WV {ws wc w1 wn : va_W} {lp : List Nat} {ci q0 : Nat} {q : vw_C} {fs : List Value} (S : CallFix p m c cc nL s args Ts own) (hM : Met l y ws' rm (pW D cI cZ cB wc H.size (.ref b :: As)) (qW D v w1 (va_A wc H.size)) mc ms (va_A wc H.size)) (cw : CallW R s args own C index y bytes maxL ret ws' rm mc ms n)
    (hK : va_K D vwCl (tyA cI cZ cB) s) (hP : va_P D vwCl ws H) (hD : va_D A0 ws) (hS : va_S A0 H0 H locs) (hA : ∀ q, H0.size ≤ q → A0 q) (hlp : lp.map (fun i => ws[i]?) = wc.map some) (hnd : va_nd lp = true) (hl1 : lp.length = w1.length) (hwn : wn = rep ws lp w1) (hwa : wn.map Prod.fst = ws.map Prod.fst)
    (hc : vwCl[ci]? = some q) (he : wc[q0]? = some (b, .inr (ci, fs))) (hq : q.1 = C) (hn : As.length = n) (hsize : ls.size = nL) (hstack : st0 = As.reverse ++ .ref b :: rest) (hW : (rest.map fun v => v.category).sum ≤ 8) (hdg : decode cc pc = .ok (.invokevirtual index, 3)) (hf : cells + mc ≤ R.cells ∧ slots + ms ≤ R.slots)
    (kk : ∀ (H1 : Heap) (locs1 : List Loc), va_P D vwCl wn H1 → va_D A0 wn → va_S A0 H0 H1 locs1 → W p l e R s m args below meth c H1 locs1 (cells + mc) (slots + ms) Q (F0 m (pc + 3) ls (v.toList ++ rest))) : W p l e R s m args below meth c H locs cells slots Q (F0 m pc ls st0) := by
  subst hq
  have hPc : va_P D vwCl wc H := fun k q hk => by
    have h1 : (lp.map (fun i => ws[i]?))[k]? = some (some q) := by rw [hlp, List.getElem?_map, hk]; rfl
    rw [List.getElem?_map] at h1
    cases hi : lp[k]? with
    | none => rw [hi] at h1; cases h1
    | some i => rw [hi] at h1; exact hP i q (Option.some.inj h1)
  have hDc : va_D A0 wc := hD.sub lp hnd hlp
  have hFc := va_free hD hS hA lp hlp
  exact cr_W (W.runV S hM cw ⟨pW_fb, va_recv hK hPc hc he, fun U hU hW => ⟨rfl, by rw [hU], by rw [hU]; exact hPc, va_K.moved hW.alike hK, hDc.weaken (fun _ _ _ _ => trivial)⟩⟩ rfl hn hsize hstack (lv_room hW) hdg hf) hS (fun q _ h => hFc q h) hFc
    (fun H1 locs1 hP1 hk hS1 => kk H1 locs1 (rep_P hP hD hlp hk hP1 hl1 hwn) (D_of hwa hD) hS1)
/-- a writing method, static -/
theorem cl_WS {ws wc w1 wn : va_W} {lp : List Nat} (S : CallFix p m c cc nL s args Ts own) (hM : Met l y ws' rm (pW D cI cZ cB wc H.size As) (qW D v w1 (va_A wc H.size)) mc ms (va_A wc H.size)) (cw : CallB R s args own index y bytes maxL ret ws' rm mc ms n ∧ (Cond.static y).before args s = true)
    (hK : va_K D vwCl (tyA cI cZ cB) s) (hP : va_P D vwCl ws H) (hD : va_D A0 ws) (hS : va_S A0 H0 H locs) (hA : ∀ q, H0.size ≤ q → A0 q) (hlp : lp.map (fun i => ws[i]?) = wc.map some) (hnd : va_nd lp = true) (hl1 : lp.length = w1.length) (hwn : wn = rep ws lp w1) (hwa : wn.map Prod.fst = ws.map Prod.fst)
    (hn : As.length = n) (hsize : ls.size = nL) (hstack : st0 = As.reverse ++ rest) (hW : (rest.map fun v => v.category).sum ≤ 8) (hdg : decode cc pc = .ok (.invokestatic index, 3)) (hf : cells + mc ≤ R.cells ∧ slots + ms ≤ R.slots)
    (kk : ∀ (H1 : Heap) (locs1 : List Loc), va_P D vwCl wn H1 → va_D A0 wn → va_S A0 H0 H1 locs1 → W p l e R s m args below meth c H1 locs1 (cells + mc) (slots + ms) Q (F0 m (pc + 3) ls (v.toList ++ rest))) : W p l e R s m args below meth c H locs cells slots Q (F0 m pc ls st0) := by
  have hPc : va_P D vwCl wc H := fun k q hk => by
    have h1 : (lp.map (fun i => ws[i]?))[k]? = some (some q) := by rw [hlp, List.getElem?_map, hk]; rfl
    rw [List.getElem?_map] at h1
    cases hi : lp[k]? with
    | none => rw [hi] at h1; cases h1
    | some i => rw [hi] at h1; exact hP i q (Option.some.inj h1)
  have hDc : va_D A0 wc := hD.sub lp hnd hlp
  have hFc := va_free hD hS hA lp hlp
  exact cr_W (W.runS S hM cw ⟨pW_fb, fun U hU hW => ⟨rfl, by rw [hU], by rw [hU]; exact hPc, va_K.moved hW.alike hK, hDc.weaken (fun _ _ _ _ => trivial)⟩⟩ rfl hn hsize hstack (lv_room hW) hdg hf) hS (fun q _ h => hFc q h) hFc
    (fun H1 locs1 hP1 hk hS1 => kk H1 locs1 (rep_P hP hD hlp hk hP1 hl1 hwn) (D_of hwa hD) hS1)
/-- a writing method that has the whole world, called on an object -/
theorem cl_WVs {ws w1 wn : va_W} {ci q0 : Nat} {q : vw_C} {fs : List Value} (S : CallFix p m c cc nL s args Ts own) (hM : Met l y ws' rm (pW D cI cZ cB ws H.size (.ref b :: As)) (qW D v w1 (va_A ws H.size)) mc ms (va_A ws H.size)) (cw : CallW R s args own C index y bytes maxL ret ws' rm mc ms n)
    (hK : va_K D vwCl (tyA cI cZ cB) s) (hP : va_P D vwCl ws H) (hD : va_D A0 ws) (hS : va_S A0 H0 H locs) (hA : ∀ q, H0.size ≤ q → A0 q) (hwn : wn = w1) (hwa : wn.map Prod.fst = ws.map Prod.fst)
    (hc : vwCl[ci]? = some q) (he : ws[q0]? = some (b, .inr (ci, fs))) (hq : q.1 = C) (hn : As.length = n) (hsize : ls.size = nL) (hstack : st0 = As.reverse ++ .ref b :: rest) (hW : (rest.map fun v => v.category).sum ≤ 8) (hdg : decode cc pc = .ok (.invokevirtual index, 3)) (hf : cells + mc ≤ R.cells ∧ slots + ms ≤ R.slots)
    (kk : ∀ (H1 : Heap) (locs1 : List Loc), va_P D vwCl wn H1 → va_D A0 wn → va_S A0 H0 H1 locs1 → W p l e R s m args below meth c H1 locs1 (cells + mc) (slots + ms) Q (F0 m (pc + 3) ls (v.toList ++ rest))) : W p l e R s m args below meth c H locs cells slots Q (F0 m pc ls st0) := by
  subst hq; subst hwn
  have hFc : ∀ q, va_A ws H.size q → A0 q := fun q h => by
    rcases h with ⟨k, e, h⟩ | h
    · exact hD.2 k (q, e) h
    · exact hA q (Nat.le_trans hS.1 h)
  exact cr_W (W.runV S hM cw ⟨pW_fb, va_recv hK hP hc he, fun U hU hW => ⟨rfl, by rw [hU], by rw [hU]; exact hP, va_K.moved hW.alike hK, hD.weaken (fun _ _ _ _ => trivial)⟩⟩ rfl hn hsize hstack (lv_room hW) hdg hf) hS (fun q _ h => hFc q h) hFc
    (fun H1 locs1 hP1 _ hS1 => kk H1 locs1 hP1 (D_of hwa hD) hS1)
/-- a writing method that has the whole world, static -/
theorem cl_WSs {ws w1 wn : va_W} (S : CallFix p m c cc nL s args Ts own) (hM : Met l y ws' rm (pW D cI cZ cB ws H.size As) (qW D v w1 (va_A ws H.size)) mc ms (va_A ws H.size)) (cw : CallB R s args own index y bytes maxL ret ws' rm mc ms n ∧ (Cond.static y).before args s = true)
    (hK : va_K D vwCl (tyA cI cZ cB) s) (hP : va_P D vwCl ws H) (hD : va_D A0 ws) (hS : va_S A0 H0 H locs) (hA : ∀ q, H0.size ≤ q → A0 q) (hwn : wn = w1) (hwa : wn.map Prod.fst = ws.map Prod.fst)
    (hn : As.length = n) (hsize : ls.size = nL) (hstack : st0 = As.reverse ++ rest) (hW : (rest.map fun v => v.category).sum ≤ 8) (hdg : decode cc pc = .ok (.invokestatic index, 3)) (hf : cells + mc ≤ R.cells ∧ slots + ms ≤ R.slots)
    (kk : ∀ (H1 : Heap) (locs1 : List Loc), va_P D vwCl wn H1 → va_D A0 wn → va_S A0 H0 H1 locs1 → W p l e R s m args below meth c H1 locs1 (cells + mc) (slots + ms) Q (F0 m (pc + 3) ls (v.toList ++ rest))) : W p l e R s m args below meth c H locs cells slots Q (F0 m pc ls st0) := by
  subst hwn
  have hFc : ∀ q, va_A ws H.size q → A0 q := fun q h => by
    rcases h with ⟨k, e, h⟩ | h
    · exact hD.2 k (q, e) h
    · exact hA q (Nat.le_trans hS.1 h)
  exact cr_W (W.runS S hM cw ⟨pW_fb, fun U hU hW => ⟨rfl, by rw [hU], by rw [hU]; exact hP, va_K.moved hW.alike hK, hD.weaken (fun _ _ _ _ => trivial)⟩⟩ rfl hn hsize hstack (lv_room hW) hdg hf) hS (fun q _ h => hFc q h) hFc
    (fun H1 locs1 hP1 _ hS1 => kk H1 locs1 hP1 (D_of hwa hD) hS1)
end CR
/-- a method's body that reads alone -/
def BR (l : Launch) (y : MethodName) (ws : List Cond) (rm : Room) (cc : ByteArray) (maxL : Nat) (ret : Option FieldType) (D : va_G) (cI cZ cB : ClassId) (w : va_W) (av : List Value) (v : Option Value) : Prop :=
  ∀ (p : Program) (e : Env) (s : State) (m : MethodId) (args : Array Value) (below : List Frame) (meth : Method) (c : Code) (ls : Array Slot) (Q : State → Prop), p.tables.exec = Jvm.exec → c.code = cc → c.maxLocals = maxL → (∀ w ∈ ws, w.before args s = true) → s.vm.findClass y.cls = some m.cls →
    va_K D vwCl (tyA cI cZ cB) s → va_P D vwCl w s.heap → lv_has ls maxL (lv_args 0 av) →
    (∀ (v' : Option Value) (pc : Nat) (ls : Array Slot), v' = v → nar ret v' → decode cc pc = .ok (if ret = none then .return_ else .ireturn, 1) → W p l e rm s m args below meth c s.heap [] 0 0 Q (F0 m pc ls v'.toList)) →
    W p l e rm s m args below meth c s.heap [] 0 0 Q (F0 m 0 ls [])
theorem BR.met {l : Launch} {y : MethodName} {ws ws' : List Cond} {rm : Room} {cc : ByteArray} {maxL : Nat} {ty : FieldType} {D : va_G} {cI cZ cB : ClassId} {w : va_W} {av : List Value} {r : Int32} (hy : plainName y.cls = true) (hw : ws = Cond.code y cc maxL (some ty) :: ws') (hlen : (lg_sl av).length ≤ maxL)
    (h : BR l y ws rm cc maxL (some ty) D cI cZ cB w av (some (.int r))) : Met l y ws rm (pR D cI cZ cB w av) (qR (some (.int r))) 0 0 (fun _ => False) := by
  refine Met.ofW (cc := cc) (maxL := maxL) (ret := some ty) hy hw ?_
  intro p e s m args below meth c s₁ B hml hv
  obtain ⟨rfl, hP, hK⟩ := hv
  have hl := lv_entry av hlen
  rw [lg_entry_eq]
  have hlocks := B.notSynchronized
  refine h p e s m _ below meth c _ _ B.exec B.bytes hml (atoms_spec (ws := ws) B.pre) (findClass_of_methodNamed B.named) hK hP hl (fun v' pc ls hv hn hdg => ?_)
  subst hv
  rw [if_neg (by intro z; cases z)] at hdg
  exact W.zret B.exec B.bytes B.returns hn (fun t ht _ => ⟨rfl, ht⟩) (fun q h => by cases h) hdg
theorem BR.metv {l : Launch} {y : MethodName} {ws ws' : List Cond} {rm : Room} {cc : ByteArray} {maxL : Nat} {D : va_G} {cI cZ cB : ClassId} {w : va_W} {av : List Value} (hy : plainName y.cls = true) (hw : ws = Cond.code y cc maxL none :: ws') (hlen : (lg_sl av).length ≤ maxL)
    (h : BR l y ws rm cc maxL none D cI cZ cB w av none) : Met l y ws rm (pR D cI cZ cB w av) (qR none) 0 0 (fun _ => False) := by
  refine Met.ofW (cc := cc) (maxL := maxL) (ret := none) hy hw ?_
  intro p e s m args below meth c s₁ B hml hv
  obtain ⟨rfl, hP, hK⟩ := hv
  have hl := lv_entry av hlen
  rw [lg_entry_eq]
  have hlocks := B.notSynchronized
  refine h p e s m _ below meth c _ _ B.exec B.bytes hml (atoms_spec (ws := ws) B.pre) (findClass_of_methodNamed B.named) hK hP hl (fun v' pc ls hv hn hdg => ?_)
  subst hv
  rw [if_pos rfl] at hdg
  exact W.vret B.exec B.bytes B.returns (fun t ht _ => ⟨rfl, ht⟩) (fun q h => by cases h) hdg
/-- a method's body that writes in its world, and makes no cell -/
def BW (l : Launch) (y : MethodName) (ws : List Cond) (rm : Room) (cc : ByteArray) (maxL : Nat) (ret : Option FieldType) (D : va_G) (cI cZ cB : ClassId) (w : va_W) (av : List Value) (v : Option Value) (w1 : va_W) : Prop :=
  ∀ (p : Program) (e : Env) (s : State) (m : MethodId) (args : Array Value) (below : List Frame) (meth : Method) (c : Code) (ls : Array Slot) (Q : State → Prop) (A : Nat → Prop), p.tables.exec = Jvm.exec → c.code = cc → c.maxLocals = maxL → (∀ w ∈ ws, w.before args s = true) → s.vm.findClass y.cls = some m.cls →
    va_K D vwCl (tyA cI cZ cB) s → (∀ q, s.heap.size ≤ q → A q) → va_P D vwCl w s.heap → va_D A w → va_S A s.heap s.heap [] → lv_has ls maxL (lv_args 0 av) →
    (∀ (v' : Option Value) (w' : va_W) (pc : Nat) (ls : Array Slot) (H : Heap) (locs : List Loc), v' = v → w' = w1 → nar ret v' → decode cc pc = .ok (if ret = none then .return_ else .ireturn, 1) → va_P D vwCl w' H → va_S A s.heap H locs → W p l e rm s m args below meth c H locs 0 0 Q (F0 m pc ls v'.toList)) →
    W p l e rm s m args below meth c s.heap [] 0 0 Q (F0 m 0 ls [])
theorem BW.met {l : Launch} {y : MethodName} {ws ws' : List Cond} {rm : Room} {cc : ByteArray} {maxL : Nat} {ty : FieldType} {D : va_G} {cI cZ cB : ClassId} {w w1 : va_W} {av : List Value} {r : Int32} {sz : Nat} (hy : plainName y.cls = true) (hw : ws = Cond.code y cc maxL (some ty) :: ws') (hlen : (lg_sl av).length ≤ maxL)
    (h : BW l y ws rm cc maxL (some ty) D cI cZ cB w av (some (.int r)) w1) : Met l y ws rm (pW D cI cZ cB w sz av) (qW D (some (.int r)) w1 (va_A w sz)) 0 0 (va_A w sz) := by
  refine Met.ofW (cc := cc) (maxL := maxL) (ret := some ty) hy hw ?_
  intro p e s m args below meth c s₁ B hml hv
  obtain ⟨rfl, rfl, hP, hK, hD0⟩ := hv
  have hl := lv_entry av hlen
  rw [lg_entry_eq]
  have hlocks := B.notSynchronized
  refine h p e s m _ below meth c _ _ _ B.exec B.bytes hml (atoms_spec (ws := ws) B.pre) (findClass_of_methodNamed B.named) hK (fun q h => Or.inr h) hP hD0.self va_S.rf hl (fun v' w' pc ls H locs hv hw' hn hdg hP1 hS => ?_)
  subst hv; subst hw'
  rw [if_neg (by intro z; cases z)] at hdg
  exact W.zret B.exec B.bytes B.returns hn (fun t ht _ => ⟨rfl, by rw [ht]; exact hP1, hS.F ht⟩) hS.2.2 hdg
theorem BW.metv {l : Launch} {y : MethodName} {ws ws' : List Cond} {rm : Room} {cc : ByteArray} {maxL : Nat} {D : va_G} {cI cZ cB : ClassId} {w w1 : va_W} {av : List Value} {sz : Nat} (hy : plainName y.cls = true) (hw : ws = Cond.code y cc maxL none :: ws') (hlen : (lg_sl av).length ≤ maxL)
    (h : BW l y ws rm cc maxL none D cI cZ cB w av none w1) : Met l y ws rm (pW D cI cZ cB w sz av) (qW D none w1 (va_A w sz)) 0 0 (va_A w sz) := by
  refine Met.ofW (cc := cc) (maxL := maxL) (ret := none) hy hw ?_
  intro p e s m args below meth c s₁ B hml hv
  obtain ⟨rfl, rfl, hP, hK, hD0⟩ := hv
  have hl := lv_entry av hlen
  rw [lg_entry_eq]
  have hlocks := B.notSynchronized
  refine h p e s m _ below meth c _ _ _ B.exec B.bytes hml (atoms_spec (ws := ws) B.pre) (findClass_of_methodNamed B.named) hK (fun q h => Or.inr h) hP hD0.self va_S.rf hl (fun v' w' pc ls H locs hv hw' hn hdg hP1 hS => ?_)
  subst hv; subst hw'
  rw [if_pos rfl] at hdg
  exact W.vret B.exec B.bytes B.returns (fun t ht _ => ⟨rfl, by rw [ht]; exact hP1, hS.F ht⟩) hS.2.2 hdg
