/-! own words: rows that grow -/
theorem rep_at2 : ∀ (l : List Nat) (w ws : va_W) (k : Nat) (q : Nat × va_E), l.length = w.length → (rep ws l w)[k]? = some q → (∃ i : Nat, l[i]? = some k ∧ w[i]? = some q) ∨ (k ∉ l ∧ ws[k]? = some q) := by
  intro l
  induction l with
  | nil =>
    intro w ws k q _ h
    have h1 : rep ws [] w = ws := by unfold rep; rfl
    rw [h1] at h
    exact Or.inr ⟨List.not_mem_nil, h⟩
  | cons a l ih =>
    intro w ws k q hl h
    cases w with
    | nil => simp at hl
    | cons b w =>
      have h1 : rep ws (a :: l) (b :: w) = rep (ws.set a b) l w := rfl
      rw [h1] at h
      rcases ih w (ws.set a b) k q (by simpa using hl) h with ⟨i, h2, h3⟩ | ⟨h2, h3⟩
      · exact Or.inl ⟨i + 1, by simpa using h2, by simpa using h3⟩
      · by_cases hk : a = k
        · subst hk
          rw [List.getElem?_set] at h3
          split at h3
          · split at h3
            · cases h3; exact Or.inl ⟨0, rfl, rfl⟩
            · cases h3
          · rename_i hne; exact absurd rfl hne
        · rw [List.getElem?_set_ne hk] at h3
          exact Or.inr ⟨fun hm => (List.mem_cons.mp hm).elim (fun e => hk e.symm) h2, h3⟩
theorem rep_D {D : va_G} {cl : List vw_C} {ws wc w1 ws' : va_W} {H : Heap} {A0 : Nat → Prop} {l : List Nat} (hP : va_P D cl ws H) (hD : va_D A0 ws) (hC : l.map (fun i => ws[i]?) = wc.map some) (hF : ∀ q, va_A wc H.size q → A0 q) (hD1 : va_D (va_A wc H.size) w1) (hl : l.length = w1.length) (hr : ws' = rep ws l w1) : va_D A0 ws' := by
  have apart : ∀ (k : Nat) (q : Nat × va_E), k ∉ l → ws[k]? = some q → ¬ va_A wc H.size q.1 := by
    intro k q hk hq hA
    have hlt := (hP k q hq).lt
    rcases hA with ⟨k2, e, h⟩ | h
    · have h3 : (l.map (fun i => ws[i]?))[k2]? = some (some (q.1, e)) := by rw [hC, List.getElem?_map, h]; rfl
      rw [List.getElem?_map] at h3
      cases hi : l[k2]? with
      | none => rw [hi] at h3; cases h3
      | some j =>
        rw [hi] at h3
        have h4 : ws[j]? = some (q.1, e) := Option.some.inj h3
        have hkj := hD.1 k j q (q.1, e) hq h4 rfl
        subst hkj
        exact hk (List.mem_of_getElem? hi)
    · omega
  subst hr
  refine ⟨fun i j p q hp hq hpq => ?_, fun k q hq => ?_⟩
  · rcases rep_at2 l w1 ws i p hl hp with ⟨i1, a1, a2⟩ | ⟨a1, a2⟩
    · rcases rep_at2 l w1 ws j q hl hq with ⟨j1, b1, b2⟩ | ⟨b1, b2⟩
      · have hij := hD1.1 i1 j1 p q a2 b2 hpq
        subst hij
        exact Option.some.inj (a1.symm.trans b1)
      · exact absurd (hpq ▸ hD1.2 i1 p a2) (apart j q b1 b2)
    · rcases rep_at2 l w1 ws j q hl hq with ⟨j1, b1, b2⟩ | ⟨b1, b2⟩
      · exact absurd (hpq.symm ▸ hD1.2 j1 q b2) (apart i p a1 a2)
      · exact hD.1 i j p q a2 b2 hpq
  · rcases rep_at2 l w1 ws k q hl hq with ⟨i1, a1, a2⟩ | ⟨a1, a2⟩
    · exact hF _ (hD1.2 i1 q a2)
    · exact hD.2 k q a2
/-- an answer that is a new cell -/
def qC (D : va_G) (wf : Nat → va_W) (A : Nat → Prop) : Array Value → State → Outcome → State → Prop := fun _ st oc t => ∃ q : Nat, oc = .returned (some (.ref q)) ∧ va_P D vwCl (wf q) t.heap ∧ va_D A (wf q) ∧ va_F A st t
def rmCp (κ : Nat) : Room := { frames := 1, cells := κ, slots := κ, locals := 60 }
theorem cA_eq {D : va_G} {cl : List vw_C} {cI cZ cB cA : ClassId} {U : State} (h : va_K D cl (tyA cI cZ cB ++ [(cA, .int)]) U) : cA = cI := by
  have h1 : U.vm.findClass ("[" ++ FieldType.int.toString) = some cI := (h.2 0 (cI, .int) rfl).2
  have h2 : U.vm.findClass ("[" ++ FieldType.int.toString) = some cA := (h.2 3 (cA, .int) rfl).2
  exact Option.some.inj (h2.symm.trans h1)
theorem nI_nlt_self (m : Int32) : ¬ m < m := by
  intro h
  exact absurd (Int32.lt_iff_toInt_lt.mp h) (by omega)
set_option maxHeartbeats 4000000 in
set_option maxRecDepth 100000 in
theorem mJ7_copyOf (l : Launch) (D : va_G) (cI cZ cB : ClassId) (a n : Nat) (f : Nat → Int32) (m : Int32) (κ : Nat) (hκ : m.toNatClampNeg + 1 ≤ κ) (sz : Nat) (hn : n < 2 ^ 31) (h1 : nI n < m) (hm : m.toNatClampNeg ≤ 40960) (h0 : ¬ m < 0) (hnm : n ≤ m.toNatClampNeg) : Met l yJ7_copyOf_59c91 wsJ7_copyOf_59c91 (rmCp κ) (pW D cI cZ cB [(a, .inl (cI, (n, .inl f)))] sz [.ref a, .int m]) (qC D (fun q => [(a, .inl (cI, (n, .inl f))), (q, .inl (cI, (m.toNatClampNeg, .inl (va_cpy f (fun _ => 0) 0 0 n))))]) (va_A [(a, .inl (cI, (n, .inl f)))] sz)) κ κ (va_A [(a, .inl (cI, (n, .inl f)))] sz) := by
  refine Met.ofW (cc := cJ7_copyOf_59c91) (maxL := 3) (ret := some (.array .int)) (by decide +kernel) rfl ?_
  intro p e s m' args below meth c s₁ B hml hv
  obtain ⟨rfl, rfl, hP, hK, hD0⟩ := hv
  have hx := B.exec
  have hb := B.bytes
  have hr := B.returns
  have hts := atoms_spec (ws := wsJ7_copyOf_59c91) B.pre
  have hown : s.vm.findClass RJ7 = some m'.cls := findClass_of_methodNamed B.named
  have hlocks := B.notSynchronized
  have hD := hD0.self (sz := s.heap.size)
  generalize hAe : va_A [(a, .inl (cI, (n, .inl f)))] s.heap.size = A at hD ⊢
  have hA : ∀ q : Nat, s.heap.size ≤ q → A q := fun q h => by rw [← hAe]; exact Or.inr h
  have hS : va_S A s.heap s.heap [] := va_S.rf
  have hl := lv_entry ([.ref a, .int m]) (n := 3) (Nat.le_of_ble_eq_true rfl)
  rw [lg_entry_eq]
  generalize (lg_sl ([.ref a, .int m]) ++ List.replicate (3 - (lg_sl ([.ref a, .int m])).length) Slot.unset).toArray = ls at hl ⊢
  have hl : lv_has ls 3 [(0, .ref a), (1, .int m)] := hl
  refine lv_iload_n hx hb dJ7_copyOf_59c91_0 rfl (lv_at hl 1 rfl) ?_
  refine lv_aload_n hx hb dJ7_copyOf_59c91_1 rfl (lv_at hl 0 rfl) ?_
  refine va_alen (v := nI n) hx hb hK hP 0 0 rfl rfl rfl dJ7_copyOf_59c91_2 ?_
  refine lv_icmp_ne (tgt := 14) hx hb dJ7_copyOf_59c91_3 (by decide) (fun _ => ?_) (fun c1 => absurd (c1 ▸ h1) (nI_nlt_self _))
  refine lv_iload_n hx hb dJ7_copyOf_59c91_14 rfl (lv_at hl 1 rfl) ?_
  refine va_newa (atype := .int) (N' := m.toNatClampNeg) (a0 := (m.toNatClampNeg, .inl (fun _ => 0))) hx hb (hts (.arrayClass .int) (by decide +kernel)) rfl hK hP hD hS hA (fun _ => rfl) h0 rfl (by show m.toNatClampNeg * 4 ≤ 536870912; omega) (by show 0 + 1 ≤ κ; omega) (by show 0 + m.toNatClampNeg ≤ κ; omega) dJ7_copyOf_59c91_15 (fun q cA H hK2 hP hD hS => ?_)
  have hcA := cA_eq hK2
  subst hcA
  have hP : va_P D vwCl [(a, .inl (cA, (n, .inl f))), (q, .inl (cA, (m.toNatClampNeg, .inl (fun _ => 0))))] H := hP
  have hD : va_D A [(a, .inl (cA, (n, .inl f))), (q, .inl (cA, (m.toNatClampNeg, .inl (fun _ => 0))))] := hD
  refine lv_astore_n (lv' := [(2, .ref q), (0, .ref a), (1, .int m)]) hx hb dJ7_copyOf_59c91_17 rfl hl (by decide) rfl (fun ls hl => ?_)
  refine lv_aload_n hx hb dJ7_copyOf_59c91_18 rfl (lv_at hl 1 rfl) ?_
  refine lv_iconst (v := 0) hx hb dJ7_copyOf_59c91_19 (by decide) ?_
  refine lv_aload_n hx hb dJ7_copyOf_59c91_20 rfl (lv_at hl 0 rfl) ?_
  refine lv_iconst (v := 0) hx hb dJ7_copyOf_59c91_21 (by decide) ?_
  refine lv_aload_n hx hb dJ7_copyOf_59c91_22 rfl (lv_at hl 1 rfl) ?_
  refine va_alen (v := nI n) hx hb hK hP 0 0 rfl rfl rfl dJ7_copyOf_59c91_23 ?_
  refine lv_iload_n hx hb dJ7_copyOf_59c91_24 rfl (lv_at hl 2 rfl) ?_
  refine va_mmin hx hb (hml.trans hl.1.symm) hown (hts (.methodLink RJ7 304 Lib.Math.min.name) (by decide +kernel)) (hts (.static Lib.Math.min.name) (by decide +kernel)) (hts (.initialized "java/lang/Math") (by decide +kernel)) (hts (.code Lib.Math.min.name Lib.Math.min.code 2 (some .int)) (by decide +kernel)) (Nat.le_of_ble_eq_true rfl) (Nat.le_of_ble_eq_true rfl) (by show 0 + 1 ≤ κ; omega) (by show 0 + m.toNatClampNeg ≤ κ; omega) dJ7_copyOf_59c91_25 ?_
  have hmin : nI n = (if m < nI n then m else nI n) := by
    rw [if_neg (fun h => nI_nlt_self m (Int32.lt_iff_toInt_lt.mpr (by have a1 := Int32.lt_iff_toInt_lt.mp h; have a2 := Int32.lt_iff_toInt_lt.mp h1; omega)))]
  refine lv_topE hmin ?_
  have hcl := nI_clamp hn
  refine va_copyi hx hb (hml.trans hl.1.symm) hown (hts (.methodLink RJ7 150 arraycopyName) (by decide +kernel)) (hts (.native arraycopyName) (by decide +kernel)) (hts (.static arraycopyName) (by decide +kernel)) (hts (.initialized "java/lang/System") (by decide +kernel)) hK hP hD hS 0 1 0 0 rfl rfl rfl rfl rfl (by decide) (by decide) (nI_pos hn) (by rw [hcl]; show 0 + n ≤ n; omega) (by rw [hcl]; show 0 + n ≤ m.toNatClampNeg; omega) (fun _ _ => rfl) (Nat.le_of_ble_eq_true rfl) (Nat.le_of_ble_eq_true rfl) dJ7_copyOf_59c91_28 (fun H locs hP hD hS => ?_)
  rw [hcl] at hP hD
  refine lv_aload_n hx hb dJ7_copyOf_59c91_31 rfl (lv_at hl 0 rfl) ?_
  refine W.widen (k := κ) (n := κ) (by omega) (by omega) ?_
  exact W.aret hx hb hr (Or.inr ⟨_, rfl⟩) (Or.inr ⟨q, rfl⟩) (fun t ht hW => ⟨q, rfl, by rw [ht]; exact hP, hD, hS.F ht⟩) hS.2.2 dJ7_copyOf_59c91_32
