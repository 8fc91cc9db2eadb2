/-! own words: pure part: acts; strike -/
theorem aAt_s (a : A3) (A : List A3) (j : Nat) : aAt (a :: A) (j + 1) = aAt A j := rfl
theorem aAt_0 (a : A3) (A : List A3) : aAt (a :: A) 0 = a := rfl
theorem aAt_take {A : List A3} {k j : Nat} (h : j < k) : aAt (A.take k) j = aAt A j := by
  unfold aAt
  simp only [List.getD_eq_getElem?_getD, List.getElem?_take]
  rw [if_pos h]
theorem x0_open {A : List A3} {μ : Mem} (h : CAC A μ) {r i : Nat} {Hs : List C4} : ∃ μ1, X0_open (nI (ckd r)) (nI i) (nI (cmpH Hs).length) μ = some μ1 ∧ CAC (((r, i, Hs) :: A).take 100) μ1 := by
  obtain ⟨q, hq, e3, e4, hl, hj⟩ := h
  have hlen : (((r, i, Hs) :: A).take 100).length = if A.length = 100 then 100 else A.length + 1 := by
    rw [List.length_take, List.length_cons]
    split <;> omega
  have fin : ∀ (y : Nat) (μ1 : Mem), y = (q + 1) % 100 → μ1 0 3 = nI y → μ1 0 4 = nI (((r, i, Hs) :: A).take 100).length → μ1 1 = upd (μ 1) q (nI (ckd r)) → μ1 2 = upd (μ 2) q (nI i) → μ1 3 = upd (μ 3) q (nI (cmpH Hs).length) → CAC (((r, i, Hs) :: A).take 100) μ1 := fun y μ1 hy a3 a4 f1 f2 f3 => by
    refine ⟨y, by omega, a3, a4, by rw [List.length_take]; omega, fun j hj' => ?_⟩
    have hj100 : j < 100 := by
      rw [List.length_take] at hj'
      omega
    rw [aAt_take hj100, f1, f2, f3]
    cases j with
    | zero =>
      rw [show (y + 99 - 0) % 100 = q by omega, pk_us, pk_us, pk_us, aAt_0]
      exact ⟨rfl, rfl, rfl⟩
    | succ j =>
      have hjl : j < A.length := by
        rw [List.length_take, List.length_cons] at hj'
        omega
      rw [show (y + 99 - (j + 1)) % 100 = (q + 99 - j) % 100 by omega, pk_un (by omega), pk_un (by omega), pk_un (by omega), aAt_s]
      exact hj j hjl
  have e9 : (if (100 : Int32) < nI A.length + 1 then 100 else nI A.length + 1) = nI (((r, i, Hs) :: A).take 100).length := by
    rw [hlen, nI_1]
    by_cases h1 : A.length = 100
    · rw [if_pos h1, if_pos (show (100 : Int32) < nI (A.length + 1) from nI_lt (a := 100) (by omega) (by omega))]
      rfl
    · rw [if_neg h1, if_neg (show ¬ (100 : Int32) < nI (A.length + 1) from nI_nlt (a := 100) (by omega) (by omega))]
  have u : ∀ y : Int32, X0_open_52 (nI (ckd r)) (nI i) (nI (cmpH Hs).length) y (up (up (up μ 1 q (nI (ckd r))) 2 q (nI i)) 3 q (nI (cmpH Hs).length)) = some (up (up (up (up (up μ 1 q (nI (ckd r))) 2 q (nI i)) 3 q (nI (cmpH Hs).length)) 0 3 y) 0 4 (if (100 : Int32) < μ 0 4 + 1 then 100 else μ 0 4 + 1)) := fun y => rfl
  have e0 : X0_open (nI (ckd r)) (nI i) (nI (cmpH Hs).length) μ = if (100 : Int32) ≤ nI q + 1 then X0_open_52 (nI (ckd r)) (nI i) (nI (cmpH Hs).length) 0 (up (up (up μ 1 q (nI (ckd r))) 2 q (nI i)) 3 q (nI (cmpH Hs).length)) else X0_open_52 (nI (ckd r)) (nI i) (nI (cmpH Hs).length) (nI q + 1) (up (up (up μ 1 q (nI (ckd r))) 2 q (nI i)) 3 q (nI (cmpH Hs).length)) := by
    unfold X0_open
    rw [e3, gd_i (vp_in_nI hq (by omega)), nI_clamp (by omega)]
    show gd (μ 0 3) 100 (gd (μ 0 3) 100 (if (100 : Int32) ≤ μ 0 3 + 1 then X0_open_52 _ _ _ 0 (up (up (up μ 1 q (nI (ckd r))) 2 (Int32.toNatClampNeg (μ 0 3)) (nI i)) 3 (Int32.toNatClampNeg (μ 0 3)) (nI (cmpH Hs).length)) else X0_open_52 _ _ _ (μ 0 3 + 1) (up (up (up μ 1 q (nI (ckd r))) 2 (Int32.toNatClampNeg (μ 0 3)) (nI i)) 3 (Int32.toNatClampNeg (μ 0 3)) (nI (cmpH Hs).length)))) = _
    rw [e3, gd_i (vp_in_nI hq (by omega)), gd_i (vp_in_nI hq (by omega)), nI_clamp (by omega)]
  rw [e0, u, u, e4, e9, nI_1]
  by_cases h1 : q + 1 = 100
  · rw [if_pos (show (100 : Int32) ≤ nI (q + 1) from nI_le (a := 100) (by omega) (by omega))]
    exact ⟨_, rfl, fin 0 _ (by omega) rfl rfl rfl rfl rfl⟩
  · rw [if_neg (show ¬ (100 : Int32) ≤ nI (q + 1) from nI_ge (b := 100) (by omega) (by omega))]
    exact ⟨_, rfl, fin (q + 1) _ (by omega) rfl rfl rfl rfl rfl⟩
theorem x0_slot {A : List A3} {μ : Mem} {q : Nat} (hq : q < 100) (e3 : μ 0 3 = nI q) : X0_latestSlot μ = some (nI ((q + 99) % 100)) := by
  unfold X0_latestSlot
  rw [e3]
  by_cases h : q = 0
  · rw [h, if_pos (by decide)]
    rfl
  · rw [if_neg (nI_nle (by omega) (by omega))]
    obtain ⟨q', rfl⟩ : ∃ q', q = q' + 1 := ⟨q - 1, by omega⟩
    rw [nI_pred, show (q' + 1 + 99) % 100 = q' by omega]
theorem x0_kind0 {μ : Mem} (h : CAC [] μ) : X0_latestKind μ = some (-1) := by
  obtain ⟨q, hq, e3, e4, hl, hj⟩ := h
  unfold X0_latestKind
  rw [e4, if_pos (by decide)]
theorem x0_kind {a : A3} {A : List A3} {μ : Mem} (h : CAC (a :: A) μ) : X0_latestKind μ = some (nI (ckd a.1)) := by
  obtain ⟨q, hq, e3, e4, hl, hj⟩ := h
  have h0 := (hj 0 (by rw [List.length_cons]; omega)).1
  unfold X0_latestKind
  rw [e4, if_neg (nI_nle (by rw [List.length_cons]; omega) (by omega)), x0_slot (A := A) hq e3, bd_s, gd_i (vp_in_nI (by omega) (by omega)), nI_clamp (by omega)]
  exact congrArg some h0
theorem x0_mark {a : A3} {A : List A3} {μ : Mem} (h : CAC (a :: A) μ) : X0_latestMark μ = some (nI (cmpH a.2.2).length) := by
  obtain ⟨q, hq, e3, e4, hl, hj⟩ := h
  have h0 := (hj 0 (by rw [List.length_cons]; omega)).2.2
  unfold X0_latestMark
  rw [x0_slot (A := A) hq e3, bd_s, gd_i (vp_in_nI (by omega) (by omega)), nI_clamp (by omega)]
  exact congrArg some h0
theorem x0_item {a : A3} {A : List A3} {μ : Mem} (h : CAC (a :: A) μ) : X0_latestItem μ = some (nI a.2.1) := by
  obtain ⟨q, hq, e3, e4, hl, hj⟩ := h
  have h0 := (hj 0 (by rw [List.length_cons]; omega)).2.1
  unfold X0_latestItem
  rw [x0_slot (A := A) hq e3, bd_s, gd_i (vp_in_nI (by omega) (by omega)), nI_clamp (by omega)]
  exact congrArg some h0
theorem x0_close {a : A3} {A : List A3} {μ : Mem} (h : CAC (a :: A) μ) : ∃ μ1, X0_close μ = some μ1 ∧ CAC A μ1 := by
  obtain ⟨q, hq, e3, e4, hl, hj⟩ := h
  rw [List.length_cons] at e4 hl
  refine ⟨up (up μ 0 3 (nI ((q + 99) % 100))) 0 4 (nI A.length), ?_, (q + 99) % 100, by omega, rfl, rfl, by omega, fun j hj' => ?_⟩
  · unfold X0_close
    rw [e4, if_neg (nI_nle (by omega) (by omega)), x0_slot (A := A) hq e3, bd_s]
    show some (up (up μ 0 3 (nI ((q + 99) % 100))) 0 4 (μ 0 4 - 1)) = _
    rw [e4, nI_pred]
  · have := hj (j + 1) (by rw [List.length_cons]; omega)
    rw [show (q + 99 - (j + 1)) % 100 = ((q + 99) % 100 + 99 - j) % 100 by omega, aAt_s] at this
    exact this
theorem x10_75 {A : List A3} {τ : Mem} (h : BAC A τ) (hA : A.length < 100) {r i : Nat} {Hs : List C4} (hH : τ 0 25 = nI Hs.length) : ∃ τ1, X10_act_75 (nI r) (nI i) τ = some τ1 ∧ BAC ((r, i, Hs) :: A) τ1 ∧ FR [14, 15, 16] [29] τ τ1 := by
  obtain ⟨e, hj⟩ := h
  refine ⟨up (up (up (up τ 14 A.length (nI r)) 15 A.length (nI i)) 16 A.length (nI Hs.length)) 0 29 (nI (A.length + 1)), ?_, ⟨rfl, fun j hj' => ?_⟩, (((FR.rf.cel (by decide) (by decide)).cel (by decide) (by decide)).cel (by decide) (by decide)).fld (by decide)⟩
  · unfold X10_act_75
    rw [e, gd_i (vp_in_nI hA (by omega)), nI_clamp (by omega)]
    show gd (τ 0 29) 100 (gd (τ 0 29) 100 (some (up (up (up (up τ 14 A.length (nI r)) 15 (Int32.toNatClampNeg (τ 0 29)) (nI i)) 16 (Int32.toNatClampNeg (τ 0 29)) (τ 0 25)) 0 29 (τ 0 29 + 1)))) = _
    rw [e, gd_i (vp_in_nI hA (by omega)), gd_i (vp_in_nI hA (by omega)), nI_clamp (by omega), hH, nI_1]
  · rw [List.length_cons] at hj' ⊢
    show upd (τ 14) A.length (nI r) (A.length + 1 - 1 - j) = _ ∧ upd (τ 15) A.length (nI i) (A.length + 1 - 1 - j) = _ ∧ upd (τ 16) A.length (nI Hs.length) (A.length + 1 - 1 - j) = _
    cases j with
    | zero =>
      rw [show A.length + 1 - 1 - 0 = A.length by omega, pk_us, pk_us, pk_us, aAt_0]
      exact ⟨rfl, rfl, rfl⟩
    | succ j =>
      rw [show A.length + 1 - 1 - (j + 1) = A.length - 1 - j by omega, pk_un (by omega), pk_un (by omega), pk_un (by omega), aAt_s]
      exact hj j (by omega)
/-- a row moved down by one, so far -/
def mvd (f : Nat → Int32) (k : Nat) : Nat → Int32 := fun j => if j + 1 < k then f (j + 1) else f j
theorem mvd_st (f : Nat → Int32) {k : Nat} (hk : 1 ≤ k) : upd (mvd f k) (k - 1) (mvd f k k) = mvd f (k + 1) := by
  funext j
  unfold upd mvd
  by_cases h : j = k - 1
  · rw [if_pos h, if_neg (by omega), if_pos (by omega), show j + 1 = k by omega]
  · rw [if_neg h]
    by_cases h2 : j + 1 < k
    · rw [if_pos h2, if_pos (by omega)]
    · rw [if_neg h2, if_neg (by omega)]
theorem x10_11 {a1 a2 : Int32} {f14 f15 f16 : Nat → Int32} {τ0 : Mem} : ∀ (d k m : Nat) (τ : Mem), k + d = 100 → d < m → 1 ≤ k → τ 14 = mvd f14 k → τ 15 = mvd f15 k → τ 16 = mvd f16 k → FR [14, 15, 16] [29] τ0 τ → ∃ τ1, X10_act_11 a1 a2 m (nI k) τ = X10_act_75 a1 a2 (up τ1 0 29 (τ1 0 29 - 1)) ∧ τ1 14 = mvd f14 100 ∧ τ1 15 = mvd f15 100 ∧ τ1 16 = mvd f16 100 ∧ τ1 0 = τ 0 ∧ FR [14, 15, 16] [29] τ0 τ1 := by
  intro d
  induction d with
  | zero =>
    intro k m τ hk hm h1 g1 g2 g3 hf
    obtain ⟨m, rfl⟩ : ∃ m', m = m' + 1 := ⟨m - 1, by omega⟩
    obtain rfl : k = 100 := by omega
    refine ⟨τ, ?_, g1, g2, g3, rfl, hf⟩
    unfold X10_act_11
    rw [if_pos (by decide)]
    rfl
  | succ d ih =>
    intro k m τ hk hm h1 g1 g2 g3 hf
    obtain ⟨m, rfl⟩ : ∃ m', m = m' + 1 := ⟨m - 1, by omega⟩
    have ek : nI k - 1 = nI (k - 1) := by
      obtain ⟨k', rfl⟩ : ∃ k', k = k' + 1 := ⟨k - 1, by omega⟩
      rw [nI_pred]
      rfl
    have e0 : X10_act_11 a1 a2 (m + 1) (nI k) τ = X10_act_11 a1 a2 m (nI (k + 1)) (up (up (up τ 14 (k - 1) (τ 14 k)) 15 (k - 1) (τ 15 k)) 16 (k - 1) (τ 16 k)) := by
      conv => lhs; unfold X10_act_11
      rw [if_neg (show ¬ (100 : Int32) ≤ nI k from nI_ge (b := 100) (by omega) (by omega)), ek, gd_i (vp_in_nI (by omega) (by omega)), gd_i (vp_in_nI (by omega) (by omega)), nI_clamp (by omega), nI_clamp (by omega)]
      simp only [lt]
      rw [gd_i (vp_in_nI (by omega) (by omega)), gd_i (vp_in_nI (by omega) (by omega)), gd_i (vp_in_nI (by omega) (by omega)), gd_i (vp_in_nI (by omega) (by omega)), nI_1]
      rfl
    rw [e0]
    obtain ⟨τ1, e1, k1, k2, k3, k0, k4⟩ := ih (k + 1) m _ (by omega) (by omega) (by omega) (by
      show upd (τ 14) (k - 1) (τ 14 k) = _
      rw [g1, mvd_st _ h1]) (by
      show upd (τ 15) (k - 1) (τ 15 k) = _
      rw [g2, mvd_st _ h1]) (by
      show upd (τ 16) (k - 1) (τ 16 k) = _
      rw [g3, mvd_st _ h1]) (((hf.cel (c := 14) (j := k - 1) (v := τ 14 k) (by decide) (by decide)).cel (c := 15) (j := k - 1) (v := τ 15 k) (by decide) (by decide)).cel (c := 16) (j := k - 1) (v := τ 16 k) (by decide) (by decide))
    exact ⟨τ1, e1, k1, k2, k3, k0, k4⟩
theorem x10_act {A : List A3} {τ : Mem} (h : BAC A τ) (hA : A.length ≤ 100) {r i : Nat} {Hs : List C4} (hH : τ 0 25 = nI Hs.length) : ∃ τ1, X10_act (nI r) (nI i) τ = some τ1 ∧ BAC (((r, i, Hs) :: A).take 100) τ1 ∧ FR [14, 15, 16] [29] τ τ1 := by
  have e := h.1
  by_cases h1 : A.length = 100
  · have m1 : ∀ f : Nat → Int32, f = mvd f 1 := fun f => by
      funext j
      unfold mvd
      rw [if_neg (by omega)]
    obtain ⟨τ1, e1, k1, k2, k3, k0, k4⟩ := x10_11 (a1 := nI r) (a2 := nI i) (f14 := τ 14) (f15 := τ 15) (f16 := τ 16) (τ0 := τ) 99 1 FU τ (by omega) (by unfold FU; omega) (by omega) (m1 _) (m1 _) (m1 _) FR.rf
    have e2 : X10_act (nI r) (nI i) τ = X10_act_11 (nI r) (nI i) FU 1 τ := by
      unfold X10_act
      rw [e, if_pos (show nI A.length = 100 by rw [h1]; rfl)]
    have k5 : τ1 0 29 - 1 = nI 99 := by
      rw [k0, e, h1]
      decide
    have hb : BAC (A.take 99) (up τ1 0 29 (τ1 0 29 - 1)) := by
      have hl : (A.take 99).length = 99 := by
        rw [List.length_take]
        omega
      refine ⟨by rw [hl]; exact k5, fun j hj => ?_⟩
      rw [hl] at hj ⊢
      have := h.2 j (by omega)
      rw [h1] at this
      rw [aAt_take (by omega)]
      show τ1 14 (99 - 1 - j) = _ ∧ τ1 15 (99 - 1 - j) = _ ∧ τ1 16 (99 - 1 - j) = _
      rw [k1, k2, k3]
      unfold mvd
      rw [if_pos (by omega), if_pos (by omega), if_pos (by omega), show 99 - 1 - j + 1 = 100 - 1 - j by omega]
      exact this
    obtain ⟨τ2, e3, e4, e5⟩ := x10_75 (r := r) (i := i) (Hs := Hs) hb (by rw [List.length_take]; omega) (by
      show τ1 0 25 = _
      rw [k0, hH])
    refine ⟨τ2, by rw [e2]; exact e1.trans e3, ?_, (k4.fld (by decide)).tr e5⟩
    rw [show ((r, i, Hs) :: A).take 100 = (r, i, Hs) :: A.take 99 from rfl]
    exact e4
  · obtain ⟨τ1, e1, e2, e3⟩ := x10_75 (r := r) (i := i) (Hs := Hs) h (by omega) hH
    refine ⟨τ1, ?_, ?_, e3⟩
    · unfold X10_act
      rw [e, if_neg (show ¬ nI A.length = 100 from fun z => h1 ((nI_eq (b := 100) (by omega) (by omega)).mp z))]
      exact e1
    · rw [List.take_of_length_le (by rw [List.length_cons]; omega)]
      exact e2
theorem AO_take : ∀ (A : List A3) (n : Nat) (st : Nat → Nat) (H : List C4) (k : Nat), AO A n st H → AO (A.take k) n st H := by
  intro A
  induction A with
  | nil =>
    intro n st H k h
    rw [List.take_nil]
    exact h
  | cons a A ih =>
    obtain ⟨r, i, Hs⟩ := a
    intro n st H k h
    cases k with
    | zero => exact trivial
    | succ k =>
      obtain ⟨h1, h2, h3⟩ := h
      refine ⟨h1, h2, ?_⟩
      rcases h3 with ⟨a, b, c, d⟩ | ⟨a, b, c⟩ | ⟨a, b⟩
      · exact Or.inl ⟨a, b, c, ih _ _ _ k d⟩
      · exact Or.inr (Or.inl ⟨a, b, ih _ _ _ k c⟩)
      · exact Or.inr (Or.inr ⟨a, ih _ _ _ k b⟩)
theorem ud_same {st : Nat → Nat} {k v : Nat} (h : st k = v) : ud st k v = st := by
  funext j
  unfold ud
  by_cases hj : j = k
  · rw [if_pos hj, hj, h]
  · rw [if_neg hj]
theorem ud_ud {st : Nat → Nat} {k v v' : Nat} : ud (ud st k v) k v' = ud st k v' := by
  funext j
  unfold ud
  by_cases hj : j = k
  · rw [if_pos hj, if_pos hj]
  · rw [if_neg hj, if_neg hj, if_neg hj]
theorem cnt_ud {st : Nat → Nat} {k v : Nat} : ∀ n, cnt (ud st k v) n + (if k < n then st k else 0) = cnt st n + (if k < n then v else 0) := by
  intro n
  induction n with
  | zero => rfl
  | succ n ih =>
    show cnt (ud st k v) n + ud st k v n + _ = cnt st n + st n + _
    by_cases h : n = k
    · subst h
      rw [if_neg (by omega), if_neg (by omega)] at ih
      rw [if_pos (by omega), if_pos (by omega), ud_s]
      omega
    · rw [ud_n h]
      by_cases h2 : k < n
      · rw [if_pos h2, if_pos h2] at ih
        rw [if_pos (by omega), if_pos (by omega)]
        omega
      · rw [if_neg h2, if_neg h2] at ih
        rw [if_neg (by omega), if_neg (by omega)]
        omega
theorem x3_set {n : Nat} {lv ur cm st od : Nat → Nat} {μ : Mem} (h : CIT n lv ur cm st od μ) (h80 : n ≤ 80) {k v : Nat} (hk : k < n) (hv : v < 2) (hs : st k < 2) (hc : cnt st n ≤ 80) : ∃ μ1, X3_setStruck (nI k) (nI v) μ = some μ1 ∧ CIT n lv ur cm (ud st k v) od μ1 := by
  obtain ⟨h1, h2, h3, h4⟩ := h
  obtain ⟨f1, f2, f3, f4⟩ := h3 k hk
  have hcu := cnt_ud (st := st) (k := k) (v := v) n
  rw [if_pos hk, if_pos hk] at hcu
  have e0 : X3_setStruck (nI k) (nI v) μ = if nI (st k) = nI v then some μ else if nI v = 0 then some (up (up μ 4 k (vp_nar .boolean (nI v))) 0 6 (μ 0 6 + (-1))) else some (up (up μ 4 k (vp_nar .boolean (nI v))) 0 6 (μ 0 6 + 1)) := by
    unfold X3_setStruck
    rw [has_k ⟨h1, h2, h3, h4⟩ h80 hk, bd_s, if_neg (show ¬ (1 : Int32) = 0 by decide), gd_i (vp_in_nI (by omega) (by omega)), gd_i (vp_in_nI (by omega) (by omega)), nI_clamp (by omega), f4]
    rfl
  have hn : vp_nar .boolean (nI v) = nI v := by
    rcases (show v = 0 ∨ v = 1 by omega) with rfl | rfl <;> rfl
  have fin : ∀ μ1 : Mem, μ1 0 5 = μ 0 5 → μ1 0 6 = nI (cnt (ud st k v) n) → μ1 1 = μ 1 → μ1 2 = μ 2 → μ1 3 = μ 3 → μ1 4 = upd (μ 4) k (nI v) → μ1 5 = μ 5 → CIT n lv ur cm (ud st k v) od μ1 := fun μ1 a5 a6 g1 g2 g3 g4 g5 => by
    refine ⟨a5.trans h1, a6, fun j hj => ?_, fun p hp => by rw [g5]; exact h4 p hp⟩
    rw [g1, g2, g3, g4]
    obtain ⟨k1, k2, k3, k4⟩ := h3 j hj
    refine ⟨k1, k2, k3, ?_⟩
    by_cases hjk : j = k
    · rw [hjk, pk_us, ud_s]
    · rw [pk_un hjk, ud_n hjk, k4]
  rw [e0, hn]
  by_cases hsv : st k = v
  · rw [if_pos (by rw [hsv]), ud_same hsv]
    exact ⟨μ, rfl, h1, h2, h3, h4⟩
  · rw [if_neg (fun z => hsv ((nI_eq (by omega) (by omega)).mp z))]
    by_cases hv0 : v = 0
    · rw [if_pos (show nI v = 0 by rw [hv0]; rfl), h2]
      refine ⟨_, rfl, fin _ rfl ?_ rfl rfl rfl rfl rfl⟩
      show nI (cnt st n) + (-1) = _
      rw [show cnt st n = cnt (ud st k v) n + 1 by omega]
      exact pk_m1 _
    · rw [if_neg (nI_ne0 (by omega) (by omega)), h2]
      refine ⟨_, rfl, fin _ rfl ?_ rfl rfl rfl rfl rfl⟩
      show nI (cnt st n) + 1 = _
      rw [nI_1]
      congr 1
      omega
theorem WIT.st {L n : Nat} {lv ur st st' od : Nat → Nat} (h : WIT L n lv ur st od) (h' : ∀ k, k < n → st' k < 2) : WIT L n lv ur st' od := by
  obtain ⟨a, b, c⟩ := h
  exact ⟨a, fun k hk => ⟨(b k hk).1, h' k hk, (b k hk).2.2⟩, c⟩
theorem ud_lt2 {st : Nat → Nat} {n k v : Nat} (h : ∀ j, j < n → st j < 2) (hv : v < 2) : ∀ j, j < n → ud st k v j < 2 := fun j hj => by
  unfold ud
  split
  · exact hv
  · exact h j hj
theorem pu_strike : PU_strike Rel0 := by
  intro i σ τ w κ a1 hi h
  have h' := h
  obtain ⟨T, O, L, fm, th, dy, n, lv, ur, cm, st, od, H, R, A, c, r, s4, hw⟩ := h
  obtain ⟨c1, c2, c3, c4, c5, c6, c7⟩ := c
  have r' := r
  obtain ⟨b1, b2, b3, b4, b5, b6, b7, b8⟩ := r.th (v := 0)
  obtain ⟨wl, wi, wh, wd, wa, wn, wk⟩ := hw.skip
  have h80 := wi.1
  have hst : ∀ k, k < n → st k < 2 := fun k hk => (wi.2.1 k hk).2.1
  have hc6 := c6
  obtain ⟨q, -, -, -, hA, -⟩ := hc6
  rcases has_both c4 b4 h80 a1 with ⟨e1, e2, k, hk, rfl⟩ | ⟨e1, e2, -⟩
  · have f4 : σ 19 k = nI (st k) := (c4.2.2.1 k hk).2.2.2
    have g4 : Mem0 τ 0 10 k = nI (st k) := (b4.2.1 k hk).2.2.2
    have hs := hst k hk
    by_cases h0 : st k = 0
    · have hsz : σ 21 5 = nI (cmpH H).length := c5.1
      obtain ⟨μ1, m1, m2⟩ := x0_open (r := 1) (i := k) (Hs := H) c6
      obtain ⟨μ2, m3, m4⟩ := x3_set (μ := mp (mg σ [27, 28, 29, 30] μ1) [15, 16, 17, 18, 19, 20]) (v := 1) c4 h80 hk (by omega) hs (Nat.le_trans (cnt_le n hst) h80)
      obtain ⟨τ1, n1, n2, n3⟩ := x10_act (r := 1) (i := k) (Hs := H) b6 hA b5.1
      have f : FR [10, 14, 15, 16] [29] (Mem0 τ 0) (up τ1 10 k 1) := (n3.mono (by decide) (by decide)).cel (by decide) (by decide)
      refine ⟨1, mg (mg σ [27, 28, 29, 30] μ1) [15, 16, 17, 18, 19, 20] μ2, up τ1 10 k 1, ?_, ?_, T, O, L, fm, th, dy, n, lv, ur, cm, ud st k 1, od, H, R, ((1, k, H) :: A).take 100, ?_, ?_, ?_, ?_⟩
      · unfold X9_strike
        have m1' : X0_open 2 (nI k) (nI (cmpH H).length) (mp σ [27, 28, 29, 30]) = some μ1 := m1
        have m3' : X3_setStruck (nI k) 1 (mp (mg σ [27, 28, 29, 30] μ1) [15, 16, 17, 18, 19, 20]) = some μ2 := m3
        rw [e1, bd_s, if_neg (show ¬ (1 : Int32) = 0 by decide), gd_i (vp_in_nI (by omega) (by omega)), nI_clamp (by omega), f4, if_pos (show nI (st k) = 0 by rw [h0]; rfl), hsz, m1', bd_s]
        simp only [lt]
        rw [m3', bd_s]
      · unfold X10_strike
        have n1' : X10_act 1 (nI k) (Mem0 τ 0) = some τ1 := n1
        show (bd (X10_isItem (nI k) (Mem0 τ 0)) fun r2 => if r2 = 0 then some (0, Mem0 τ 0) else gd (nI k) 80 (if (Mem0 τ 0) 10 (Int32.toNatClampNeg (nI k)) = 0 then bd (X10_act 1 (nI k) (Mem0 τ 0)) fun r6 => gd (nI k) 80 (some (1, up r6 10 (Int32.toNatClampNeg (nI k)) 1)) else some (0, Mem0 τ 0))) = _
        rw [e2, bd_s, if_neg (show ¬ (1 : Int32) = 0 by decide), gd_i (vp_in_nI (by omega) (by omega)), nI_clamp (by omega), g4, if_pos (show nI (st k) = 0 by rw [h0]; rfl), n1', bd_s, gd_i (vp_in_nI (by omega) (by omega))]
      · exact ⟨c1, c2, c3, m4, c5.eq rfl rfl rfl rfl rfl rfl rfl, m2, c7⟩
      · refine ⟨b1.fr f (by decide) (by decide), b2.fr f (by decide) (by decide), b3.fr f (by decide) (by decide), ?_, b5.fr f (by decide) (by decide), ?_, (f.2 11 (by decide)).trans b7, b8.fr f (by decide)⟩
        · have b4' := b4.fr n3 (by decide) (by decide)
          refine ⟨b4'.1, fun j hj => ?_, b4'.2.2⟩
          obtain ⟨k1, k2, k3, k4⟩ := b4'.2.1 j hj
          refine ⟨k1, k2, k3, ?_⟩
          show upd (τ1 10) k 1 j = _
          by_cases hjk : j = k
          · rw [hjk, pk_us, ud_s]
            rfl
          · rw [pk_un hjk, ud_n hjk, k4]
        · exact n2.fr (C := [10]) (K := []) (FR.rf.cel (by decide) (by decide)) (by decide) (by decide)
      · exact ⟨s4.1.trans (f.2 12 (by decide)).symm, s4.2.1.trans (f.2 13 (by decide)).symm, s4.2.2.1.trans (f.2 40 (by decide)).symm, s4.2.2.2.trans (f.2 41 (by decide)).symm⟩
      · refine ⟨wl, wi.st (ud_lt2 hst (by omega)), wh, wd, AO_take _ _ _ _ 100 ⟨hk, ⟨[], rfl⟩, Or.inr (Or.inl ⟨rfl, ud_s, ?_⟩)⟩, wn, wk⟩
        rw [ud_ud, ud_same h0]
        exact wa
    · refine ⟨0, σ, Mem0 τ 0, ?_, ?_, h'.th⟩
      · unfold X9_strike
        rw [e1, bd_s, if_neg (show ¬ (1 : Int32) = 0 by decide), gd_i (vp_in_nI (by omega) (by omega)), nI_clamp (by omega), f4, if_neg (nI_ne0 (by omega) (by omega))]
      · unfold X10_strike
        show (bd (X10_isItem (nI k) (Mem0 τ 0)) fun r2 => if r2 = 0 then some (0, Mem0 τ 0) else gd (nI k) 80 (if (Mem0 τ 0) 10 (Int32.toNatClampNeg (nI k)) = 0 then _ else some (0, Mem0 τ 0))) = _
        rw [e2, bd_s, if_neg (show ¬ (1 : Int32) = 0 by decide), gd_i (vp_in_nI (by omega) (by omega)), nI_clamp (by omega), g4, if_neg (nI_ne0 (by omega) (by omega))]
  · refine ⟨0, σ, Mem0 τ 0, ?_, ?_, h'.th⟩
    · unfold X9_strike
      rw [e1, bd_s, if_pos rfl]
    · unfold X10_strike
      show (bd (X10_isItem a1 (Mem0 τ 0)) fun r2 => if r2 = 0 then some (0, Mem0 τ 0) else _) = _
      rw [e2, bd_s, if_pos rfl]
