/-! own words: pure part: items; about -/
theorem x3_has {n : Nat} {lv ur cm st od : Nat → Nat} {μ : Mem} (h : CIT n lv ur cm st od μ) (h80 : n ≤ 80) (a : Int32) : (X3_has a μ = some 1 ∧ ∃ k, k < n ∧ a = nI k) ∨ (X3_has a μ = some 0 ∧ ∀ k, k < n → a ≠ nI k) := by
  unfold X3_has
  rw [h.1]
  by_cases h0 : a < 0
  · rw [if_pos h0]
    exact Or.inr ⟨rfl, fun k hk e => nI_pos (show k < 2 ^ 31 by omega) (e ▸ h0)⟩
  · rw [if_neg h0]
    by_cases h1 : nI n ≤ a
    · rw [if_pos h1]
      exact Or.inr ⟨rfl, fun k hk e => nI_ge hk (by omega) (e ▸ h1)⟩
    · rw [if_neg h1]
      exact Or.inl ⟨rfl, i32_ix h0 h1 (by omega)⟩
theorem x10_item {n : Nat} {lv ur cm st od : Nat → Nat} {τ : Mem} (h : BIT n lv ur cm st od τ) (h80 : n ≤ 80) (a : Int32) : (X10_isItem a τ = some 1 ∧ ∃ k, k < n ∧ a = nI k) ∨ (X10_isItem a τ = some 0 ∧ ∀ k, k < n → a ≠ nI k) := by
  unfold X10_isItem
  rw [h.1]
  by_cases h0 : a < 0
  · rw [if_pos h0]
    exact Or.inr ⟨rfl, fun k hk e => nI_pos (show k < 2 ^ 31 by omega) (e ▸ h0)⟩
  · rw [if_neg h0]
    by_cases h1 : nI n ≤ a
    · rw [if_pos h1]
      exact Or.inr ⟨rfl, fun k hk e => nI_ge hk (by omega) (e ▸ h1)⟩
    · rw [if_neg h1]
      exact Or.inl ⟨rfl, i32_ix h0 h1 (by omega)⟩
/-- an Int32 names an item, or not: on both sides -/
theorem has_both {n : Nat} {lv ur cm st od : Nat → Nat} {μ τ : Mem} (h : CIT n lv ur cm st od μ) (h' : BIT n lv ur cm st od τ) (h80 : n ≤ 80) (a : Int32) : (X3_has a μ = some 1 ∧ X10_isItem a τ = some 1 ∧ ∃ k, k < n ∧ a = nI k) ∨ (X3_has a μ = some 0 ∧ X10_isItem a τ = some 0 ∧ ∀ k, k < n → a ≠ nI k) := by
  rcases x3_has h h80 a with ⟨e1, k, hk, e⟩ | ⟨e1, e⟩
  · rcases x10_item h' h80 a with ⟨e2, -⟩ | ⟨e2, e3⟩
    · exact Or.inl ⟨e1, e2, k, hk, e⟩
    · exact absurd e (e3 k hk)
  · rcases x10_item h' h80 a with ⟨e2, k, hk, e3⟩ | ⟨e2, e3⟩
    · exact absurd e3 (e k hk)
    · exact Or.inr ⟨e1, e2, e⟩
theorem has_k {n : Nat} {lv ur cm st od : Nat → Nat} {μ : Mem} (h : CIT n lv ur cm st od μ) (h80 : n ≤ 80) {k : Nat} (hk : k < n) : X3_has (nI k) μ = some 1 := by
  rcases x3_has h h80 (nI k) with ⟨e, -⟩ | ⟨-, e⟩
  · exact e
  · exact absurd rfl (e k hk)
theorem eU_inj {a b : Nat} (ha : a ≤ 80) (hb : b ≤ 80) : eU a = eU b ↔ a = b := by
  have m1 : ∀ k, k < 81 → ¬ nI k = -1 := by decide
  cases a with
  | zero =>
    cases b with
    | zero => exact ⟨fun _ => rfl, fun _ => rfl⟩
    | succ b => exact ⟨fun e => absurd (show nI b = -1 from e.symm) (m1 b (by omega)), fun e => by omega⟩
  | succ a =>
    cases b with
    | zero => exact ⟨fun e => absurd (show nI a = -1 from e) (m1 a (by omega)), fun e => by omega⟩
    | succ b =>
      show nI a = nI b ↔ _
      rw [nI_eq (by omega) (by omega)]
      omega
theorem WIT.u80 {L n : Nat} {lv ur st od : Nat → Nat} (h : WIT L n lv ur st od) {k : Nat} (hk : k < n) : ur k ≤ 80 := by
  have h1 := (h.2.1 k hk).2.2.2
  have h80 := h.1
  cases hu : ur k with
  | zero => omega
  | succ j =>
    have := (h1 j hu).1
    omega
/-- whether two items lie in one row -/
def rowB (th lv ur : Nat → Nat) (a b : Nat) : Prop := lv a = lv b ∧ (th (lv b) ≠ 0 ∨ ur a = ur b)
theorem x6_thr {L : Nat} {fm th : Nat → Nat} {μ : Mem} (h : CLV L fm th μ) (hw : WLV L fm th) {k : Nat} (hk : k < L) : X6_isThrough (nI k) μ = some (nI (th k)) := by
  have hL := hw.2.1
  have ht := (hw.2.2 k hk).2
  unfold X6_isThrough
  rw [if_neg (nI_pos (by omega)), h.1, if_neg (nI_ge hk (by omega)), gd_i (vp_in_nI (by omega) (by omega)), nI_clamp (by omega), (h.2 k hk).2]
  by_cases h0 : th k = 0
  · rw [h0, if_pos (show nI 0 = 0 from rfl)]
    rfl
  · rw [if_neg (nI_ne0 (by omega) (by omega)), show th k = 1 by omega]
    rfl
theorem x3_row {n : Nat} {lv ur cm st od : Nat → Nat} {μ : Mem} (h : CIT n lv ur cm st od μ) (h80 : n ≤ 80) {L : Nat} (hw : WIT L n lv ur st od) (hL : L ≤ 4) {k l t u : Nat} (hk : k < n) (hl : l ≤ 4) (ht : t < 2) (hu : u ≤ 80) : X3_isInRow (nI k) (nI l) (eU u) (nI t) μ = some (if lv k = l ∧ (t ≠ 0 ∨ ur k = u) then 1 else 0) := by
  obtain ⟨e1, e2, -⟩ := h.2.2.1 k hk
  have hlv := (hw.2.1 k hk).1
  unfold X3_isInRow
  rw [has_k h h80 hk, bd_s, if_neg (show ¬ (1 : Int32) = 0 by decide), gd_i (vp_in_nI (by omega) (by omega)), gd_i (vp_in_nI (by omega) (by omega)), nI_clamp (by omega), e1, e2]
  by_cases h1 : lv k = l
  · rw [if_pos (show nI (lv k) = nI l by rw [h1])]
    by_cases h2 : t = 0
    · rw [if_pos (show nI t = 0 by rw [h2]; rfl)]
      by_cases h3 : ur k = u
      · rw [if_pos ((eU_inj (hw.u80 hk) hu).mpr h3), if_pos ⟨h1, Or.inr h3⟩]
      · rw [if_neg (fun z => h3 ((eU_inj (hw.u80 hk) hu).mp z)), if_neg (fun z => z.2.elim (fun z => z h2) h3)]
    · rw [if_neg (nI_ne0 (by omega) (by omega)), if_pos ⟨h1, Or.inl h2⟩]
  · rw [if_neg (fun z => h1 ((nI_eq (by omega) (by omega)).mp z)), if_neg (fun z => h1 z.1)]
theorem x10_row {n L : Nat} {lv ur cm st od fm th : Nat → Nat} {τ : Mem} (h : BIT n lv ur cm st od τ) (hl : BLV L fm th τ) (hwl : WLV L fm th) (hw : WIT L n lv ur st od) {a b : Nat} (ha : a < n) (hb : b < n) : X10_isInRow (nI a) (nI b) τ = some (if lv a = lv b ∧ (th (lv b) ≠ 0 ∨ ur a = ur b) then 1 else 0) := by
  obtain ⟨e1, e2, -⟩ := h.2.1 a ha
  obtain ⟨e3, e4, -⟩ := h.2.1 b hb
  have h80 := hw.1
  have hL := hwl.2.1
  have hla := (hw.2.1 a ha).1
  have hlb := (hw.2.1 b hb).1
  have ht := (hwl.2.2 _ hlb).2
  unfold X10_isInRow
  rw [gd_i (vp_in_nI (by omega) (by omega)), gd_i (vp_in_nI (by omega) (by omega)), nI_clamp (by omega), nI_clamp (by omega), e1, e3, gd_i (vp_in_nI (by omega) (by omega)), gd_i (vp_in_nI (show lv b < 4 by omega) (by omega)), nI_clamp (show lv b < 2 ^ 31 by omega), (hl.2 _ hlb).2, gd_i (vp_in_nI (by omega) (by omega)), gd_i (vp_in_nI (by omega) (by omega)), e2, e4]
  by_cases h1 : lv a = lv b
  · rw [if_pos (show nI (lv a) = nI (lv b) by rw [h1])]
    by_cases h2 : th (lv b) = 0
    · rw [if_pos (show nI (th (lv b)) = 0 by rw [h2]; rfl)]
      by_cases h3 : ur a = ur b
      · rw [if_pos ((eU_inj (hw.u80 ha) (hw.u80 hb)).mpr h3), if_pos ⟨h1, Or.inr h3⟩]
      · rw [if_neg (fun z => h3 ((eU_inj (hw.u80 ha) (hw.u80 hb)).mp z)), if_neg (fun z => z.2.elim (fun z => z h2) h3)]
    · rw [if_neg (nI_ne0 (by omega) (by omega)), if_pos ⟨h1, Or.inl h2⟩]
  · rw [if_neg (fun z => h1 ((nI_eq (by omega) (by omega)).mp z)), if_neg (fun z => h1 z.1)]
theorem x3_place {n : Nat} {lv ur cm st od : Nat → Nat} {μ : Mem} (h : CIT n lv ur cm st od μ) {L : Nat} (hw : WIT L n lv ur st od) {p : Nat} (hp : p < n) : X3_placeOf (nI (od p)) μ = some (nI p) := by
  have h80 := hw.1
  have key : ∀ (d q m : Nat), q + d = p → d < m → X3_placeOf_2 (nI (od p)) μ m (nI q) = some (nI p) := by
    intro d
    induction d with
    | zero =>
      intro q m hq hm
      obtain ⟨m, rfl⟩ : ∃ m', m = m' + 1 := ⟨m - 1, by omega⟩
      obtain rfl : q = p := by omega
      unfold X3_placeOf_2
      rw [h.1, if_neg (nI_ge hp (by omega)), gd_i (vp_in_nI (by omega) (by omega)), nI_clamp (by omega), h.2.2.2 q hp, if_pos rfl]
    | succ d ih =>
      intro q m hq hm
      obtain ⟨m, rfl⟩ : ∃ m', m = m' + 1 := ⟨m - 1, by omega⟩
      have hq1 := hw.2.2.1 q (by omega)
      have hp1 := hw.2.2.1 p hp
      unfold X3_placeOf_2
      rw [h.1, if_neg (nI_ge (by omega) (by omega)), gd_i (vp_in_nI (by omega) (by omega)), nI_clamp (by omega), h.2.2.2 q (by omega), if_neg (fun z => by
        have := hw.2.2.2.1 q p (by omega) hp ((nI_eq (by omega) (by omega)).mp z)
        omega)]
      simp only [lt]
      rw [nI_1]
      exact ih (q + 1) m (by omega) (by omega)
  exact key p 0 FU (by omega) (by unfold FU; omega)
theorem x10_place {n : Nat} {lv ur cm st od : Nat → Nat} {τ : Mem} (h : BIT n lv ur cm st od τ) {L : Nat} (hw : WIT L n lv ur st od) {p : Nat} (hp : p < n) : X10_placeOf (nI (od p)) τ = some (nI p) := by
  have h80 := hw.1
  have key : ∀ (d q m : Nat), q + d = p → d < m → X10_placeOf_2 (nI (od p)) τ m (nI q) = some (nI p) := by
    intro d
    induction d with
    | zero =>
      intro q m hq hm
      obtain ⟨m, rfl⟩ : ∃ m', m = m' + 1 := ⟨m - 1, by omega⟩
      obtain rfl : q = p := by omega
      unfold X10_placeOf_2
      rw [gd_i (vp_in_nI (by omega) (by omega)), nI_clamp (by omega), h.2.2 q hp, if_pos rfl]
    | succ d ih =>
      intro q m hq hm
      obtain ⟨m, rfl⟩ : ∃ m', m = m' + 1 := ⟨m - 1, by omega⟩
      have hq1 := hw.2.2.1 q (by omega)
      have hp1 := hw.2.2.1 p hp
      unfold X10_placeOf_2
      rw [gd_i (vp_in_nI (by omega) (by omega)), nI_clamp (by omega), h.2.2 q (by omega), if_neg (fun z => by
        have := hw.2.2.2.1 q p (by omega) hp ((nI_eq (by omega) (by omega)).mp z)
        omega)]
      simp only [lt]
      rw [nI_1]
      exact ih (q + 1) m (by omega) (by omega)
  exact key p 0 FU (by omega) (by unfold FU; omega)
/-- how many of the row ahead of a place -/
def rowC (th lv ur od : Nat → Nat) (k : Nat) : Nat → Nat
  | 0 => 0
  | q + 1 => rowC th lv ur od k q + (if lv (od q) = lv k ∧ (th (lv k) ≠ 0 ∨ ur (od q) = ur k) then 1 else 0)
theorem rowC_s {th lv ur od : Nat → Nat} {k q : Nat} : rowC th lv ur od k (q + 1) = rowC th lv ur od k q + (if lv (od q) = lv k ∧ (th (lv k) ≠ 0 ∨ ur (od q) = ur k) then 1 else 0) := rfl
theorem rowC_le {th lv ur od : Nat → Nat} {k : Nat} : ∀ q, rowC th lv ur od k q ≤ q := by
  intro q
  induction q with
  | zero => exact Nat.le_refl _
  | succ q ih =>
    unfold rowC
    split <;> omega
theorem x3_pir {n L : Nat} {lv ur cm st od th fm : Nat → Nat} {μ : Mem} (h : CIT n lv ur cm st od μ) (hwl : WLV L fm th) (hw : WIT L n lv ur st od) {p : Nat} (hp : p < n) : X3_placeInRow (nI (od p)) (nI (th (lv (od p)))) μ = some (nI (rowC th lv ur od (od p) p)) := by
  have h80 := hw.1
  have hL := hwl.2.1
  have hk := hw.2.2.1 p hp
  obtain ⟨e1, e2, -⟩ := h.2.2.1 _ hk
  have hlv := (hw.2.1 _ hk).1
  have ht := (hwl.2.2 _ hlv).2
  have key : ∀ (d q m : Nat), q + d = p → d < m → X3_placeInRow_12 (nI (od p)) (nI (th (lv (od p)))) μ m (nI (rowC th lv ur od (od p) q)) (nI p) (nI q) = some (nI (rowC th lv ur od (od p) p)) := by
    intro d
    induction d with
    | zero =>
      intro q m hq hm
      obtain ⟨m, rfl⟩ : ∃ m', m = m' + 1 := ⟨m - 1, by omega⟩
      obtain rfl : q = p := by omega
      unfold X3_placeInRow_12
      rw [if_pos (nI_le (by omega) (by omega))]
    | succ d ih =>
      intro q m hq hm
      obtain ⟨m, rfl⟩ : ∃ m', m = m' + 1 := ⟨m - 1, by omega⟩
      have hq1 := hw.2.2.1 q (by omega)
      have hi := ih (q + 1) m (by omega) (by omega)
      unfold X3_placeInRow_12
      rw [if_neg (nI_ge (by omega) (by omega)), gd_i (vp_in_nI (by omega) (by omega)), gd_i (vp_in_nI (by omega) (by omega)), gd_i (vp_in_nI (by omega) (by omega)), nI_clamp (by omega), nI_clamp (by omega), h.2.2.2 q (by omega), e1, e2, x3_row h h80 hw hL hq1 (by omega) ht (hw.u80 hk), bd_s]
      rw [rowC_s] at hi
      by_cases hr : lv (od q) = lv (od p) ∧ (th (lv (od p)) ≠ 0 ∨ ur (od q) = ur (od p))
      · rw [if_pos hr] at hi ⊢
        rw [if_neg (show ¬ (1 : Int32) = 0 by decide)]
        simp only [lt]
        rw [nI_1, nI_1]
        exact hi
      · rw [if_neg hr] at hi ⊢
        rw [if_pos rfl]
        simp only [lt]
        rw [nI_1]
        exact hi
  unfold X3_placeInRow
  rw [x3_place h hw hp, bd_s]
  exact key p 0 FU (by omega) (by unfold FU; omega)
theorem x10_pir {n L : Nat} {lv ur cm st od th fm : Nat → Nat} {τ : Mem} {a2 : Int32} (h : BIT n lv ur cm st od τ) (hl : BLV L fm th τ) (hwl : WLV L fm th) (hw : WIT L n lv ur st od) {p : Nat} (hp : p < n) : X10_about_100 (nI (od p)) a2 FU 0 0 τ = some (nI (rowC th lv ur od (od p) p), τ) := by
  have h80 := hw.1
  have hk := hw.2.2.1 p hp
  have key : ∀ (d q m : Nat), q + d = p → d < m → X10_about_100 (nI (od p)) a2 m (nI (rowC th lv ur od (od p) q)) (nI q) τ = some (nI (rowC th lv ur od (od p) p), τ) := by
    intro d
    induction d with
    | zero =>
      intro q m hq hm
      obtain ⟨m, rfl⟩ : ∃ m', m = m' + 1 := ⟨m - 1, by omega⟩
      obtain rfl : q = p := by omega
      unfold X10_about_100
      rw [x10_place h hw hp, bd_s, if_pos (nI_le (by omega) (by omega))]
    | succ d ih =>
      intro q m hq hm
      obtain ⟨m, rfl⟩ : ∃ m', m = m' + 1 := ⟨m - 1, by omega⟩
      have hq1 := hw.2.2.1 q (by omega)
      have hi := ih (q + 1) m (by omega) (by omega)
      unfold X10_about_100
      rw [x10_place h hw hp, bd_s, if_neg (nI_ge (by omega) (by omega)), gd_i (vp_in_nI (by omega) (by omega)), nI_clamp (by omega), h.2.2 q (by omega), x10_row h hl hwl hw hq1 hk, bd_s]
      rw [rowC_s] at hi
      by_cases hr : lv (od q) = lv (od p) ∧ (th (lv (od p)) ≠ 0 ∨ ur (od q) = ur (od p))
      · rw [if_pos hr] at hi ⊢
        rw [if_neg (show ¬ (1 : Int32) = 0 by decide)]
        simp only [lt]
        rw [nI_1, nI_1]
        exact hi
      · rw [if_neg hr] at hi ⊢
        rw [if_pos rfl]
        simp only [lt]
        rw [nI_1]
        have e0 : nI (rowC th lv ur od (od p) q) + 0 = nI (rowC th lv ur od (od p) q + 0) := nI_add _ 0
        rw [e0]
        exact hi
  have := key p 0 FU (by omega) (by unfold FU; omega)
  exact this
theorem pu_about : PU_about Rel0 := by
  intro i σ τ w κ a1 a2 hi h
  have h' := h
  obtain ⟨T, O, L, fm, th, dy, n, lv, ur, cm, st, od, H, R, A, c, r, s4, hw⟩ := h
  obtain ⟨c1, c2, c3, c4, c5, c6, c7⟩ := c
  obtain ⟨b1, b2, b3, b4, b5, b6, b7, b8⟩ := r
  obtain ⟨wl, wi, -⟩ := hw
  have h80 := wi.1
  have bad : X9_about a1 a2 σ = some none → X10_about a1 a2 τ = X10_about_23 a1 a2 1 τ → ∃ (res : Option Int32) (b : Int32) (τ1 : Mem), X9_about a1 a2 σ = some res ∧ X10_about a1 a2 τ = some (b, τ1) ∧ X10_thrown τ1 = some (rL res) ∧ (∀ v, res = some v → v = b) ∧ Rel0 (i + 6) σ τ1 w κ := fun e1 e2 => by
    refine ⟨none, 0, Mem0 τ 1, e1, ?_, rfl, (fun v hv => by cases hv), h'.th⟩
    rw [e2]
    rfl
  have good : ∀ v : Int32, X9_about a1 a2 σ = some (some v) → X10_about a1 a2 τ = some (v, Mem0 τ 0) → ∃ (res : Option Int32) (b : Int32) (τ1 : Mem), X9_about a1 a2 σ = some res ∧ X10_about a1 a2 τ = some (b, τ1) ∧ X10_thrown τ1 = some (rL res) ∧ (∀ v, res = some v → v = b) ∧ Rel0 (i + 6) σ τ1 w κ := fun v e1 e2 => ⟨some v, v, Mem0 τ 0, e1, e2, rfl, (fun v' hv => by cases hv; rfl), h'.th⟩
  rcases has_both c4 b4 h80 a1 with ⟨e1, e2, k, hk, rfl⟩ | ⟨e1, e2, -⟩
  · obtain ⟨p, hp, rfl⟩ := wi.2.2.2.2.1 k hk
    obtain ⟨f1, f2, f3, f4⟩ := c4.2.2.1 _ hk
    obtain ⟨g1, g2, g3, g4⟩ := b4.2.1 _ hk
    have hlv := (wi.2.1 _ hk).1
    have hst := (wi.2.1 _ hk).2.1
    have u9 : X9_about (nI (od p)) a2 σ = if a2 = 0 then some (some (nI (lv (od p)))) else if a2 = 1 then some (some (eU (ur (od p)))) else if a2 = 2 then some (some (nI (st (od p)))) else if a2 = 3 then some (some (nI (rowC th lv ur od (od p) p))) else if a2 = 4 then some (some (nI p)) else if a2 = 5 then some (some (nI (cm (od p)))) else some none := by
      unfold X9_about
      have z4 : (if σ 19 (od p) = 0 then some (some (0 : Int32)) else some (some 1)) = some (some (nI (st (od p)))) := by
        have f4 : σ 19 (od p) = nI (st (od p)) := f4
        rw [f4]
        rcases (show st (od p) = 0 ∨ st (od p) = 1 by omega) with e | e <;> rw [e] <;> rfl
      have z3 : (bd (X6_isThrough (σ 16 (od p)) (mp σ [5, 6, 7])) fun r12 => bd (X3_placeInRow (nI (od p)) r12 (mp σ [15, 16, 17, 18, 19, 20])) fun r13 => some (some r13)) = some (some (nI (rowC th lv ur od (od p) p))) := by
        have f1 : σ 16 (od p) = nI (lv (od p)) := f1
        rw [f1, x6_thr c3 wl hlv, bd_s, x3_pir c4 wl wi hp, bd_s]
      rw [e1, bd_s, if_neg (show ¬ (1 : Int32) = 0 by decide), gd_i (vp_in_nI (by omega) (by omega)), gd_i (vp_in_nI (by omega) (by omega)), gd_i (vp_in_nI (by omega) (by omega)), gd_i (vp_in_nI (by omega) (by omega)), gd_i (vp_in_nI (by omega) (by omega)), nI_clamp (by omega), z4, z3, x3_place c4 wi hp, bd_s]
      rw [show σ 16 (od p) = nI (lv (od p)) from f1, show σ 17 (od p) = eU (ur (od p)) from f2, show σ 18 (od p) = nI (cm (od p)) from f3]
    have u10 : X10_about (nI (od p)) a2 τ = if a2 < 0 then X10_about_23 (nI (od p)) a2 1 τ else if a2 ≤ 5 then X10_about_23 (nI (od p)) a2 0 τ else X10_about_23 (nI (od p)) a2 1 τ := by
      unfold X10_about
      rw [e2, bd_s, if_neg (show ¬ (1 : Int32) = 0 by decide)]
      rfl
    have b4' : BIT n lv ur cm st od (Mem0 τ 0) := b4.fr fr0 (by decide) (by decide)
    have b3' : BLV L fm th (Mem0 τ 0) := b3.fr fr0 (by decide) (by decide)
    have u23 : X10_about_23 (nI (od p)) a2 0 τ = if a2 = 0 then some (nI (lv (od p)), Mem0 τ 0) else if a2 = 1 then some (eU (ur (od p)), Mem0 τ 0) else if a2 = 2 then some (nI (st (od p)), Mem0 τ 0) else if a2 = 3 then some (nI (rowC th lv ur od (od p) p), Mem0 τ 0) else if a2 = 4 then some (nI p, Mem0 τ 0) else some (nI (cm (od p)), Mem0 τ 0) := by
      unfold X10_about_23
      rw [x10_thr (Or.inl rfl), bd_s]
      simp only [lt]
      have z4 : (if (Mem0 τ 0) 10 (od p) = 0 then some ((0 : Int32), Mem0 τ 0) else some (1, Mem0 τ 0)) = some (nI (st (od p)), Mem0 τ 0) := by
        have f4 : (Mem0 τ 0) 10 (od p) = nI (st (od p)) := g4
        rw [f4]
        rcases (show st (od p) = 0 ∨ st (od p) = 1 by omega) with e | e <;> rw [e] <;> rfl
      rw [if_pos trivial, show up τ 0 0 0 = Mem0 τ 0 from rfl, gd_i (vp_in_nI (by omega) (by omega)), gd_i (vp_in_nI (by omega) (by omega)), gd_i (vp_in_nI (by omega) (by omega)), gd_i (vp_in_nI (by omega) (by omega)), nI_clamp (by omega), z4, x10_pir b4' b3' wl wi hp, x10_place b4' wi hp, bd_s]
      rw [show (Mem0 τ 0) 6 (od p) = nI (lv (od p)) from g1, show (Mem0 τ 0) 7 (od p) = eU (ur (od p)) from g2, show (Mem0 τ 0) 8 (od p) = nI (cm (od p)) from g3]
    by_cases h0 : a2 < 0
    · refine bad ?_ (u10.trans (if_pos h0))
      rw [u9]
      have hne : ∀ j, j < 6 → ¬ a2 = nI j := fun j hj e => nI_pos (show j < 2 ^ 31 by omega) (e ▸ h0)
      rw [if_neg (show ¬ a2 = 0 from hne 0 (by omega)), if_neg (show ¬ a2 = 1 from hne 1 (by omega)), if_neg (show ¬ a2 = 2 from hne 2 (by omega)), if_neg (show ¬ a2 = 3 from hne 3 (by omega)), if_neg (show ¬ a2 = 4 from hne 4 (by omega)), if_neg (show ¬ a2 = 5 from hne 5 (by omega))]
    · rw [if_neg h0] at u10
      by_cases h5 : a2 ≤ 5
      · rw [if_pos h5, u23] at u10
        obtain ⟨j, hj, rfl⟩ := i32_le_nI (n := 5) h0 h5 (by omega)
        rcases (show j = 0 ∨ j = 1 ∨ j = 2 ∨ j = 3 ∨ j = 4 ∨ j = 5 by omega) with rfl | rfl | rfl | rfl | rfl | rfl
        · exact good _ u9 u10
        · exact good _ u9 u10
        · exact good _ u9 u10
        · exact good _ u9 u10
        · exact good _ u9 u10
        · exact good _ u9 u10
      · rw [if_neg h5] at u10
        refine bad ?_ u10
        rw [u9]
        have hne : ∀ j, j < 6 → ¬ a2 = nI j := fun j hj e => h5 (by rw [e]; exact nI_le (b := 5) (by omega) (by omega))
        rw [if_neg (show ¬ a2 = 0 from hne 0 (by omega)), if_neg (show ¬ a2 = 1 from hne 1 (by omega)), if_neg (show ¬ a2 = 2 from hne 2 (by omega)), if_neg (show ¬ a2 = 3 from hne 3 (by omega)), if_neg (show ¬ a2 = 4 from hne 4 (by omega)), if_neg (show ¬ a2 = 5 from hne 5 (by omega))]
  · refine bad ?_ ?_
    · unfold X9_about
      rw [e1, bd_s, if_pos rfl]
    · unfold X10_about
      rw [e2, bd_s, if_pos rfl]
      rfl
