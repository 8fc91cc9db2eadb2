/-! own words: pure part: levels: tokens on both sides -/
def yW (T : List Nat) (s : Nat) : Nat → Nat := fun j => T.getD (s + j) 0
def cdw (T : List Nat) (s e : Nat) : Int64 := if 2 ≤ e - s ∧ e - s ≤ 7 then lN (WD (yW T s) (e - s)) else 1
theorem cdw_iff {T : List Nat} {s e i : Nat} (hi : i < 5) (hs : ∀ j, s ≤ j → j < e → isS (T.getD j 0) = true) : cdw T s e = sC i ↔ SEG T s e (sW i) := by
  obtain ⟨-, h5, h7, hw⟩ := sW_tab i hi
  have hy : ∀ j, j < e - s → 0 < yW T s j ∧ yW T s j < 256 := fun j hj => by
    have := isS_iff.mp (hs (s + j) (by omega) (by omega))
    unfold yW
    omega
  have hw2 : ∀ j, j < (sW i).length → 0 < (sW i).getD j 0 ∧ (sW i).getD j 0 < 256 := fun j hj => by
    have := (hw j hj).2
    omega
  have hwb := WD_bd (y := fun j => (sW i).getD j 0) (sW i).length (fun j hj => (hw2 j hj).2)
  have hp7 : ∀ d, d ≤ 7 → 256 ^ d ≤ 256 ^ 7 := fun d hd => Nat.pow_le_pow_right (by omega) hd
  have hw63 : WD (fun j => (sW i).getD j 0) (sW i).length < 2 ^ 63 := by
    have := hp7 _ h7
    omega
  rw [sC_tab i hi]
  unfold cdw
  by_cases h : 2 ≤ e - s ∧ e - s ≤ 7
  · rw [if_pos h]
    have hb := WD_bd (y := yW T s) (e - s) (fun j hj => (hy j hj).2)
    have hb7 := hp7 _ h.2
    constructor
    · intro z
      obtain ⟨z1, z2⟩ := WD_inj _ _ hy hw2 (lN_inj (by omega) hw63 z)
      exact ⟨z1, fun j hj => z2 j (by omega)⟩
    · rintro ⟨z1, z2⟩
      have e1 : ∀ d, d ≤ e - s → WD (yW T s) d = WD (fun j => (sW i).getD j 0) d := by
        intro d
        induction d with
        | zero => exact fun _ => rfl
        | succ d ih =>
          intro hd
          show WD (yW T s) d * 256 + yW T s d = WD (fun j => (sW i).getD j 0) d * 256 + (sW i).getD d 0
          rw [ih (by omega), show yW T s d = (sW i).getD d 0 from z2 d (by omega)]
      rw [e1 _ (Nat.le_refl _), z1]
  · rw [if_neg h]
    constructor
    · intro z
      have z' : lN 1 = lN (WD (fun j => (sW i).getD j 0) (sW i).length) := z
      have := lN_inj (by omega) hw63 z'
      have h2 : WD (fun j => (sW i).getD j 0) 1 ≠ 1 := by
        have := (hw 0 (by omega)).2
        show 0 * 256 + (sW i).getD 0 0 ≠ 1
        omega
      have h3 : WD (fun _ => 1) 1 = WD (fun j => (sW i).getD j 0) (sW i).length := this
      obtain ⟨z1, -⟩ := WD_inj _ _ (fun j _ => ⟨by omega, by omega⟩) hw2 h3
      omega
    · rintro ⟨z1, -⟩
      omega
/-- a word is none of the other tokens -/
theorem cdw_ne {T : List Nat} {s e : Nat} (hs : ∀ j, s ≤ j → j < e → isS (T.getD j 0) = true) : cdw T s e ≠ 0 ∧ cdw T s e ≠ 59 ∧ cdw T s e ≠ -1 := by
  have hy : ∀ j, j < e - s → 97 ≤ yW T s j ∧ yW T s j ≤ 122 := fun j hj => isS_iff.mp (hs (s + j) (by omega) (by omega))
  unfold cdw
  by_cases h : 2 ≤ e - s ∧ e - s ≤ 7
  · rw [if_pos h]
    have hb := WD_bd (y := yW T s) (e - s) (fun j hj => by have := hy j hj; omega)
    have hb7 : 256 ^ (e - s) ≤ 256 ^ 7 := Nat.pow_le_pow_right (by omega) h.2
    have hlo : 97 ≤ WD (yW T s) (e - s) := by
      obtain ⟨d, hd⟩ : ∃ d, e - s = d + 1 := ⟨e - s - 1, by omega⟩
      rw [hd]
      have := hy d (by omega)
      show 97 ≤ WD (yW T s) d * 256 + yW T s d
      omega
    refine ⟨fun z => ?_, fun z => ?_, fun z => ?_⟩
    · have z' : lN (WD (yW T s) (e - s)) = lN 0 := z
      have := lN_inj (by omega) (by omega) z'
      omega
    · have z' : lN (WD (yW T s) (e - s)) = lN 59 := z
      have h59 := lN_inj (by omega) (by omega) z'
      omega
    · have e1 : (lN (WD (yW T s) (e - s))).toBitVec.toNat = WD (yW T s) (e - s) := Nat.mod_eq_of_lt (by omega)
      rw [z] at e1
      have e2 : (-1 : Int64).toBitVec.toNat = 18446744073709551615 := by decide +kernel
      omega
  · rw [if_neg h]
    decide
theorem x7_small (b : Nat) (hb : b < 256) : X7_isSmallLetter (nI b) = some (if isS b then 1 else 0) := (by decide +kernel : ∀ b, b < 256 → X7_isSmallLetter (nI b) = some (if isS b then 1 else 0)) b hb
theorem x10_small (b : Nat) (hb : b < 256) : X10_isSmall (nI b) = some (if isS b then 1 else 0) := x7_small b hb
theorem x8_w15 {T : List Nat} {μ : Mem} {i s e : Nat} (h : TXT T μ) (hi : i < 5) (he : e ≤ T.length) (hl : e - s = (sW i).length) (hse : s ≤ e) : ∀ (d j m : Nat), j + d = (sW i).length → d < m → ∃ v, X8_isWord_15 (nI s) (nI e) i μ m (nI j) = some v ∧ ((∀ t, j ≤ t → t < (sW i).length → T.getD (s + t) 0 = (sW i).getD t 0) → v = 1) ∧ (¬ (∀ t, j ≤ t → t < (sW i).length → T.getD (s + t) 0 = (sW i).getD t 0) → v = 0) := by
  have h200 := h.1
  obtain ⟨hl0, -, h7, hw⟩ := sW_tab i hi
  intro d
  induction d with
  | zero =>
    intro j m hj hm
    obtain ⟨m, rfl⟩ : ∃ z, m = z + 1 := ⟨m - 1, by omega⟩
    refine ⟨1, ?_, fun _ => rfl, fun z => absurd (fun t h1 h2 => by omega) z⟩
    unfold X8_isWord_15
    rw [hl0, if_pos (nI_le (by omega) (by omega))]
  | succ d ih =>
    intro j m hj hm
    obtain ⟨m, rfl⟩ : ∃ z, m = z + 1 := ⟨m - 1, by omega⟩
    have hb := h.2.2.2 (s + j) (by omega)
    obtain ⟨w1, w2, w3⟩ := hw j (by omega)
    unfold X8_isWord_15
    rw [hl0, if_neg (nI_ge (by omega) (by omega)), nI_add, x8_byteAt h (by omega), bd_s, if_pos (show s + j < T.length by omega), gd_i (vp_in_nI (by omega) (by omega)), nI_clamp (by omega), w1]
    by_cases e : T.getD (s + j) 0 = (sW i).getD j 0
    · rw [if_pos (by rw [e])]
      simp only [lt]
      rw [nI_1]
      obtain ⟨v, g1, g2, g3⟩ := ih (j + 1) m (by omega) (by omega)
      refine ⟨v, g1, fun z => g2 fun t h1 h2 => z t (by omega) h2, fun z => g3 fun z2 => z fun t h1 h2 => ?_⟩
      rcases Nat.lt_or_ge j t with q | q
      · exact z2 t q h2
      · rw [show t = j by omega]
        exact e
    · rw [if_neg (fun z => e ((nI_eq (by omega) (by omega)).mp z))]
      exact ⟨0, rfl, fun z => absurd (z j (Nat.le_refl _) (by omega)) e, fun _ => rfl⟩
theorem x8_isWord {T : List Nat} {μ : Mem} {i s e : Nat} (h : TXT T μ) (hi : i < 5) (he : e ≤ T.length) (hse : s ≤ e) : ∃ v, X8_isWord (nI s) (nI e) i μ = some v ∧ (SEG T s e (sW i) → v = 1) ∧ (¬ SEG T s e (sW i) → v = 0) := by
  have h200 := h.1
  obtain ⟨hl0, -, h7, hw⟩ := sW_tab i hi
  unfold X8_isWord
  rw [pk_sub hse, hl0]
  by_cases hl : e - s = (sW i).length
  · rw [if_pos (by rw [hl])]
    obtain ⟨v, g1, g2, g3⟩ := x8_w15 h hi he hl hse (sW i).length 0 FU (by omega) (by unfold FU; omega)
    exact ⟨v, g1, fun z => g2 fun j _ h2 => z.2 j h2, fun z => g3 fun z2 => z ⟨hl, fun j h2 => z2 j (Nat.zero_le _) h2⟩⟩
  · rw [if_neg (fun z => hl ((nI_eq (by omega) (by omega)).mp z))]
    exact ⟨0, rfl, fun z => absurd z.1 hl, fun _ => rfl⟩
theorem word_both {T : List Nat} {μ : Mem} {i s e : Nat} (h : TXT T μ) (hi : i < 5) (he : e ≤ T.length) (hse : s ≤ e) (hs : ∀ j, s ≤ j → j < e → isS (T.getD j 0) = true) : (X8_isWord (nI s) (nI e) i μ = some 1 ∧ lg_cmp (cdw T s e) (sC i) = 0) ∨ (X8_isWord (nI s) (nI e) i μ = some 0 ∧ ¬ lg_cmp (cdw T s e) (sC i) = 0) := by
  obtain ⟨v, g1, g2, g3⟩ := x8_isWord h hi he hse
  by_cases z : SEG T s e (sW i)
  · rw [g2 z] at g1
    exact Or.inl ⟨g1, (lg_cmp_eq _ _).mpr ((cdw_iff hi hs).mpr z)⟩
  · rw [g3 z] at g1
    exact Or.inr ⟨g1, fun k => z ((cdw_iff hi hs).mp ((lg_cmp_eq _ _).mp k))⟩
theorem form_both {T : List Nat} {μ τ : Mem} {s e : Nat} (h : TXT T μ) (he : e ≤ T.length) (hse : s ≤ e) (hs : ∀ j, s ≤ j → j < e → isS (T.getD j 0) = true) : ∃ r, X7_formNamed (nI s) (nI e) μ = some r ∧ X10_formOf τ (cdw T s e) = some r ∧ (r = -1 ∨ ∃ f, f < 4 ∧ r = nI f) := by
  have w1 := word_both h (i := 1) (by omega) he hse hs
  have w2 := word_both h (i := 2) (by omega) he hse hs
  have w3 := word_both h (i := 3) (by omega) he hse hs
  have w4 := word_both h (i := 4) (by omega) he hse hs
  change (_ ∧ lg_cmp (cdw T s e) 121450625394034 = 0) ∨ (_ ∧ ¬ lg_cmp (cdw T s e) 121450625394034 = 0) at w1
  change (_ ∧ lg_cmp (cdw T s e) 491495711086 = 0) ∨ (_ ∧ ¬ lg_cmp (cdw T s e) 491495711086 = 0) at w2
  change (_ ∧ lg_cmp (cdw T s e) 119183001281906 = 0) ∨ (_ ∧ ¬ lg_cmp (cdw T s e) 119183001281906 = 0) at w3
  change (_ ∧ lg_cmp (cdw T s e) 495756340332 = 0) ∨ (_ ∧ ¬ lg_cmp (cdw T s e) 495756340332 = 0) at w4
  unfold X7_formNamed X10_formOf
  have n1 : ¬ (1 : Int32) = 0 := by decide
  rcases w1 with ⟨a1, b1⟩ | ⟨a1, b1⟩
  · rw [a1, bd_s, if_neg n1, if_pos b1]
    exact ⟨0, rfl, rfl, Or.inr ⟨0, by omega, rfl⟩⟩
  · rw [a1, bd_s, if_pos rfl, if_neg b1]
    rcases w2 with ⟨a2, b2⟩ | ⟨a2, b2⟩
    · rw [a2, bd_s, if_neg n1, if_pos b2]
      exact ⟨1, rfl, rfl, Or.inr ⟨1, by omega, rfl⟩⟩
    · rw [a2, bd_s, if_pos rfl, if_neg b2]
      rcases w3 with ⟨a3, b3⟩ | ⟨a3, b3⟩
      · rw [a3, bd_s, if_neg n1, if_pos b3]
        exact ⟨2, rfl, rfl, Or.inr ⟨2, by omega, rfl⟩⟩
      · rw [a3, bd_s, if_pos rfl, if_neg b3]
        rcases w4 with ⟨a4, b4⟩ | ⟨a4, b4⟩
        · rw [a4, bd_s, if_neg n1, if_pos b4]
          exact ⟨3, rfl, rfl, Or.inr ⟨3, by omega, rfl⟩⟩
        · rw [a4, bd_s, if_pos rfl, if_neg b4]
          exact ⟨-1, rfl, rfl, Or.inl rfl⟩
