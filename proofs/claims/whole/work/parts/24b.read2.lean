/-! own words: pure part: a label read by the class, to its end -/
def eN (T : List Nat) (f p : Nat) : Nat := neE T f (T.length - p) p
def sS (T : List Nat) (f p : Nat) : Nat := if f ≠ 0 ∧ T.getD (eN T f p) 0 = 45 then eN T f p + 1 else eN T f p
def qS (T : List Nat) (f p : Nat) : Nat := if f = 0 ∨ T.getD (eN T f p) 0 = 45 then ceE T (T.length - sS T f p) (sS T f p) else sS T f p
def gS (T : List Nat) (s q : Nat) : Nat → Nat := fun i => if i < q - s then T.getD (s + i) 0 - 64 else 0
/-- a good label from p on, its numerals up to e, its letters from s to q -/
def GL (T : List Nat) (f p e s q : Nat) : Prop := 1 ≤ VAL T f p e ∧ VAL T f p e ≤ 999 ∧ q - s ≤ 4 ∧ SEG T p q (wlab f (VAL T f p e) (gS T s q))
theorem getD_len (T : List Nat) {i : Nat} (h : T.length ≤ i) : T.getD i 0 = 0 := by
  rw [List.getD_eq_getElem?_getD, List.getElem?_eq_none h]
  rfl
theorem shl8_or {v b : Nat} (hb : b < 256) : (nI v <<< ((8 : Int32) &&& 31)) ||| nI b = nI (v * 256 + b) := by
  apply b_ext
  intro i hi
  have hb8 : b < 2 ^ 8 := hb
  rw [b_or, b_shl8 _ hi, bt_nI _ hi, bt_nI _ hi, show v * 256 + b = 2 ^ 8 * v + b by omega, Nat.testBit_two_pow_mul_add _ hb8]
  by_cases h : i < 8
  · rw [if_pos h]
    simp [Nat.not_le.mpr h]
  · rw [if_neg h, bt_nI _ (by omega), Nat.testBit_lt_two_pow (Nat.lt_of_lt_of_le hb8 (Nat.pow_le_pow_right (by omega) (Nat.not_lt.mp h)))]
    simp [Nat.not_lt.mp h]
/-- letters as the bytes of a number -/
def WD (y : Nat → Nat) : Nat → Nat
  | 0 => 0
  | d + 1 => WD y d * 256 + y d
theorem WD_lt {y : Nat → Nat} : ∀ d, d ≤ 4 → (∀ i, i < d → y i ≤ 90) → WD y d < 2 ^ 31 ∧ ∀ t, t < 4 → WD y d / 2 ^ (8 * t) % 256 = if t < d then y (d - 1 - t) else 0 := by
  intro d hd hy
  rcases (show d = 0 ∨ d = 1 ∨ d = 2 ∨ d = 3 ∨ d = 4 by omega) with rfl | rfl | rfl | rfl | rfl
  · exact ⟨Nat.two_pow_pos 31, fun t _ => by simp [WD]⟩
  · have h0 := hy 0 (by omega)
    refine ⟨by simp only [WD]; omega, fun t ht => ?_⟩
    rcases (show t = 0 ∨ t = 1 ∨ t = 2 ∨ t = 3 by omega) with rfl | rfl | rfl | rfl <;> simp [WD] <;> omega
  · have h0 := hy 0 (by omega)
    have h1 := hy 1 (by omega)
    refine ⟨by simp only [WD]; omega, fun t ht => ?_⟩
    rcases (show t = 0 ∨ t = 1 ∨ t = 2 ∨ t = 3 by omega) with rfl | rfl | rfl | rfl <;> simp [WD] <;> omega
  · have h0 := hy 0 (by omega)
    have h1 := hy 1 (by omega)
    have h2 := hy 2 (by omega)
    refine ⟨by simp only [WD]; omega, fun t ht => ?_⟩
    rcases (show t = 0 ∨ t = 1 ∨ t = 2 ∨ t = 3 by omega) with rfl | rfl | rfl | rfl <;> simp [WD] <;> omega
  · have h0 := hy 0 (by omega)
    have h1 := hy 1 (by omega)
    have h2 := hy 2 (by omega)
    have h3 := hy 3 (by omega)
    refine ⟨by simp only [WD]; omega, fun t ht => ?_⟩
    rcases (show t = 0 ∨ t = 1 ∨ t = 2 ∨ t = 3 by omega) with rfl | rfl | rfl | rfl <;> simp [WD] <;> omega
theorem RS_run {y bv : Nat → Nat} {l : Nat} (hl : l ≤ 4) (hb : ∀ t, t < 4 → bv t = if t < l then y (l - 1 - t) else 0) (hy : ∀ i, i < l → 65 ≤ y i ∧ y i ≤ 90) : ∀ (t x : Nat) (g : Nat → Nat), x + t = l → ∃ g', RS bv t x g = some g' ∧ ∀ i, g' i = if x ≤ i ∧ i < l then y i - 64 else g i := by
  intro t
  induction t with
  | zero => exact fun x g hx => ⟨g, rfl, fun i => (if_neg (by omega)).symm⟩
  | succ t ih =>
    intro x g hx
    have h1 := hb t (by omega)
    rw [if_pos (show t < l by omega), show l - 1 - t = x by omega] at h1
    have h2 := hy x (by omega)
    obtain ⟨g', e1, e2⟩ := ih (x + 1) (ud g x (bv t - 64)) (by omega)
    refine ⟨g', ?_, fun i => ?_⟩
    · unfold RS
      rw [if_neg (show ¬ (bv t = 0 ∧ x = 0) by omega), if_pos (show 65 ≤ bv t ∧ bv t ≤ 90 by omega)]
      exact e1
    · rw [e2 i]
      by_cases z : i = x
      · rw [z, if_neg (by omega), if_pos (by omega), ud_s, h1]
      · rw [ud_n z]
        by_cases z2 : x ≤ i ∧ i < l
        · rw [if_pos z2, if_pos (by omega)]
        · rw [if_neg z2, if_neg (by omega)]
theorem RS_skip {y bv : Nat → Nat} {l : Nat} (hl : l ≤ 4) (hb : ∀ t, t < 4 → bv t = if t < l then y (l - 1 - t) else 0) : ∀ (d t : Nat) (g : Nat → Nat), t = l + d → t ≤ 4 → RS bv t 0 g = RS bv l 0 g := by
  intro d
  induction d with
  | zero => exact fun t g h _ => by rw [show t = l by omega]
  | succ d ih =>
    intro t g h h4
    obtain ⟨t, rfl⟩ : ∃ z, t = z + 1 := ⟨t - 1, by omega⟩
    have h1 := hb t (by omega)
    rw [if_neg (by omega)] at h1
    have e : RS bv (t + 1) 0 g = RS bv t 0 g := if_pos ⟨h1, rfl⟩
    rw [e]
    exact ih t g (by omega) (by omega)
theorem x4_m18 {T : List Nat} {μ : Mem} {a2 a3 : Int32} {s q : Nat} (h : TXT T (mp μ [3, 4])) (hq : q ≤ T.length) (h1 : μ 0 1 = nI q) : ∀ (d i m : Nat), i + d = q → s ≤ i → d < m → X4_meant_18 a2 a3 μ m (nI (WD (fun j => T.getD (s + j) 0) (i - s))) (nI i) = bd (X5_plain a3) fun r2 => X5_withSuffix r2 (nI (WD (fun j => T.getD (s + j) 0) (q - s))) := by
  have h200 := h.1
  intro d
  induction d with
  | zero =>
    intro i m hi hs hm
    obtain ⟨m, rfl⟩ : ∃ z, m = z + 1 := ⟨m - 1, by omega⟩
    unfold X4_meant_18
    rw [h1, if_pos (nI_le (by omega) (by omega)), show i = q by omega]
    cases X5_plain a3 with
    | none => rfl
    | some r2 =>
      rw [bd_s, bd_s]
      cases X5_withSuffix r2 (nI (WD (fun j => T.getD (s + j) 0) (q - s))) with
      | none => rfl
      | some r3 => rfl
  | succ d ih =>
    intro i m hi hs hm
    obtain ⟨m, rfl⟩ : ∃ z, m = z + 1 := ⟨m - 1, by omega⟩
    have hb := h.2.2.2 i (by omega)
    unfold X4_meant_18
    rw [h1, if_neg (nI_ge (by omega) (by omega)), x8_byteAt h (by omega), bd_s, if_pos (show i < T.length by omega), shl8_or hb]
    simp only [lt]
    rw [nI_1]
    have e : WD (fun j => T.getD (s + j) 0) (i - s) * 256 + T.getD i 0 = WD (fun j => T.getD (s + j) 0) (i + 1 - s) := by
      rw [show i + 1 - s = (i - s) + 1 by omega]
      show _ = WD (fun j => T.getD (s + j) 0) (i - s) * 256 + T.getD (s + (i - s)) 0
      rw [show s + (i - s) = i by omega]
    rw [e]
    exact ih (i + 1) m (by omega) (by omega) (by omega)
theorem gS_ok {T : List Nat} {s q : Nat} (hq : q - s ≤ 4) (hg : ∀ j, s ≤ j → j < q → isG (T.getD j 0) = true) : G26 (gS T s q) ∧ GC (gS T s q) ∧ nl (gS T s q) = q - s := by
  have hy : ∀ i, i < q - s → 65 ≤ T.getD (s + i) 0 ∧ T.getD (s + i) 0 ≤ 90 := fun i hi => by
    have := hg (s + i) (by omega) (by omega)
    unfold isG at this
    rw [Bool.and_eq_true, decide_eq_true_eq, decide_eq_true_eq] at this
    exact this
  have h0 : ∀ i, i < q - s → gS T s q i ≠ 0 ∧ gS T s q i ≤ 26 := fun i hi => by
    have := hy i hi
    unfold gS
    rw [if_pos hi]
    omega
  have h1 : ∀ i, q - s ≤ i → gS T s q i = 0 := fun i hi => by
    unfold gS
    rw [if_neg (by omega)]
  have hb : ∀ i, gS T s q i ≤ 26 := fun i => by
    rcases Nat.lt_or_ge i (q - s) with z | z
    · exact (h0 i z).2
    · rw [h1 i z]
      omega
  have hc : ∀ i, gS T s q i = 0 → gS T s q (i + 1) = 0 := fun i hi => by
    rcases Nat.lt_or_ge i (q - s) with z | z
    · exact absurd hi (h0 i z).1
    · exact h1 _ (by omega)
  refine ⟨⟨hb 0, hb 1, hb 2, hb 3⟩, ⟨hc 0, hc 1, hc 2⟩, ?_⟩
  unfold nl
  rcases (show q - s = 0 ∨ q - s = 1 ∨ q - s = 2 ∨ q - s = 3 ∨ q - s = 4 by omega) with e | e | e | e | e
  · rw [if_pos (h1 0 (by omega)), e]
  · rw [if_neg (h0 0 (by omega)).1, if_pos (h1 1 (by omega)), e]
  · rw [if_neg (h0 0 (by omega)).1, if_neg (h0 1 (by omega)).1, if_pos (h1 2 (by omega)), e]
  · rw [if_neg (h0 0 (by omega)).1, if_neg (h0 1 (by omega)).1, if_neg (h0 2 (by omega)).1, if_pos (h1 3 (by omega)), e]
  · rw [if_neg (h0 0 (by omega)).1, if_neg (h0 1 (by omega)).1, if_neg (h0 2 (by omega)).1, if_neg (h0 3 (by omega)).1, e]
theorem x4_meant {T : List Nat} {μ : Mem} {s q v : Nat} (h : TXT T (mp μ [3, 4])) (hq : q ≤ T.length) (hs : s ≤ q) (h1 : μ 0 1 = nI q) (hg : ∀ j, s ≤ j → j < q → isG (T.getD j 0) = true) (hv : v < 2 ^ 31) : X4_meant (nI s) (nI v) μ = some (if 1 ≤ v ∧ v ≤ 999 ∧ q - s ≤ 4 then nI (cA v (gS T s q)) else 0) := by
  have h200 := h.1
  unfold X4_meant
  rw [h1, pk_sub hs]
  by_cases h4 : q - s ≤ 4
  · rw [if_pos (show nI (q - s) ≤ 4 from nI_le (b := 4) h4 (by omega))]
    have e := x4_m18 (a2 := nI s) (a3 := nI v) (s := s) h hq h1 (q - s) s FU (by omega) (by omega) (by unfold FU; omega)
    rw [Nat.sub_self] at e
    have e' : X4_meant_18 (nI s) (nI v) μ FU 0 (nI s) = _ := e
    rw [e']
    have hy : ∀ i, i < q - s → 65 ≤ T.getD (s + i) 0 ∧ T.getD (s + i) 0 ≤ 90 := fun i hi => by
      have := hg (s + i) (by omega) (by omega)
      unfold isG at this
      rw [Bool.and_eq_true, decide_eq_true_eq, decide_eq_true_eq] at this
      exact this
    by_cases hN : 1 ≤ v ∧ v ≤ 999
    · rw [x5_plainN v (by omega), bd_s, if_pos hN, if_pos ⟨hN.1, hN.2, h4⟩]
      unfold X5_withSuffix
      rw [if_neg (nI_ne0 (by omega) (by omega)), cA_plain]
      obtain ⟨w1, w2⟩ := WD_lt (y := fun j => T.getD (s + j) 0) (q - s) h4 (fun i hi => (hy i hi).2)
      have hbv : BV (nI (WD (fun j => T.getD (s + j) 0) (q - s))) (fun t => if t < q - s then T.getD (s + (q - s - 1 - t)) 0 else 0) := fun t ht => by
        refine ⟨?_, ?_⟩
        · show (if t < q - s then T.getD (s + (q - s - 1 - t)) 0 else 0) < 256
          split
          · have := hy (q - s - 1 - t) (by omega)
            omega
          · omega
        · rw [shr_byte (by omega) (by omega), w2 t ht]
      have e2 := x5_sfx (a0 := nI (cA v fun _ => 0)) hbv (n := v) 4 0 FU (fun _ => 0) (by omega) (by unfold FU; omega) ⟨Nat.zero_le _, Nat.zero_le _, Nat.zero_le _, Nat.zero_le _⟩
      have e2' : X5_withSuffix_14 (nI (cA v fun _ => 0)) (nI (WD (fun j => T.getD (s + j) 0) (q - s))) FU (nI (cA v fun _ => 0)) 0 24 = _ := e2
      rw [e2', RS_skip (y := fun j => T.getD (s + j) 0) h4 (fun t ht => rfl) (4 - (q - s)) 4 _ (by omega) (by omega)]
      obtain ⟨g', e3, e4⟩ := RS_run (y := fun j => T.getD (s + j) 0) (bv := fun t => if t < q - s then T.getD (s + (q - s - 1 - t)) 0 else 0) h4 (fun t ht => rfl) hy (q - s) 0 (fun _ => 0) (by omega)
      rw [e3]
      show some (nI (cA v g')) = _
      rw [cA_cong (h := gS T s q) (fun i _ => ?_)]
      rw [e4 i]
      unfold gS
      by_cases z : i < q - s
      · rw [if_pos ⟨Nat.zero_le _, z⟩, if_pos z]
      · rw [if_neg (fun k => z k.2), if_neg z]
    · have e0 : X5_plain (nI v) = some 0 := by
        rcases (show v < 1 ∨ 999 < v by omega) with z | z
        · exact x5_plain_lo (show nI v < 1 from nI_lt (b := 1) z (by omega))
        · exact x5_plain_hi (show (999 : Int32) < nI v from nI_lt (a := 999) z (by omega))
      rw [e0, bd_s, if_neg (fun z => hN ⟨z.1, z.2.1⟩)]
      rfl
  · rw [if_neg (show ¬ nI (q - s) ≤ 4 from nI_ge (a := 4) (by omega) (by omega)), if_neg (fun z => h4 z.2.2)]
theorem x8_p15 {T W : List Nat} {μ : Mem} {p q : Nat} (h : TXT T (mp μ [0, 1])) (hW : TXT W (mp μ [2, 3])) (hq : q ≤ T.length) (hl : q - p = W.length) (hp : p ≤ q) : ∀ (d i m : Nat), i + d = W.length → d < m → ∃ v, X8_isPart_15 (nI p) (nI q) μ m (nI i) = some v ∧ ((∀ j, i ≤ j → j < W.length → T.getD (p + j) 0 = W.getD j 0) → v = 1) ∧ (¬ (∀ j, i ≤ j → j < W.length → T.getD (p + j) 0 = W.getD j 0) → v = 0) := by
  have h200 := h.1
  have hlen : μ 2 1 = nI W.length := hW.2.1
  intro d
  induction d with
  | zero =>
    intro i m hi hm
    obtain ⟨m, rfl⟩ : ∃ z, m = z + 1 := ⟨m - 1, by omega⟩
    refine ⟨1, ?_, fun _ => rfl, fun z => absurd (fun j h1 h2 => by omega) z⟩
    unfold X8_isPart_15
    rw [hlen, if_pos (nI_le (by omega) (by omega))]
  | succ d ih =>
    intro i m hi hm
    obtain ⟨m, rfl⟩ : ∃ z, m = z + 1 := ⟨m - 1, by omega⟩
    have hb := h.2.2.2 (p + i) (by omega)
    have hb2 := hW.2.2.2 i (by omega)
    obtain ⟨v, g1, g2, g3⟩ := ih (i + 1) m (by omega) (by omega)
    unfold X8_isPart_15
    rw [hlen, if_neg (nI_ge (by omega) (by omega)), nI_add, x8_byteAt h (by omega), bd_s, if_pos (show p + i < T.length by omega), x8_byteAt hW (by omega), bd_s, if_pos (show i < W.length by omega)]
    by_cases e : T.getD (p + i) 0 = W.getD i 0
    · rw [if_pos (by rw [e])]
      simp only [lt]
      rw [nI_1]
      refine ⟨v, g1, fun z => g2 fun j h1 h2 => z j (by omega) h2, fun z => g3 fun z2 => z fun j h1 h2 => ?_⟩
      rcases Nat.lt_or_ge i j with k | k
      · exact z2 j k h2
      · rw [show j = i by omega]
        exact e
    · rw [if_neg (fun z => e ((nI_eq (by omega) (by omega)).mp z))]
      exact ⟨0, rfl, fun z => absurd (z i (Nat.le_refl _) (by omega)) e, fun _ => rfl⟩
theorem x8_part {T W : List Nat} {μ : Mem} {p q : Nat} (h : TXT T (mp μ [0, 1])) (hW : TXT W (mp μ [2, 3])) (hq : q ≤ T.length) (hp : p ≤ q) : ∃ v, X8_isPart (nI p) (nI q) μ = some v ∧ (SEG T p q W → v = 1) ∧ (¬ SEG T p q W → v = 0) := by
  have h200 := h.1
  have hw2 := hW.1
  have hlen : μ 2 1 = nI W.length := hW.2.1
  unfold X8_isPart
  rw [pk_sub hp, hlen]
  by_cases e : q - p = W.length
  · rw [if_pos (by rw [e])]
    obtain ⟨v, g1, g2, g3⟩ := x8_p15 h hW hq e hp W.length 0 FU (by omega) (by unfold FU; omega)
    exact ⟨v, g1, fun z => g2 fun j _ h2 => z.2 j h2, fun z => g3 fun z2 => z ⟨e, fun j h2 => z2 j (Nat.zero_le _) h2⟩⟩
  · rw [if_neg (fun z => e ((nI_eq (by omega) (by omega)).mp z))]
    exact ⟨0, rfl, fun z => absurd z.1 e, fun _ => rfl⟩
