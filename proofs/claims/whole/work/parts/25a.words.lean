/-! own words: pure part: the words of levels -/
def isS (b : Nat) : Bool := decide (97 ≤ b) && decide (b ≤ 122)
def isB (b : Nat) : Bool := decide (b = 32) || decide (b = 10)
def smE (T : List Nat) : Nat → Nat → Nat
  | 0, i => i
  | d + 1, i => if isS (T.getD i 0) then smE T d (i + 1) else i
def skE (T : List Nat) : Nat → Nat → Nat
  | 0, i => i
  | d + 1, i => if isB (T.getD i 0) then skE T d (i + 1) else i
theorem smE_ge (T : List Nat) : ∀ d i, i ≤ smE T d i ∧ smE T d i ≤ i + d := by
  intro d
  induction d with
  | zero => exact fun i => ⟨Nat.le_refl _, Nat.le_refl _⟩
  | succ d ih =>
    intro i
    unfold smE
    split
    · have := ih (i + 1)
      omega
    · omega
theorem skE_ge (T : List Nat) : ∀ d i, i ≤ skE T d i ∧ skE T d i ≤ i + d := by
  intro d
  induction d with
  | zero => exact fun i => ⟨Nat.le_refl _, Nat.le_refl _⟩
  | succ d ih =>
    intro i
    unfold skE
    split
    · have := ih (i + 1)
      omega
    · omega
theorem smE_in (T : List Nat) : ∀ d i j, i ≤ j → j < smE T d i → isS (T.getD j 0) = true := by
  intro d
  induction d with
  | zero => exact fun i j h1 h2 => absurd h2 (by show ¬ j < i; omega)
  | succ d ih =>
    intro i j h1 h2
    unfold smE at h2
    split at h2
    · rename_i h
      rcases Nat.lt_or_ge i j with z | z
      · exact ih (i + 1) j z h2
      · rw [show j = i by omega]
        exact h
    · omega
theorem skE_end (T : List Nat) : ∀ d i, skE T d i < i + d → isB (T.getD (skE T d i) 0) = false := by
  intro d
  induction d with
  | zero => exact fun i h => absurd h (by show ¬ i < i + 0; omega)
  | succ d ih =>
    intro i h
    unfold skE at h ⊢
    split
    · rename_i z
      rw [if_pos z] at h
      exact ih (i + 1) (by omega)
    · rename_i z
      exact Bool.eq_false_iff.mpr z
theorem isS_iff {b : Nat} : isS b = true ↔ 97 ≤ b ∧ b ≤ 122 := by
  unfold isS
  rw [Bool.and_eq_true, decide_eq_true_eq, decide_eq_true_eq]
theorem isB_iff {b : Nat} : isB b = true ↔ b = 32 ∨ b = 10 := by
  unfold isB
  rw [Bool.or_eq_true, decide_eq_true_eq, decide_eq_true_eq]
-- five words
def sW : Nat → List Nat := fun i => ([[116, 104, 114, 111, 117, 103, 104], [110, 117, 109, 98, 101, 114], [114, 111, 109, 97, 110], [108, 101, 116, 116, 101, 114], [115, 109, 97, 108, 108]] : List (List Nat)).getD i []
theorem sW_tab : ∀ i, i < 5 → sLen i = (sW i).length ∧ 5 ≤ (sW i).length ∧ (sW i).length ≤ 7 ∧ ∀ j, j < (sW i).length → sCh i j = nI ((sW i).getD j 0) ∧ 97 ≤ (sW i).getD j 0 ∧ (sW i).getD j 0 ≤ 122 := by decide +kernel
def sC : Nat → Int64 := fun i => ([32765938003961704, 121450625394034, 491495711086, 119183001281906, 495756340332] : List Int64).getD i 0
theorem sC_tab : ∀ i, i < 5 → sC i = lN (WD (fun j => (sW i).getD j 0) (sW i).length) := by decide +kernel
theorem WD_bd {y : Nat → Nat} : ∀ d, (∀ i, i < d → y i < 256) → WD y d < 256 ^ d := by
  intro d
  induction d with
  | zero => exact fun _ => Nat.one_pos
  | succ d ih =>
    intro h
    have h1 := ih (fun i hi => h i (by omega))
    have h2 := h d (by omega)
    show WD y d * 256 + y d < 256 ^ (d + 1)
    rw [Nat.pow_succ]
    omega
theorem WD_inj {y y' : Nat → Nat} : ∀ d d', (∀ i, i < d → 0 < y i ∧ y i < 256) → (∀ i, i < d' → 0 < y' i ∧ y' i < 256) → WD y d = WD y' d' → d = d' ∧ ∀ i, i < d → y i = y' i := by
  intro d
  induction d with
  | zero =>
    intro d' _ h' e
    cases d' with
    | zero => exact ⟨rfl, fun i hi => absurd hi (by omega)⟩
    | succ d' =>
      have := h' d' (by omega)
      have e' : 0 = WD y' d' * 256 + y' d' := e
      omega
  | succ d ih =>
    intro d' h h' e
    have h1 := h d (by omega)
    cases d' with
    | zero =>
      have e' : WD y d * 256 + y d = 0 := e
      omega
    | succ d' =>
      have h2 := h' d' (by omega)
      have e' : WD y d * 256 + y d = WD y' d' * 256 + y' d' := e
      obtain ⟨i1, i2⟩ := ih d' (fun i hi => h i (by omega)) (fun i hi => h' i (by omega)) (by omega)
      refine ⟨by omega, fun i hi => ?_⟩
      rcases Nat.lt_or_ge i d with z | z
      · exact i2 i z
      · obtain rfl : i = d := by omega
        subst i1
        omega
theorem lN_inj {a b : Nat} (ha : a < 2 ^ 63) (hb : b < 2 ^ 63) (h : lN a = lN b) : a = b := by
  have e : (lN a).toBitVec.toNat = (lN b).toBitVec.toNat := by rw [h]
  have e1 : (lN a).toBitVec.toNat = a := Nat.mod_eq_of_lt (Nat.lt_trans ha (by decide))
  have e2 : (lN b).toBitVec.toNat = b := Nat.mod_eq_of_lt (Nat.lt_trans hb (by decide))
  omega
theorem lshl8_or {v b : Nat} (hb : b < 256) : (lN v <<< (Int32.toInt64 8 &&& 63)) ||| lN b = lN (v * 256 + b) := by
  apply Int64.toBitVec_inj.1
  rw [Int64.toBitVec_or, Int64.toBitVec_shiftLeft]
  apply BitVec.eq_of_getLsbD_eq
  intro i hi
  have hb8 : b < 2 ^ 8 := hb
  have hs : ((Int32.toInt64 8 &&& 63).toBitVec.smod 64).toNat = 8 := by decide +kernel
  have tb : ∀ n, (lN n).toBitVec = BitVec.ofNat 64 n := fun _ => rfl
  rw [BitVec.getLsbD_or]
  have e1 : ((lN v).toBitVec <<< ((Int32.toInt64 8 &&& 63).toBitVec.smod 64)).getLsbD i = (decide (8 ≤ i) && v.testBit (i - 8)) := by
    show ((lN v).toBitVec <<< ((Int32.toInt64 8 &&& 63).toBitVec.smod 64).toNat).getLsbD i = _
    rw [hs, BitVec.getLsbD_shiftLeft, tb, BitVec.getLsbD_ofNat]
    rcases Nat.lt_or_ge i 8 with h | h
    · simp [h, Nat.not_le.mpr h]
    · simp [hi, h, Nat.not_lt.mpr h, show i - 8 < 64 by omega]
  rw [e1, tb, tb, BitVec.getLsbD_ofNat, BitVec.getLsbD_ofNat, show v * 256 + b = 2 ^ 8 * v + b by omega, Nat.testBit_two_pow_mul_add _ hb8]
  by_cases h : i < 8
  · simp [h, hi, Nat.not_le.mpr h]
  · rw [if_neg h, Nat.testBit_lt_two_pow (Nat.lt_of_lt_of_le hb8 (Nat.pow_le_pow_right (by omega) (Nat.not_lt.mp h)))]
    simp [hi, Nat.not_lt.mp h]
