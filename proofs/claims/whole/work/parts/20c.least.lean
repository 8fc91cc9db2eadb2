/-! own words: pure part: the least label with so many letters, and the first one between two -/
theorem someI {a b : Nat} (h : a = b) : some (nI a) = some (nI b) := by rw [h]
theorem vin_k {i : Int32} {n : Nat} (h : decide (0 ≤ i.toInt) && decide (i.toInt < n) = true) : vp_in i n := by
  simp only [Bool.and_eq_true, decide_eq_true_eq] at h
  exact vp_in_iff.mpr h
/-- the last place ahead of k whose letter can be raised; k: none -/
def tn (g : Nat → Nat) : Nat → Option Nat
  | 0 => none
  | k + 1 => if g k < 26 then some k else tn g k
theorem tn_lt {g : Nat → Nat} : ∀ {k i : Nat}, tn g k = some i → i < k ∧ g i < 26 := by
  intro k
  induction k with
  | zero => intro i h; cases h
  | succ k ih =>
    intro i h
    unfold tn at h
    split at h
    · cases h
      exact ⟨by omega, by assumption⟩
    · have := ih h
      exact ⟨by omega, this.2⟩
def dT (g : Nat → Nat) (i k : Nat) : Nat → Nat := fun j => if j < i then g j else if j = i then g i + 1 else if j < k then 1 else 0
def SL (n : Nat) (g : Nat → Nat) (k : Nat) : Nat × (Nat → Nat) := if nl g < k then (n, f1 g (nl g) k) else match tn g k with
  | some i => (n, dT g i k)
  | none => (n + 1, f1 (fun _ => 0) 0 k)
def lab (p : Nat × (Nat → Nat)) : Nat := if p.1 ≤ 999 then cA p.1 p.2 else 0
def labB (p : Nat × (Nat → Nat)) : Nat := if p.1 ≤ 999 then cB p.1 p.2 else 0
def cl (g : Nat → Nat) (k : Nat) : Nat → Nat := fun j => if j < k then g j else 0
theorem G26_cl {g : Nat → Nat} (h : G26 g) {k : Nat} : G26 (cl g k) := by
  have key : ∀ j, j < 4 → cl g k j ≤ 26 := fun j hj => by
    unfold cl
    split
    · exact h.at hj
    · omega
  exact ⟨key 0 (by omega), key 1 (by omega), key 2 (by omega), key 3 (by omega)⟩
theorem G26_0 : G26 (fun _ => 0) := ⟨Nat.zero_le _, Nat.zero_le _, Nat.zero_le _, Nat.zero_le _⟩
theorem i32_m1 (k : Nat) : nI (k + 1) - 1 = nI k := nI_pred k
theorem i32_dec (k : Nat) : nI (k + 1) + (-1) = nI k := pk_m1 k
theorem i32_sub (x : Int32) : x + (-1) = x - 1 := (Int32.sub_eq_add_neg x 1).symm
theorem i32_neg : nI 0 - 1 < 0 := by decide
theorem i32_neg' : nI 0 + (-1) < 0 := by decide
theorem x5_l61 {n k : Nat} {g : Nat → Nat} (hn : n ≤ 999) (hg : G26 g) (hk : k ≤ 4) : ∀ (i m : Nat), i ≤ k → i < m → ∀ x4 : Int32, x4 = nI i - 1 → X5_leastAbove_61 (nI (cA n g)) (nI k) m (nI (cA n (cl g k))) x4 = some (nI (match tn g i with
    | some t => cA n (dT g t k)
    | none => if n + 1 ≤ 999 then cA (n + 1) (f1 (fun _ => 0) 0 k) else 0)) := by
  intro i
  induction i with
  | zero =>
    intro m _ hm x4 hx
    obtain ⟨m, rfl⟩ : ∃ m', m = m' + 1 := ⟨m - 1, by omega⟩
    subst hx
    unfold X5_leastAbove_61
    rw [if_pos i32_neg, x5_num (by omega) hg, bd_s, nI_1, x5_plainN (n + 1) (by omega), bd_s]
    show _ = some (nI (if n + 1 ≤ 999 then cA (n + 1) (f1 (fun _ => 0) 0 k) else 0))
    have e3 := x5_fill (n := n + 1) (a := 0) G26_0 (by omega) hk
    rw [nI_0] at e3
    by_cases h : n + 1 ≤ 999
    · rw [if_pos (show 1 ≤ n + 1 ∧ n + 1 ≤ 999 from ⟨by omega, h⟩), if_pos h, if_neg (fun z => absurd ((nI0 _ (by omega)).mp z) (by omega)), cA_plain, e3, bd_s]
    · rw [if_neg (show ¬ (1 ≤ n + 1 ∧ n + 1 ≤ 999) by omega), if_neg h, if_pos nI_0]
      rfl
  | succ i ih =>
    intro m hi hm x4 hx
    obtain ⟨m, rfl⟩ : ∃ m', m = m' + 1 := ⟨m - 1, by omega⟩
    subst hx
    rw [i32_m1]
    unfold X5_leastAbove_61
    have e : cl g k i = g i := if_pos (by omega)
    have h26 := hg.at (show i < 4 by omega)
    rw [if_neg (nI_pos (by omega)), x5_let (by omega) (G26_cl hg) (by omega), bd_s, e]
    unfold tn
    by_cases h : g i < 26
    · rw [if_pos h, if_neg (show ¬ (26 : Int32) ≤ nI (g i) from nI_ge (b := 26) (by omega) (by omega)), nI_1, x5_set (G26_cl hg) (by omega) (by omega), bd_s, nI_1, x5_fill (G26_ud (G26_cl hg) (by omega)) (by omega) hk, bd_s]
      refine someI (cA_cong (fun j hj => ?_))
      unfold f1 ud cl dT
      by_cases h1 : j < i
      · rw [if_neg (by omega), if_neg (by omega), if_pos (by omega), if_pos h1]
      · rw [if_neg h1]
        by_cases h2 : j = i
        · subst h2
          rw [if_neg (by omega), if_pos rfl, if_pos rfl]
        · rw [if_neg h2]
          by_cases h3 : j < k
          · rw [if_pos (by omega), if_neg h2, if_pos h3]
          · rw [if_neg (by omega), if_neg h2, if_neg h3, if_neg h3]
    · rw [if_neg h, if_pos (show (26 : Int32) ≤ nI (g i) from nI_le (a := 26) (by omega) (by omega))]
      simp only [lt]
      rw [i32_sub]
      exact ih m (by omega) (by omega) _ rfl
theorem x5_l36 {n k : Nat} {g : Nat → Nat} (hn : n ≤ 999) (hg : G26 g) (hk : k ≤ 4) : ∀ (d i m : Nat) (h : Nat → Nat), i + d = 4 → d < m → k ≤ i → G26 h → (∀ j, j < i → h j = cl g k j) → (∀ j, i ≤ j → h j = g j) → X5_leastAbove_36 (nI (cA n g)) (nI k) m (nI (cA n h)) (nI i) = some (nI (match tn g k with
    | some t => cA n (dT g t k)
    | none => if n + 1 ≤ 999 then cA (n + 1) (f1 (fun _ => 0) 0 k) else 0)) := by
  intro d
  induction d with
  | zero =>
    intro i m h hi hm hki hh h1 h2
    obtain ⟨m, rfl⟩ : ∃ m', m = m' + 1 := ⟨m - 1, by omega⟩
    obtain rfl : i = 4 := by omega
    unfold X5_leastAbove_36
    rw [if_pos (by decide)]
    simp only [lt]
    rw [cA_cong (g := h) (h := cl g k) h1]
    exact x5_l61 hn hg hk k FU (by omega) (by unfold FU; omega) _ rfl
  | succ d ih =>
    intro i m h hi hm hki hh h1 h2
    obtain ⟨m, rfl⟩ : ∃ m', m = m' + 1 := ⟨m - 1, by omega⟩
    unfold X5_leastAbove_36
    have e := x5_set (n := n) (l := 0) hh (show i < 4 by omega) (by omega)
    rw [nI_0] at e
    rw [if_neg (show ¬ (4 : Int32) ≤ nI i from nI_ge (b := 4) (by omega) (by omega)), e, bd_s]
    simp only [lt]
    rw [nI_1]
    refine ih (i + 1) m _ (by omega) (by omega) (by omega) (G26_ud hh (by omega)) (fun j hj => ?_) (fun j hj => ?_)
    · by_cases hji : j = i
      · subst hji
        rw [ud_s]
        exact (if_neg (by omega)).symm
      · rw [ud_n hji]
        exact h1 j (by omega)
    · rw [ud_n (by omega)]
      exact h2 j (by omega)
theorem x5_least {n k : Nat} {g : Nat → Nat} (hL : LOK n g) (hk : k ≤ 4) : X5_leastAbove (nI (cA n g)) (nI k) = some (nI (lab (SL n g k))) := by
  obtain ⟨hn1, hn, hg, hc⟩ := hL
  unfold X5_leastAbove
  have hpos : 0 < cA n g := by unfold cA; omega
  have h4 := nl_le g
  rw [x5_lin (by omega) hg, bd_s, if_neg (nI_ne0 hpos (cA_lt (by omega) hg))]
  by_cases h : nl g < k
  · rw [if_neg (nI_ge h (by omega)), x5_fill hg h4 hk, bd_s]
    unfold SL lab
    rw [if_pos h]
    show _ = some (nI (if n ≤ 999 then _ else _))
    rw [if_pos hn]
  · rw [if_pos (nI_le (by omega) (by omega)), x5_l36 hn hg hk (4 - k) k FU g (by omega) (by unfold FU; omega) (by omega) hg (fun j hj => (if_pos hj).symm) (fun j _ => rfl)]
    unfold SL lab
    rw [if_neg h]
    cases tn g k with
    | none => rfl
    | some t =>
      show _ = some (nI (if n ≤ 999 then _ else _))
      rw [if_pos hn]
theorem x5_least0 {k : Nat} (hk : k ≤ 4) : X5_leastAbove 0 (nI k) = some (nI (cA 1 (f1 (fun _ => 0) 0 k))) := by
  unfold X5_leastAbove
  have e0 : (0 : Int32) = nI (cA 0 (fun _ => 0)) := by decide
  have e1 : X5_lettersIn 0 = some (nI (nl (fun _ => 0))) := by
    rw [e0]
    exact x5_lin (by omega) G26_0
  have e2 : X5_plain 1 = some (nI (cA 1 (fun _ => 0))) := by decide +kernel
  rw [e1, bd_s, if_pos rfl, e2, bd_s]
  have e3 := x5_fill (n := 1) (a := 0) (b := k) G26_0 (by omega) hk
  rw [nI_0] at e3
  rw [e3, bd_s]
-- the reference's words
theorem x10_let_loop (a0 a1 : Int32) : ∀ (d v m : Nat), d < m → v < 2 ^ 31 → ∀ x : Int32, x = nI (3 - d) → d ≤ 3 → X10_letterAt_4 a0 a1 m (nI v) x = some (nI (v / 27 ^ d % 27)) := by
  intro d
  induction d with
  | zero =>
    intro v m hm hv x hx _
    obtain ⟨m, rfl⟩ : ∃ m', m = m' + 1 := ⟨m - 1, by omega⟩
    subst hx
    unfold X10_letterAt_4
    rw [if_pos (by decide)]
    have := pk_rem (a := v) (d := 27) hv (by omega) (by omega)
    rw [Nat.pow_zero, Nat.div_one]
    exact congrArg some this
  | succ d ih =>
    intro v m hm hv x hx hd
    obtain ⟨m, rfl⟩ : ∃ m', m = m' + 1 := ⟨m - 1, by omega⟩
    subst hx
    unfold X10_letterAt_4
    rw [if_neg (show ¬ (3 : Int32) ≤ nI (3 - (d + 1)) from nI_ge (b := 3) (by omega) (by omega))]
    simp only [lt]
    have e : nI v / 27 = nI (v / 27) := pk_div (a := v) (d := 27) hv (by omega) (by omega)
    rw [e, nI_1, ih (v / 27) m (by omega) (by omega) _ (by congr 1; omega) (by omega), Nat.div_div_eq_div_mul]
    congr 3
    rw [Nat.pow_succ, Nat.mul_comm]
theorem sB_mod {n : Nat} {g : Nat → Nat} (hn : n ≤ 1000) (hg : G26 g) : nI (cB n g) - nI (cB n g) / 531441 * 531441 = nI (g 0 * 19683 + g 1 * 729 + g 2 * 27 + g 3) := by
  have h := pk_rem (a := cB n g) (d := 531441) (Nat.lt_trans (cB_lt hn hg) (by omega)) (by omega) (by omega)
  refine h.trans ?_
  congr 1
  obtain ⟨h0, h1, h2, h3⟩ := hg
  unfold cB
  omega
def sB (g : Nat → Nat) : Nat := g 0 * 19683 + g 1 * 729 + g 2 * 27 + g 3
theorem x10_let {g : Nat → Nat} (hg : G26 g) {i : Nat} (hi : i < 4) : X10_letterAt (nI (sB g)) (nI i) = some (nI (g i)) := by
  obtain ⟨h0, h1, h2, h3⟩ := hg
  have hs : sB g < 2 ^ 31 := by unfold sB; omega
  unfold X10_letterAt
  rw [x10_let_loop _ _ (3 - i) (sB g) FU (by unfold FU; omega) hs _ (by congr 1; omega) (by omega)]
  congr 2
  unfold sB
  rcases (show i = 0 ∨ i = 1 ∨ i = 2 ∨ i = 3 by omega) with rfl | rfl | rfl | rfl
  · show (_ : Nat) / 19683 % 27 = _
    omega
  · show (_ : Nat) / 729 % 27 = _
    omega
  · show (_ : Nat) / 27 % 27 = _
    omega
  · show (_ : Nat) / 1 % 27 = _
    omega
theorem x10_lof_loop {g : Nat → Nat} (hg : G26 g) : ∀ (k m i : Nat), i + k = 4 → k < m → (∀ j, j < i → g j ≠ 0) → X10_lettersOf_2 (nI (sB g)) m (nI i) = some (nI (nl g)) := by
  intro k
  induction k with
  | zero =>
    intro m i hik hm hp
    obtain ⟨m, rfl⟩ : ∃ m', m = m' + 1 := ⟨m - 1, by omega⟩
    obtain rfl : i = 4 := by omega
    unfold X10_lettersOf_2
    rw [if_pos (by decide)]
    have e : nl g = 4 := by
      unfold nl
      rw [if_neg (hp 0 (by omega)), if_neg (hp 1 (by omega)), if_neg (hp 2 (by omega)), if_neg (hp 3 (by omega))]
    rw [e]
  | succ k ih =>
    intro m i hik hm hp
    obtain ⟨m, rfl⟩ : ∃ m', m = m' + 1 := ⟨m - 1, by omega⟩
    unfold X10_lettersOf_2
    have h26 := hg.at (show i < 4 by omega)
    rw [if_neg (show ¬ (4 : Int32) ≤ nI i from nI_ge (a := i) (b := 4) (by omega) (by omega)), x10_let hg (by omega), bd_s]
    by_cases h : g i = 0
    · rw [h, if_pos (by decide)]
      have e : nl g = i := by
        unfold nl
        rcases (show i = 0 ∨ i = 1 ∨ i = 2 ∨ i = 3 by omega) with rfl | rfl | rfl | rfl
        · rw [if_pos h]
        · rw [if_neg (hp 0 (by omega)), if_pos h]
        · rw [if_neg (hp 0 (by omega)), if_neg (hp 1 (by omega)), if_pos h]
        · rw [if_neg (hp 0 (by omega)), if_neg (hp 1 (by omega)), if_neg (hp 2 (by omega)), if_pos h]
      rw [e]
    · rw [if_neg (nI_nle (by omega) (by omega))]
      simp only [lt]
      rw [nI_1]
      refine ih m (i + 1) (by omega) (by omega) (fun j hj => ?_)
      rcases Nat.lt_or_ge j i with hji | hji
      · exact hp j hji
      · rw [show j = i by omega]
        exact h
theorem x10_lof {g : Nat → Nat} (hg : G26 g) : X10_lettersOf (nI (sB g)) = some (nI (nl g)) := by
  unfold X10_lettersOf
  exact x10_lof_loop hg 4 FU 0 (by omega) (by unfold FU; omega) (fun j hj => absurd hj (by omega))
/-- the hand holds four digits -/
def HD (τ : Mem) (h : Nat → Nat) : Prop := τ 17 0 = nI (h 0) ∧ τ 17 1 = nI (h 1) ∧ τ 17 2 = nI (h 2) ∧ τ 17 3 = nI (h 3)
theorem HD_ud {τ : Mem} {h : Nat → Nat} (H : HD τ h) {i l : Nat} (hi : i < 4) : HD (up τ 17 i (nI l)) (ud h i l) := by
  obtain ⟨h0, h1, h2, h3⟩ := H
  have key : ∀ j, j < 4 → τ 17 j = nI (h j) → up τ 17 i (nI l) 17 j = nI (ud h i l j) := fun j _ e => by
    unfold up
    rw [upc_s]
    unfold upd ud
    by_cases hj : j = i
    · rw [if_pos hj, if_pos hj]
    · rw [if_neg hj, if_neg hj]
      exact e
  exact ⟨key 0 (by omega) h0, key 1 (by omega) h1, key 2 (by omega) h2, key 3 (by omega) h3⟩
theorem x10_hand {τ : Mem} {h : Nat → Nat} (H : HD τ h) : X10_suffixInHand τ = some (nI (sB h)) := by
  obtain ⟨h0, h1, h2, h3⟩ := H
  unfold X10_suffixInHand
  rw [gd_i (vin_k (by decide)), gd_i (vin_k (by decide)), gd_i (vin_k (by decide)), gd_i (vin_k (by decide))]
  rw [show Int32.toNatClampNeg 0 = 0 from rfl, show Int32.toNatClampNeg 1 = 1 from rfl, show Int32.toNatClampNeg 2 = 2 from rfl, show Int32.toNatClampNeg 3 = 3 from rfl, h0, h1, h2, h3]
  show some (((nI (h 0) * nI 27 + nI (h 1)) * nI 27 + nI (h 2)) * nI 27 + nI (h 3)) = _
  rw [pk_mul, nI_add, pk_mul, nI_add, pk_mul, nI_add]
  congr 2
  unfold sB
  omega
