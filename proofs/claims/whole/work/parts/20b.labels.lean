/-! own words: pure part: bits and labels -/
theorem bt_nI (v : Nat) {i : Nat} (hi : i < 32) : bt (nI v) i = v.testBit i := by
  show (BitVec.ofNat 32 v).getLsbD i = _
  rw [BitVec.getLsbD_ofNat]
  simp [hi]
theorem shr_nI {v k : Nat} (hv : v < 2 ^ 31) (hk : k < 32) : nI v >>> (nI k &&& 31) = nI (v / 2 ^ k) := by
  apply b_ext
  intro i hi
  rw [b_sshr k hk _ hi, bt_nI _ hi, Nat.testBit_div_two_pow]
  by_cases h : k + i < 32
  · rw [if_pos h, bt_nI _ h, Nat.add_comm]
  · rw [if_neg h, bt_nI _ (by omega), Nat.testBit_lt_two_pow hv, Nat.testBit_lt_two_pow (Nat.lt_of_lt_of_le hv (Nat.pow_le_pow_right (by omega) (by omega)))]
theorem and31 (v : Nat) : nI v &&& 31 = nI (v % 32) := by
  show nI v &&& nI 31 = _
  rw [nx_and, show (31 : Nat) = 2 ^ 5 - 1 from rfl, Nat.and_two_pow_sub_one_eq_mod]
theorem and255 (v : Nat) : nI v &&& 255 = nI (v % 256) := by
  show nI v &&& nI 255 = _
  rw [nx_and, show (255 : Nat) = 2 ^ 8 - 1 from rfl, Nat.and_two_pow_sub_one_eq_mod]
theorem bt31 : ∀ i, i < 32 → bt 31 i = decide (i < 5) := by decide +kernel
theorem setl {v l s : Nat} (hs : s + 5 ≤ 31) (hl : l < 32) : ((nI v &&& ((31 <<< (nI s &&& 31)) ^^^ (-1))) ||| (nI l <<< (nI s &&& 31))) = nI (2 ^ s * (2 ^ 5 * (v / 2 ^ (s + 5)) + l) + v % 2 ^ s) := by
  apply b_ext
  intro i hi
  have hm : v % 2 ^ s < 2 ^ s := Nat.mod_lt _ (Nat.two_pow_pos s)
  have hl5 : l < 2 ^ 5 := hl
  rw [b_or, b_and, b_xor, b_shl s (by omega) _ hi, b_shl s (by omega) _ hi, b_m1 i hi, bt_nI _ hi, bt_nI _ hi, Nat.testBit_two_pow_mul_add _ hm]
  by_cases h : i < s
  · rw [if_pos h, Nat.testBit_mod_two_pow]
    simp [h, Nat.not_le.mpr h]
  · rw [if_neg h, bt31 _ (by omega), bt_nI _ (by omega), Nat.testBit_two_pow_mul_add _ hl5]
    by_cases h5 : i - s < 5
    · rw [if_pos h5]
      simp [h5, Nat.not_lt.mp h]
    · rw [if_neg h5, Nat.testBit_div_two_pow, Nat.testBit_lt_two_pow (Nat.lt_of_lt_of_le hl5 (Nat.pow_le_pow_right (by omega) (Nat.not_lt.mp h5)))]
      simp [h5, show s + 5 + (i - s - 5) = i by omega, show i - s - 5 + (s + 5) = i by omega]
-- labels: a number and four digits
def cA (n : Nat) (g : Nat → Nat) : Nat := n * 1048576 + g 0 * 32768 + g 1 * 1024 + g 2 * 32 + g 3
def cB (n : Nat) (g : Nat → Nat) : Nat := n * 531441 + g 0 * 19683 + g 1 * 729 + g 2 * 27 + g 3
def G26 (g : Nat → Nat) : Prop := g 0 ≤ 26 ∧ g 1 ≤ 26 ∧ g 2 ≤ 26 ∧ g 3 ≤ 26
def GC (g : Nat → Nat) : Prop := (g 0 = 0 → g 1 = 0) ∧ (g 1 = 0 → g 2 = 0) ∧ (g 2 = 0 → g 3 = 0)
def LOK (n : Nat) (g : Nat → Nat) : Prop := 1 ≤ n ∧ n ≤ 999 ∧ G26 g ∧ GC g
theorem G26.at {g : Nat → Nat} (h : G26 g) {i : Nat} (hi : i < 4) : g i ≤ 26 := by
  obtain ⟨h0, h1, h2, h3⟩ := h
  rcases (show i = 0 ∨ i = 1 ∨ i = 2 ∨ i = 3 by omega) with rfl | rfl | rfl | rfl <;> assumption
theorem cA_lt {n : Nat} {g : Nat → Nat} (hn : n ≤ 1000) (hg : G26 g) : cA n g < 2 ^ 31 := by
  obtain ⟨h0, h1, h2, h3⟩ := hg
  unfold cA
  omega
theorem cB_lt {n : Nat} {g : Nat → Nat} (hn : n ≤ 1000) (hg : G26 g) : cB n g < 2 ^ 30 := by
  obtain ⟨h0, h1, h2, h3⟩ := hg
  unfold cB
  omega
theorem cA_num {n : Nat} {g : Nat → Nat} (hg : G26 g) : cA n g / 1048576 = n := by
  obtain ⟨h0, h1, h2, h3⟩ := hg
  unfold cA
  omega
theorem cB_num {n : Nat} {g : Nat → Nat} (hg : G26 g) : cB n g / 531441 = n := by
  obtain ⟨h0, h1, h2, h3⟩ := hg
  unfold cB
  omega
theorem cA_cong {n : Nat} {g h : Nat → Nat} (e : ∀ i, i < 4 → g i = h i) : cA n g = cA n h := by
  unfold cA
  rw [e 0 (by omega), e 1 (by omega), e 2 (by omega), e 3 (by omega)]
theorem cB_cong {n : Nat} {g h : Nat → Nat} (e : ∀ i, i < 4 → g i = h i) : cB n g = cB n h := by
  unfold cB
  rw [e 0 (by omega), e 1 (by omega), e 2 (by omega), e 3 (by omega)]
def ud (g : Nat → Nat) (i l : Nat) : Nat → Nat := fun j => if j = i then l else g j
theorem ud_s {g : Nat → Nat} {i l : Nat} : ud g i l i = l := if_pos rfl
theorem ud_n {g : Nat → Nat} {i l j : Nat} (h : j ≠ i) : ud g i l j = g j := if_neg h
theorem G26_ud {g : Nat → Nat} (h : G26 g) {i l : Nat} (hl : l ≤ 26) : G26 (ud g i l) := by
  have key : ∀ j, j < 4 → ud g i l j ≤ 26 := fun j hj => by
    unfold ud
    split
    · exact hl
    · exact h.at hj
  exact ⟨key 0 (by omega), key 1 (by omega), key 2 (by omega), key 3 (by omega)⟩
theorem cA_dg {n : Nat} {g : Nat → Nat} (hg : G26 g) {i : Nat} (hi : i < 4) : cA n g / 2 ^ (15 - 5 * i) % 32 = g i := by
  obtain ⟨h0, h1, h2, h3⟩ := hg
  unfold cA
  rcases (show i = 0 ∨ i = 1 ∨ i = 2 ∨ i = 3 by omega) with rfl | rfl | rfl | rfl
  · show (_ : Nat) / 32768 % 32 = _
    omega
  · show (_ : Nat) / 1024 % 32 = _
    omega
  · show (_ : Nat) / 32 % 32 = _
    omega
  · show (_ : Nat) / 1 % 32 = _
    omega
theorem cA_ud {n : Nat} {g : Nat → Nat} (hg : G26 g) {i l : Nat} (hi : i < 4) : 2 ^ (15 - 5 * i) * (2 ^ 5 * (cA n g / 2 ^ (15 - 5 * i + 5)) + l) + cA n g % 2 ^ (15 - 5 * i) = cA n (ud g i l) := by
  obtain ⟨h0, h1, h2, h3⟩ := hg
  unfold cA
  rcases (show i = 0 ∨ i = 1 ∨ i = 2 ∨ i = 3 by omega) with rfl | rfl | rfl | rfl
  · show 32768 * (32 * (_ / 1048576) + l) + _ % 32768 = _ * 1048576 + l * 32768 + g 1 * 1024 + g 2 * 32 + g 3
    omega
  · show 1024 * (32 * (_ / 32768) + l) + _ % 1024 = _ * 1048576 + g 0 * 32768 + l * 1024 + g 2 * 32 + g 3
    omega
  · show 32 * (32 * (_ / 1024) + l) + _ % 32 = _ * 1048576 + g 0 * 32768 + g 1 * 1024 + l * 32 + g 3
    omega
  · show 1 * (32 * (_ / 32) + l) + _ % 1 = _ * 1048576 + g 0 * 32768 + g 1 * 1024 + g 2 * 32 + l
    omega
-- the class's words on them
theorem sh_i : ∀ i, i < 4 → (20 - (5 * (nI i + 1)) : Int32) = nI (15 - 5 * i) := by decide +kernel
theorem x5_num {n : Nat} {g : Nat → Nat} (hn : n ≤ 1000) (hg : G26 g) : X5_numberOf (nI (cA n g)) = some (nI n) := by
  unfold X5_numberOf
  have h := shr_nI (v := cA n g) (k := 20) (cA_lt hn hg) (by omega)
  rw [show (2 : Nat) ^ 20 = 1048576 from rfl, cA_num hg] at h
  exact congrArg some h
theorem x5_let {n : Nat} {g : Nat → Nat} (hn : n ≤ 1000) (hg : G26 g) {i : Nat} (hi : i < 4) : X5_letterOf (nI (cA n g)) (nI i) = some (nI (g i)) := by
  unfold X5_letterOf
  rw [sh_i i hi, shr_nI (cA_lt hn hg) (by omega), and31, cA_dg hg hi]
theorem x5_set {n : Nat} {g : Nat → Nat} (hg : G26 g) {i l : Nat} (hi : i < 4) (hl : l ≤ 26) : X5_setLetter (nI (cA n g)) (nI i) (nI l) = some (nI (cA n (ud g i l))) := by
  unfold X5_setLetter
  simp only [lt]
  rw [sh_i i hi, setl (by omega) (by omega), cA_ud hg hi]
theorem x5_plainN : ∀ n, n < 1001 → X5_plain (nI n) = some (nI (if 1 ≤ n ∧ n ≤ 999 then n * 1048576 else 0)) := by decide +kernel
theorem x5_plain_hi {a : Int32} (h : 999 < a) : X5_plain a = some 0 := by
  unfold X5_plain
  have h1 : ¬ a < 1 := by
    rw [Int32.lt_iff_toInt_lt] at h ⊢
    have e1 : (999 : Int32).toInt = 999 := by decide
    have e2 : (1 : Int32).toInt = 1 := by decide
    omega
  have h2 : ¬ a ≤ 999 := by
    rw [Int32.le_iff_toInt_le]
    rw [Int32.lt_iff_toInt_lt] at h
    omega
  rw [if_neg h1, if_neg h2]
theorem x5_plain_lo {a : Int32} (h : a < 1) : X5_plain a = some 0 := if_pos h
theorem cA_plain (n : Nat) : n * 1048576 = cA n (fun _ => 0) := by
  show _ = n * 1048576 + 0 * 32768 + 0 * 1024 + 0 * 32 + 0
  omega
theorem cB_plain (n : Nat) : n * 531441 = cB n (fun _ => 0) := by
  show _ = n * 531441 + 0 * 19683 + 0 * 729 + 0 * 27 + 0
  omega
theorem FU_pos (k : Nat) (hk : k ≤ 1000000) : ∃ m, FU = m + k := ⟨1000000 - k, by unfold FU; omega⟩
/-- how many letters -/
def nl (g : Nat → Nat) : Nat := if g 0 = 0 then 0 else if g 1 = 0 then 1 else if g 2 = 0 then 2 else if g 3 = 0 then 3 else 4
theorem nl_le (g : Nat → Nat) : nl g ≤ 4 := by
  unfold nl
  repeat' split
  all_goals omega
theorem nl_pos {g : Nat → Nat} {i : Nat} (h : i < nl g) : g i ≠ 0 := by
  unfold nl at h
  repeat' split at h
  all_goals first | omega | (rcases (show i = 0 ∨ i = 1 ∨ i = 2 ∨ i = 3 by omega) with rfl | rfl | rfl | rfl <;> omega)
theorem nl_zero {g : Nat → Nat} (h : nl g < 4) : g (nl g) = 0 := by
  unfold nl at h ⊢
  repeat' split
  all_goals first | assumption | (simp_all; done) | omega
theorem nl_rest {g : Nat → Nat} (hc : GC g) {i : Nat} (hi : nl g ≤ i) (h4 : i < 4) : g i = 0 := by
  obtain ⟨c0, c1, c2⟩ := hc
  have z := nl_zero (g := g) (by omega)
  unfold nl at hi z
  repeat' split at hi
  all_goals first | omega | (rcases (show i = 0 ∨ i = 1 ∨ i = 2 ∨ i = 3 by omega) with rfl | rfl | rfl | rfl <;> first | omega | (simp_all; done))
theorem nI0 (n : Nat) (h : n < 2 ^ 31) : (nI n = 0) ↔ n = 0 := by
  rw [← nI_0, nI_eq h (by omega)]
theorem x5_lin_loop {n : Nat} {g : Nat → Nat} (hn : n ≤ 1000) (hg : G26 g) : ∀ (k m i : Nat), i + k = 4 → k < m → (∀ j, j < i → g j ≠ 0) → X5_lettersIn_2 (nI (cA n g)) m (nI i) = some (nI (nl g)) := by
  intro k
  induction k with
  | zero =>
    intro m i hik hm hp
    obtain ⟨m, rfl⟩ : ∃ m', m = m' + 1 := ⟨m - 1, by omega⟩
    have hi : i = 4 := by omega
    subst hi
    unfold X5_lettersIn_2
    rw [if_pos (by decide)]
    have e : nl g = 4 := by
      unfold nl
      rw [if_neg (hp 0 (by omega)), if_neg (hp 1 (by omega)), if_neg (hp 2 (by omega)), if_neg (hp 3 (by omega))]
    rw [e]
  | succ k ih =>
    intro m i hik hm hp
    obtain ⟨m, rfl⟩ : ∃ m', m = m' + 1 := ⟨m - 1, by omega⟩
    unfold X5_lettersIn_2
    have h26 := hg.at (show i < 4 by omega)
    rw [if_neg (show ¬ (4 : Int32) ≤ nI i from nI_ge (a := i) (b := 4) (by omega) (by omega)), x5_let hn hg (by omega), bd_s]
    by_cases h : g i = 0
    · rw [if_pos ((nI0 _ (by omega)).mpr h)]
      have e : nl g = i := by
        unfold nl
        rcases (show i = 0 ∨ i = 1 ∨ i = 2 ∨ i = 3 by omega) with rfl | rfl | rfl | rfl
        · rw [if_pos h]
        · rw [if_neg (hp 0 (by omega)), if_pos h]
        · rw [if_neg (hp 0 (by omega)), if_neg (hp 1 (by omega)), if_pos h]
        · rw [if_neg (hp 0 (by omega)), if_neg (hp 1 (by omega)), if_neg (hp 2 (by omega)), if_pos h]
      rw [e]
    · rw [if_neg (fun z => h ((nI0 _ (by omega)).mp z))]
      simp only [lt]
      rw [nI_1]
      refine ih m (i + 1) (by omega) (by omega) (fun j hj => ?_)
      rcases Nat.lt_or_ge j i with hji | hji
      · exact hp j hji
      · rw [show j = i by omega]
        exact h
theorem x5_lin {n : Nat} {g : Nat → Nat} (hn : n ≤ 1000) (hg : G26 g) : X5_lettersIn (nI (cA n g)) = some (nI (nl g)) := by
  unfold X5_lettersIn
  exact x5_lin_loop hn hg 4 FU 0 (by omega) (by unfold FU; omega) (fun j hj => absurd hj (by omega))
/-- digits from a place up to another one put to 1 -/
def f1 (g : Nat → Nat) (a b : Nat) : Nat → Nat := fun j => if a ≤ j ∧ j < b then 1 else g j
theorem f1_ge (g : Nat → Nat) {a b : Nat} (h : b ≤ a) : f1 g a b = g := by
  funext j
  unfold f1
  rw [if_neg (by omega)]
theorem f1_st (g : Nat → Nat) {a b : Nat} (h : a < b) : f1 (ud g a 1) (a + 1) b = f1 g a b := by
  funext j
  unfold f1 ud
  by_cases hj : j = a
  · subst hj
    rw [if_neg (by omega), if_pos rfl, if_pos (by omega)]
  · rw [if_neg hj]
    by_cases h2 : a + 1 ≤ j ∧ j < b
    · rw [if_pos h2, if_pos (by omega)]
    · rw [if_neg h2, if_neg (by omega)]
theorem G26_f1 {g : Nat → Nat} (h : G26 g) {a b : Nat} : G26 (f1 g a b) := by
  have key : ∀ j, j < 4 → f1 g a b j ≤ 26 := fun j hj => by
    unfold f1
    split
    · omega
    · exact h.at hj
  exact ⟨key 0 (by omega), key 1 (by omega), key 2 (by omega), key 3 (by omega)⟩
theorem x5_fill_loop {n b : Nat} (hb : b ≤ 4) (a0 a1 : Int32) : ∀ (k m a : Nat) (g : Nat → Nat), G26 g → b - a = k → k < m → a ≤ 4 → X5_fillWithA_5 a0 a1 (nI b) m (nI (cA n g)) (nI a) = some (nI (cA n (f1 g a b))) := by
  intro k
  induction k with
  | zero =>
    intro m a g hg hk hm ha
    obtain ⟨m, rfl⟩ : ∃ m', m = m' + 1 := ⟨m - 1, by omega⟩
    unfold X5_fillWithA_5
    rw [if_pos (nI_le (by omega) (by omega)), f1_ge g (by omega)]
  | succ k ih =>
    intro m a g hg hk hm ha
    obtain ⟨m, rfl⟩ : ∃ m', m = m' + 1 := ⟨m - 1, by omega⟩
    unfold X5_fillWithA_5
    have h1 : X5_setLetter (nI (cA n g)) (nI a) 1 = _ := x5_set (l := 1) hg (show a < 4 by omega) (by omega)
    rw [if_neg (nI_ge (by omega) (by omega)), h1, bd_s]
    simp only [lt]
    rw [nI_1, ih m (a + 1) _ (G26_ud hg (by omega)) (by omega) (by omega) (by omega), f1_st g (by omega)]
theorem x5_fill {n a b : Nat} {g : Nat → Nat} (hg : G26 g) (ha : a ≤ 4) (hb : b ≤ 4) : X5_fillWithA (nI (cA n g)) (nI a) (nI b) = some (nI (cA n (f1 g a b))) := by
  unfold X5_fillWithA
  exact x5_fill_loop hb _ _ (b - a) FU a g hg rfl (by unfold FU; omega) ha
