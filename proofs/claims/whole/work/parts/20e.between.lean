/-! own words: pure part: labels of both sides; the first label between two; suffixes told -/
theorem c_lt2 {p q x y x' y' : Nat} (K J : Nat) (h1 : x < K) (h2 : x' < K) (h3 : y < J) (h4 : y' < J) (h : x < x' ↔ y < y') : p * K + x < q * K + x' ↔ p * J + y < q * J + y' := by
  rcases Nat.lt_trichotomy p q with e | e | e
  · have a : (p + 1) * K ≤ q * K := Nat.mul_le_mul_right K e
    have b : (p + 1) * J ≤ q * J := Nat.mul_le_mul_right J e
    rw [Nat.add_mul, Nat.one_mul] at a b
    exact ⟨fun _ => by omega, fun _ => by omega⟩
  · subst e
    exact ⟨fun z => Nat.add_lt_add_left (h.mp (Nat.lt_of_add_lt_add_left z)) _, fun z => Nat.add_lt_add_left (h.mpr (Nat.lt_of_add_lt_add_left z)) _⟩
  · have a : (q + 1) * K ≤ p * K := Nat.mul_le_mul_right K e
    have b : (q + 1) * J ≤ p * J := Nat.mul_le_mul_right J e
    rw [Nat.add_mul, Nat.one_mul] at a b
    exact ⟨fun _ => by omega, fun _ => by omega⟩
theorem cA_nest (n : Nat) (g : Nat → Nat) : cA n g = n * 1048576 + (g 0 * 32768 + (g 1 * 1024 + (g 2 * 32 + (g 3 * 1 + 0)))) := by
  unfold cA
  omega
theorem cB_nest (n : Nat) (g : Nat → Nat) : cB n g = n * 531441 + (g 0 * 19683 + (g 1 * 729 + (g 2 * 27 + (g 3 * 1 + 0)))) := by
  unfold cB
  omega
theorem c_lt {n m : Nat} {g h : Nat → Nat} (hg : G26 g) (hh : G26 h) : cA n g < cA m h ↔ cB n g < cB m h := by
  obtain ⟨g0, g1, g2, g3⟩ := hg
  obtain ⟨h0, h1, h2, h3⟩ := hh
  rw [cA_nest, cA_nest, cB_nest, cB_nest]
  exact c_lt2 1048576 531441 (by omega) (by omega) (by omega) (by omega) (c_lt2 32768 19683 (by omega) (by omega) (by omega) (by omega) (c_lt2 1024 729 (by omega) (by omega) (by omega) (by omega) (c_lt2 32 27 (by omega) (by omega) (by omega) (by omega) (c_lt2 1 1 (by omega) (by omega) (by omega) (by omega) Iff.rfl))))
def LRN (x y : Nat) : Prop := (x = 0 ∧ y = 0) ∨ ∃ n g, LOK n g ∧ x = cA n g ∧ y = cB n g
theorem LRN.z {x y : Nat} (h : LRN x y) : x = 0 ↔ y = 0 := by
  rcases h with ⟨rfl, rfl⟩ | ⟨n, g, ⟨h1, -, -, -⟩, rfl, rfl⟩
  · exact Iff.rfl
  · have a : 0 < cA n g := by unfold cA; omega
    have b : 0 < cB n g := by unfold cB; omega
    exact ⟨fun _ => by omega, fun _ => by omega⟩
theorem LRN.b {x y : Nat} (h : LRN x y) : x < 2 ^ 31 ∧ y < 2 ^ 30 := by
  rcases h with ⟨rfl, rfl⟩ | ⟨n, g, ⟨-, h1, h2, -⟩, rfl, rfl⟩
  · exact ⟨by omega, by omega⟩
  · exact ⟨cA_lt (by omega) h2, cB_lt (by omega) h2⟩
theorem LRN.lt {x y x' y' : Nat} (h : LRN x y) (h' : LRN x' y') : x < x' ↔ y < y' := by
  have z := h.z
  have z' := h'.z
  rcases h with ⟨rfl, rfl⟩ | ⟨n, g, ⟨-, -, h2, -⟩, rfl, rfl⟩
  · omega
  · rcases h' with ⟨rfl, rfl⟩ | ⟨n', g', ⟨-, -, h2', -⟩, rfl, rfl⟩
    · omega
    · exact c_lt h2 h2'
theorem LRN.eq {x y x' y' : Nat} (h : LRN x y) (h' : LRN x' y') : x = x' ↔ y = y' := by
  have a := h.lt h'
  have b := h'.lt h
  omega
theorem GC_of {f : Nat → Nat} (k : Nat) (h1 : ∀ j, j < k → f j ≠ 0) (h2 : ∀ j, k ≤ j → j < 4 → f j = 0) : GC f := by
  have key : ∀ i, i + 1 < 4 → f i = 0 → f (i + 1) = 0 := fun i hi h => by
    by_cases hk : i < k
    · exact absurd h (h1 i hk)
    · exact h2 (i + 1) (by omega) hi
  exact ⟨key 0 (by omega), key 1 (by omega), key 2 (by omega)⟩
theorem GC_f1 {g : Nat → Nat} (hc : GC g) {k : Nat} (h : nl g ≤ k) : GC (f1 g (nl g) k) := by
  refine GC_of k (fun j hj => ?_) (fun j hj h4 => ?_)
  · unfold f1
    by_cases h1 : nl g ≤ j
    · rw [if_pos ⟨h1, hj⟩]
      omega
    · rw [if_neg (by omega)]
      exact nl_pos (by omega)
  · unfold f1
    rw [if_neg (by omega)]
    exact nl_rest hc (by omega) h4
theorem LOK_f1 {n k : Nat} {g : Nat → Nat} (h : LOK n g) (hk : nl g ≤ k) : LOK n (f1 g (nl g) k) := ⟨h.1, h.2.1, G26_f1 h.2.2.1, GC_f1 h.2.2.2 hk⟩
theorem nl0 : nl (fun _ => 0) = 0 := rfl
theorem LOK_0 {n : Nat} (h1 : 1 ≤ n) (h : n ≤ 999) : LOK n (fun _ => 0) := ⟨h1, h, G26_0, fun _ => rfl, fun _ => rfl, fun _ => rfl⟩
theorem LOK_A {n k : Nat} (h1 : 1 ≤ n) (h : n ≤ 999) : LOK n (f1 (fun _ => 0) 0 k) := LOK_f1 (LOK_0 h1 h) (Nat.zero_le k)
theorem LOK_dT {n k t : Nat} {g : Nat → Nat} (h : LOK n g) (hk : k ≤ nl g) (ht : t < k) (h26 : g t < 26) : LOK n (dT g t k) := by
  have h4 := nl_le g
  obtain ⟨a, b, hg, hc⟩ := h
  have key : ∀ j, j < 4 → dT g t k j ≤ 26 := fun j hj => by
    unfold dT
    by_cases h1 : j < t
    · rw [if_pos h1]
      exact hg.at hj
    · rw [if_neg h1]
      by_cases h2 : j = t
      · rw [if_pos h2]
        omega
      · rw [if_neg h2]
        split <;> omega
  refine ⟨a, b, ⟨key 0 (by omega), key 1 (by omega), key 2 (by omega), key 3 (by omega)⟩, GC_of k (fun j hj => ?_) (fun j hj _ => ?_)⟩
  · unfold dT
    by_cases h1 : j < t
    · rw [if_pos h1]
      exact nl_pos (by omega)
    · rw [if_neg h1]
      by_cases h2 : j = t
      · rw [if_pos h2]
        omega
      · rw [if_neg h2, if_pos hj]
        omega
  · unfold dT
    rw [if_neg (by omega), if_neg (by omega), if_neg (by omega)]
theorem LRN_SL {n k : Nat} {g : Nat → Nat} (h : LOK n g) : LRN (lab (SL n g k)) (labB (SL n g k)) := by
  by_cases h1 : nl g < k
  · have e : SL n g k = (n, f1 g (nl g) k) := if_pos h1
    rw [e]
    exact Or.inr ⟨n, _, LOK_f1 h (by omega), if_pos h.2.1, if_pos h.2.1⟩
  · cases ht : tn g k with
    | some t =>
      have e : SL n g k = (n, dT g t k) := by
        unfold SL
        rw [if_neg h1, ht]
      have := tn_lt ht
      rw [e]
      exact Or.inr ⟨n, _, LOK_dT h (by omega) this.1 this.2, if_pos h.2.1, if_pos h.2.1⟩
    | none =>
      have e : SL n g k = (n + 1, f1 (fun _ => 0) 0 k) := by
        unfold SL
        rw [if_neg h1, ht]
      rw [e]
      by_cases h9 : n + 1 ≤ 999
      · exact Or.inr ⟨n + 1, _, LOK_A (by omega) h9, if_pos h9, if_pos h9⟩
      · exact Or.inl ⟨if_neg h9, if_neg h9⟩
theorem least_ex {x y k : Nat} (h : LRN x y) (hk : k ≤ 4) : ∃ x' y', LRN x' y' ∧ X5_leastAbove (nI x) (nI k) = some (nI x') ∧ ∀ τ, ∃ τ1, X10_least (nI y) (nI k) τ = some (nI y', τ1) ∧ S17 τ τ1 := by
  rcases h with ⟨rfl, rfl⟩ | ⟨n, g, h, rfl, rfl⟩
  · rw [nI_0]
    exact ⟨_, _, Or.inr ⟨1, _, LOK_A (k := k) (by omega) (by omega), rfl, rfl⟩, x5_least0 hk, fun τ => x10_least0 hk τ⟩
  · exact ⟨_, _, LRN_SL (k := k) h, x5_least h hk, fun τ => x10_least h hk τ⟩
theorem S17.tr {τ τ1 τ2 : Mem} (h : S17 τ τ1) (h2 : S17 τ1 τ2) : S17 τ τ2 := fun c hc => (h2 c hc).trans (h c hc)
theorem btw_loop {a a' b b' : Nat} (ha : LRN a a') (hb : LRN b b') (hb0 : b ≠ 0) : ∀ (d k m m' : Nat), k + d = 5 → d < m → d < m' → ∃ c c', LRN c c' ∧ X5_between_16 (nI a) (nI b) m (nI k) = some (nI c) ∧
    ∀ (a1 a2 x3 x4 : Int32) (τ : Mem), ∃ τ1, S17 τ τ1 ∧ X10_add_295 a1 a2 m' x3 x4 (nI a') (nI b') 0 (nI k) τ = X10_add_332 a1 a2 x3 x4 (nI c') τ1 := by
  have hbb := hb.b
  have hbz := hb.z
  intro d
  induction d with
  | zero =>
    intro k m m' hk hm hm'
    obtain ⟨m, rfl⟩ : ∃ z, m = z + 1 := ⟨m - 1, by omega⟩
    obtain ⟨m', rfl⟩ : ∃ z, m' = z + 1 := ⟨m' - 1, by omega⟩
    obtain rfl : k = 5 := by omega
    refine ⟨0, 0, Or.inl ⟨rfl, rfl⟩, ?_, fun a1 a2 x3 x4 τ => ⟨τ, S17.rf, ?_⟩⟩
    · unfold X5_between_16
      rw [if_pos (by decide)]
      rfl
    · unfold X10_add_295
      rw [if_pos (by decide)]
      rfl
  | succ d ih =>
    intro k m m' hk hm hm'
    obtain ⟨m, rfl⟩ : ∃ z, m = z + 1 := ⟨m - 1, by omega⟩
    obtain ⟨m', rfl⟩ : ∃ z, m' = z + 1 := ⟨m' - 1, by omega⟩
    obtain ⟨x, y, hxy, e1, e2⟩ := least_ex ha (show k ≤ 4 by omega)
    obtain ⟨c, c', hc, i1, i2⟩ := ih (k + 1) m m' (by omega) (by omega) (by omega)
    have hz := hxy.z
    have hxb := hxy.b
    have hlt := hxy.lt hb
    unfold X5_between_16
    rw [if_neg (show ¬ (4 : Int32) < nI k from nI_nlt (a := 4) (by omega) (by omega)), e1, bd_s]
    by_cases hx0 : x = 0
    · rw [if_pos (show nI x = 0 by rw [hx0]; rfl)]
      simp only [lt]
      rw [nI_1]
      refine ⟨c, c', hc, i1, fun a1 a2 x3 x4 τ => ?_⟩
      obtain ⟨τ1, e3, s1⟩ := e2 τ
      obtain ⟨τ2, s2, e4⟩ := i2 a1 a2 x3 x4 τ1
      refine ⟨τ2, s1.tr s2, ?_⟩
      unfold X10_add_295
      rw [if_neg (show ¬ (5 : Int32) ≤ nI k from nI_ge (b := 5) (by omega) (by omega)), if_pos rfl, e3, bd_s]
      simp only [lt]
      rw [if_pos (show nI y < nI b' from nI_lt (by omega) (by omega)), nI_1, show nI y = 0 by rw [hz.mp hx0]; rfl]
      exact e4
    · rw [if_neg (nI_ne0 (by omega) (by omega))]
      by_cases hbx : b ≤ x
      · rw [if_pos (nI_le hbx (by omega))]
        simp only [lt]
        rw [nI_1]
        refine ⟨c, c', hc, i1, fun a1 a2 x3 x4 τ => ?_⟩
        obtain ⟨τ1, e3, s1⟩ := e2 τ
        obtain ⟨τ2, s2, e4⟩ := i2 a1 a2 x3 x4 τ1
        refine ⟨τ2, s1.tr s2, ?_⟩
        unfold X10_add_295
        rw [if_neg (show ¬ (5 : Int32) ≤ nI k from nI_ge (b := 5) (by omega) (by omega)), if_pos rfl, e3, bd_s]
        simp only [lt]
        rw [if_neg (show ¬ nI y < nI b' from nI_nlt (by omega) (by omega)), nI_1]
        exact e4
      · rw [if_neg (nI_ge (by omega) (by omega))]
        refine ⟨x, y, hxy, rfl, fun a1 a2 x3 x4 τ => ?_⟩
        obtain ⟨τ1, e3, s1⟩ := e2 τ
        refine ⟨τ1, s1, ?_⟩
        unfold X10_add_295
        rw [if_neg (show ¬ (5 : Int32) ≤ nI k from nI_ge (b := 5) (by omega) (by omega)), if_pos rfl, e3, bd_s]
        simp only [lt]
        rw [if_pos (show nI y < nI b' from nI_lt (by omega) (by omega)), nI_1]
        obtain ⟨m', rfl⟩ : ∃ z, m' = z + 1 := ⟨m' - 1, by omega⟩
        unfold X10_add_295
        by_cases h5 : 5 ≤ k + 1
        · rw [if_pos (show (5 : Int32) ≤ nI (k + 1) from nI_le (a := 5) h5 (by omega))]
        · rw [if_neg (show ¬ (5 : Int32) ≤ nI (k + 1) from nI_ge (b := 5) (by omega) (by omega)), if_neg (nI_ne0 (by omega) (by omega))]
theorem btw {a a' b b' : Nat} (ha : LRN a a') (hb : LRN b b') : ∃ c c', LRN c c' ∧ X5_between (nI a) (nI b) = some (nI c) ∧
    ∀ (a1 a2 x3 x4 : Int32) (τ : Mem), ∃ τ1, S17 τ τ1 ∧ (if nI b' = 0 then
          if (nI a' / 531441) = 999 then
            X10_add_287 a1 a2 x3 x4 0 τ
          else
            X10_add_287 a1 a2 x3 x4 (((nI a' / 531441) + 1) * 531441) τ
        else
          X10_add_295 a1 a2 FU x3 x4 (nI a') (nI b') 0 0 τ) = X10_add_332 a1 a2 x3 x4 (nI c') τ1 := by
  have hbb := hb.b
  have hbz := hb.z
  by_cases hb0 : b = 0
  · have hb0' := hbz.mp hb0
    subst hb0 hb0'
    have e9 : X5_between (nI a) (nI 0) = bd (X5_numberOf (nI a)) fun r8 => bd (X5_plain (r8 + 1)) fun r9 => some r9 := if_pos rfl
    have gen : ∀ n, n ≤ 999 → X5_numberOf (nI a) = some (nI n) → nI a' / 531441 = nI n → ∃ c c', LRN c c' ∧ X5_between (nI a) (nI 0) = some (nI c) ∧
        ∀ (a1 a2 x3 x4 : Int32) (τ : Mem), ∃ τ1, S17 τ τ1 ∧ (if nI 0 = 0 then if (nI a' / 531441) = 999 then X10_add_287 a1 a2 x3 x4 0 τ else X10_add_287 a1 a2 x3 x4 (((nI a' / 531441) + 1) * 531441) τ else X10_add_295 a1 a2 FU x3 x4 (nI a') (nI 0) 0 0 τ) = X10_add_332 a1 a2 x3 x4 (nI c') τ1 := fun n hn e1 e2 => by
      rw [e9, e1, bd_s, nI_1, x5_plainN (n + 1) (by omega), bd_s, e2]
      by_cases h9 : n = 999
      · refine ⟨0, 0, Or.inl ⟨rfl, rfl⟩, by rw [if_neg (show ¬ (1 ≤ n + 1 ∧ n + 1 ≤ 999) by omega)], fun a1 a2 x3 x4 τ => ⟨τ, S17.rf, ?_⟩⟩
        rw [if_pos nI_0, if_pos (show nI n = 999 by rw [h9]; rfl)]
        rfl
      · refine ⟨(n + 1) * 1048576, (n + 1) * 531441, Or.inr ⟨n + 1, _, LOK_0 (by omega) (by omega), cA_plain _, cB_plain _⟩, by rw [if_pos (show 1 ≤ n + 1 ∧ n + 1 ≤ 999 from ⟨by omega, by omega⟩)], fun a1 a2 x3 x4 τ => ⟨τ, S17.rf, ?_⟩⟩
        rw [if_pos nI_0, if_neg (show ¬ nI n = 999 from fun z => h9 ((nI_eq (b := 999) (by omega) (by omega)).mp z)), nI_1]
        show X10_add_332 a1 a2 x3 x4 (nI (n + 1) * nI 531441) τ = _
        rw [pk_mul]
    rcases ha with ⟨rfl, rfl⟩ | ⟨n, g, ⟨h1, h2, h3, -⟩, rfl, rfl⟩
    · exact gen 0 (by omega) (by decide +kernel) (by decide +kernel)
    · have e2 : nI (cB n g) / 531441 = nI n := by
        have := pk_div (a := cB n g) (d := 531441) (Nat.lt_trans (cB_lt (by omega) h3) (by omega)) (by omega) (by omega)
        rw [cB_num h3] at this
        exact this
      exact gen n h2 (x5_num (by omega) h3) e2
  · obtain ⟨c, c', hc, e1, e2⟩ := btw_loop ha hb hb0 5 0 FU FU (by omega) (by unfold FU; omega) (by unfold FU; omega)
    have e3 : X5_between (nI a) (nI b) = X5_between_16 (nI a) (nI b) FU 0 := if_neg (nI_ne0 (by omega) (by omega))
    rw [nI_0] at e1 e2
    refine ⟨c, c', hc, e3.trans e1, fun a1 a2 x3 x4 τ => ?_⟩
    obtain ⟨τ1, s, e⟩ := e2 a1 a2 x3 x4 τ
    exact ⟨τ1, s, by rw [if_neg (nI_ne0 (by omega) (by omega))]; exact e⟩
-- suffixes told as the bytes of a number
theorem i32_nat (x : Int32) : ∃ N, N < 2 ^ 32 ∧ x = nI N := ⟨x.toBitVec.toNat, x.toBitVec.isLt, Int32.toBitVec_inj.mp (by
  show x.toBitVec = BitVec.ofNat 32 x.toBitVec.toNat
  rw [BitVec.ofNat_toNat, BitVec.setWidth_eq])⟩
theorem and255_ex (x : Int32) : ∃ n, n < 256 ∧ x &&& 255 = nI n := by
  obtain ⟨N, -, rfl⟩ := i32_nat x
  exact ⟨N % 256, by omega, and255 N⟩
theorem shr255 (x : Int32) {s : Nat} (hs : s ≤ 24) : UInt32.toInt32 (Int32.toUInt32 x >>> (Int32.toUInt32 (nI s) &&& Int32.toUInt32 31)) &&& 255 = (x >>> (nI s &&& 31)) &&& 255 := by
  apply b_ext
  intro i hi
  rw [b_and, b_and, b_255, b_ushr s (by omega), b_sshr s (by omega) _ hi]
  by_cases h8 : i < 8
  · rw [if_pos (by omega)]
  · simp [h8]
def shf : Nat → Int32
  | 0 => -8
  | t + 1 => nI (8 * t)
theorem shf_st : ∀ t, t < 4 → nI (8 * t) + (-8) = shf t := by decide
