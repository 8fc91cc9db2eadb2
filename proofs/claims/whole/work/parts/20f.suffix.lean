/-! own words: pure part: a suffix told as the bytes of a number -/
/-- bytes from the highest on: letters, behind zeros that are passed over -/
def RS (bv : Nat → Nat) : Nat → Nat → (Nat → Nat) → Option (Nat → Nat)
  | 0, _, g => some g
  | t + 1, x, g => if bv t = 0 ∧ x = 0 then RS bv t x g else if 65 ≤ bv t ∧ bv t ≤ 90 then RS bv t (x + 1) (ud g x (bv t - 64)) else none
def BV (s : Int32) (bv : Nat → Nat) : Prop := ∀ t, t < 4 → bv t < 256 ∧ (s >>> (nI (8 * t) &&& 31)) &&& 255 = nI (bv t)
theorem BV_ex (s : Int32) : ∃ bv, BV s bv := by
  obtain ⟨b0, h0, e0⟩ := and255_ex (s >>> (nI (8 * 0) &&& 31))
  obtain ⟨b1, h1, e1⟩ := and255_ex (s >>> (nI (8 * 1) &&& 31))
  obtain ⟨b2, h2, e2⟩ := and255_ex (s >>> (nI (8 * 2) &&& 31))
  obtain ⟨b3, h3, e3⟩ := and255_ex (s >>> (nI (8 * 3) &&& 31))
  refine ⟨fun t => if t = 0 then b0 else if t = 1 then b1 else if t = 2 then b2 else b3, fun t ht => ?_⟩
  rcases (show t = 0 ∨ t = 1 ∨ t = 2 ∨ t = 3 by omega) with rfl | rfl | rfl | rfl
  · exact ⟨h0, e0⟩
  · exact ⟨h1, e1⟩
  · exact ⟨h2, e2⟩
  · exact ⟨h3, e3⟩
theorem i32_sub64 {b : Nat} (h : 64 ≤ b) : nI b - 64 = nI (b - 64) := pk_sub (b := 64) h
theorem x5_sfx {a0 s : Int32} {bv : Nat → Nat} (hb : BV s bv) {n : Nat} : ∀ (t x m : Nat) (g : Nat → Nat), x + t ≤ 4 → t < m → G26 g → X5_withSuffix_14 a0 s m (nI (cA n g)) (nI x) (shf t) = some (match RS bv t x g with
    | some g' => nI (cA n g')
    | none => 0) := by
  intro t
  induction t with
  | zero =>
    intro x m g hx hm hg
    obtain ⟨m, rfl⟩ : ∃ m', m = m' + 1 := ⟨m - 1, by omega⟩
    unfold X5_withSuffix_14
    rw [if_pos (show shf 0 < 0 by decide)]
    rfl
  | succ t ih =>
    intro x m g hx hm hg
    obtain ⟨m, rfl⟩ : ∃ m', m = m' + 1 := ⟨m - 1, by omega⟩
    obtain ⟨hb1, hb2⟩ := hb t (by omega)
    unfold X5_withSuffix_14
    rw [show shf (t + 1) = nI (8 * t) from rfl, if_neg (show ¬ nI (8 * t) < 0 from nI_pos (by omega)), shr255 s (by omega), hb2]
    simp only [lt]
    have e41 : ¬ (bv t = 0 ∧ x = 0) → X5_withSuffix_41 a0 s (X5_withSuffix_14 a0 s m) (nI (cA n g)) (nI x) (nI (8 * t)) (nI (bv t)) = some (match RS bv (t + 1) x g with
    | some g' => nI (cA n g')
    | none => 0) := fun hz => by
      unfold X5_withSuffix_41 RS
      rw [if_neg hz]
      by_cases h1 : bv t < 65
      · rw [if_pos (show nI (bv t) < 65 from nI_lt (b := 65) h1 (by omega)), if_neg (show ¬ (65 ≤ bv t ∧ bv t ≤ 90) by omega)]
      · rw [if_neg (show ¬ nI (bv t) < 65 from nI_nlt (b := 65) (by omega) (by omega))]
        by_cases h2 : bv t ≤ 90
        · rw [if_pos (show nI (bv t) ≤ 90 from nI_le (b := 90) h2 (by omega)), if_pos (show 65 ≤ bv t ∧ bv t ≤ 90 from ⟨by omega, h2⟩), i32_sub64 (by omega), x5_set hg (by omega) (by omega), bd_s]
          simp only [lt]
          rw [nI_1, shf_st t (by omega)]
          exact ih (x + 1) m _ (by omega) (by omega) (G26_ud hg (by omega))
        · rw [if_neg (show ¬ nI (bv t) ≤ 90 from nI_ge (a := 90) (by omega) (by omega)), if_neg (show ¬ (65 ≤ bv t ∧ bv t ≤ 90) by omega)]
    by_cases hz : bv t = 0
    · rw [if_pos (show nI (bv t) = 0 by rw [hz]; rfl)]
      by_cases hx0 : x = 0
      · rw [if_pos (show nI x = 0 by rw [hx0]; rfl), shf_st t (by omega)]
        have e : RS bv (t + 1) x g = RS bv t x g := if_pos ⟨hz, hx0⟩
        rw [e]
        exact ih x m g (by omega) (by omega) hg
      · rw [if_neg (nI_ne0 (by omega) (by omega))]
        exact e41 (fun z => hx0 z.2)
    · rw [if_neg (nI_ne0 (by omega) (by omega))]
      exact e41 (fun z => hz z.1)
/-- the act of an error, its hand held -/
def ERR (a1 a2 : Int32) (τ : Mem) : Option (Int32 × Mem) := bd (X10_act 3 a1 τ) fun r8 =>
        lt (r8) fun σ9 =>
        bd (X10_suffixInHand σ9) fun r10 =>
        bd (X10_change a1 ((a2 * 531441) + r10) σ9) fun r11 =>
        lt (r11) fun σ12 =>
        some (1, σ12)
theorem x10_great {b : Nat} (hb : b < 256) : X10_isGreat (nI b) = some (if 65 ≤ b ∧ b ≤ 90 then 1 else 0) := by
  unfold X10_isGreat
  by_cases h1 : b < 65
  · rw [if_pos (show nI b < 65 from nI_lt (b := 65) h1 (by omega)), if_neg (show ¬ (65 ≤ b ∧ b ≤ 90) by omega)]
  · rw [if_neg (show ¬ nI b < 65 from nI_nlt (b := 65) (by omega) (by omega))]
    by_cases h2 : 90 < b
    · rw [if_pos (show (90 : Int32) < nI b from nI_lt (a := 90) h2 (by omega)), if_neg (show ¬ (65 ≤ b ∧ b ≤ 90) by omega)]
    · rw [if_neg (show ¬ (90 : Int32) < nI b from nI_nlt (a := 90) (by omega) (by omega)), if_pos (show 65 ≤ b ∧ b ≤ 90 from ⟨by omega, by omega⟩)]
theorem x10_sfx {a1 a2 s : Int32} {bv : Nat → Nat} (hb : BV s bv) : ∀ (t x m : Nat) (g : Nat → Nat) (τ : Mem), x + t ≤ 4 → t < m → HD τ g → ∃ τ1, S17 τ τ1 ∧ match RS bv t x g with
    | some g' => HD τ1 g' ∧ X10_error_57 a1 a2 s m (nI x) (shf t) τ = ERR a1 a2 τ1
    | none => X10_error_57 a1 a2 s m (nI x) (shf t) τ = some (0, τ1) := by
  intro t
  induction t with
  | zero =>
    intro x m g τ hx hm hg
    obtain ⟨m, rfl⟩ : ∃ m', m = m' + 1 := ⟨m - 1, by omega⟩
    refine ⟨τ, S17.rf, hg, ?_⟩
    unfold X10_error_57
    rw [if_pos (show shf 0 < 0 by decide)]
    rfl
  | succ t ih =>
    intro x m g τ hx hm hg
    obtain ⟨m, rfl⟩ : ∃ m', m = m' + 1 := ⟨m - 1, by omega⟩
    obtain ⟨hb1, hb2⟩ := hb t (by omega)
    have e0 : X10_error_57 a1 a2 s (m + 1) (nI x) (shf (t + 1)) τ = if nI (bv t) = 0 then if nI x = 0 then X10_error_57 a1 a2 s m (nI x) (shf t) τ else X10_error_85 a1 a2 s (X10_error_57 a1 a2 s m) (nI x) (nI (8 * t)) (nI (bv t)) τ else X10_error_85 a1 a2 s (X10_error_57 a1 a2 s m) (nI x) (nI (8 * t)) (nI (bv t)) τ := by
      conv => lhs; unfold X10_error_57
      rw [show shf (t + 1) = nI (8 * t) from rfl, if_neg (show ¬ nI (8 * t) < 0 from nI_pos (by omega)), hb2]
      simp only [lt]
      rw [shf_st t (by omega)]
    rw [e0]
    have e85 : ¬ (bv t = 0 ∧ x = 0) → ∃ τ1, S17 τ τ1 ∧ match RS bv (t + 1) x g with
    | some g' => HD τ1 g' ∧ X10_error_85 a1 a2 s (X10_error_57 a1 a2 s m) (nI x) (nI (8 * t)) (nI (bv t)) τ = ERR a1 a2 τ1
    | none => X10_error_85 a1 a2 s (X10_error_57 a1 a2 s m) (nI x) (nI (8 * t)) (nI (bv t)) τ = some (0, τ1) := fun hz => by
      unfold X10_error_85 RS
      rw [if_neg hz, x10_great hb1, bd_s]
      by_cases h1 : 65 ≤ bv t ∧ bv t ≤ 90
      · rw [if_pos h1, if_pos h1, if_neg (show ¬ (1 : Int32) = 0 by decide), gd_i (vp_in_nI (by omega) (by omega))]
        simp only [lt]
        rw [nI_1, shf_st t (by omega), i32_sub64 (by omega), nI_clamp (by omega)]
        obtain ⟨τ1, s1, h⟩ := ih (x + 1) m _ _ (by omega) (by omega) (HD_ud hg (i := x) (l := bv t - 64) (by omega))
        exact ⟨τ1, (S17.rf.up (i := x) (v := nI (bv t - 64))).tr s1, h⟩
      · rw [if_neg h1, if_neg h1, if_pos rfl]
        exact ⟨τ, S17.rf, rfl⟩
    by_cases hz : bv t = 0
    · rw [if_pos (show nI (bv t) = 0 by rw [hz]; rfl)]
      by_cases hx0 : x = 0
      · rw [if_pos (show nI x = 0 by rw [hx0]; rfl)]
        have e : RS bv (t + 1) x g = RS bv t x g := if_pos ⟨hz, hx0⟩
        rw [e]
        exact ih x m g τ (by omega) (by omega) hg
      · rw [if_neg (nI_ne0 (by omega) (by omega))]
        exact e85 (fun z => hx0 z.2)
    · rw [if_neg (nI_ne0 (by omega) (by omega))]
      exact e85 (fun z => hz z.1)
theorem RS_ok {bv : Nat → Nat} : ∀ (t x : Nat) (g g' : Nat → Nat), x + t ≤ 4 → G26 g → (∀ j, j < x → g j ≠ 0) → (∀ j, x ≤ j → g j = 0) → RS bv t x g = some g' → G26 g' ∧ GC g' := by
  intro t
  induction t with
  | zero =>
    intro x g g' _ hg h1 h2 e
    cases Option.some.inj e
    exact ⟨hg, GC_of x h1 (fun j hj _ => h2 j hj)⟩
  | succ t ih =>
    intro x g g' hx hg h1 h2 e
    unfold RS at e
    by_cases hz : bv t = 0 ∧ x = 0
    · rw [if_pos hz] at e
      exact ih x g g' (by omega) hg h1 h2 e
    · rw [if_neg hz] at e
      by_cases h3 : 65 ≤ bv t ∧ bv t ≤ 90
      · rw [if_pos h3] at e
        refine ih (x + 1) _ g' (by omega) (G26_ud hg (by omega)) (fun j hj => ?_) (fun j hj => ?_) e
        · by_cases hjx : j = x
          · subst hjx
            rw [ud_s]
            omega
          · rw [ud_n hjx]
            exact h1 j (by omega)
        · rw [ud_n (by omega)]
          exact h2 j (by omega)
      · rw [if_neg h3] at e
        cases e
theorem x10_33 {a1 a2 s : Int32} : ∀ (d i m : Nat) (τ : Mem), i + d = 4 → d < m → (∀ j, j < i → τ 17 j = nI 0) → ∃ τ1, S17 τ τ1 ∧ HD τ1 (fun _ => 0) ∧ X10_error_33 a1 a2 s m 0 (nI i) τ = X10_error_57 a1 a2 s FU 0 24 τ1 := by
  intro d
  induction d with
  | zero =>
    intro i m τ hi hm e
    obtain ⟨m, rfl⟩ : ∃ m', m = m' + 1 := ⟨m - 1, by omega⟩
    obtain rfl : i = 4 := by omega
    refine ⟨τ, S17.rf, ⟨e 0 (by omega), e 1 (by omega), e 2 (by omega), e 3 (by omega)⟩, ?_⟩
    unfold X10_error_33
    rw [if_pos (by decide)]
  | succ d ih =>
    intro i m τ hi hm e
    obtain ⟨m, rfl⟩ : ∃ m', m = m' + 1 := ⟨m - 1, by omega⟩
    have e0 : X10_error_33 a1 a2 s (m + 1) 0 (nI i) τ = X10_error_33 a1 a2 s m 0 (nI (i + 1)) (up τ 17 i 0) := by
      conv => lhs; unfold X10_error_33
      rw [if_neg (show ¬ (4 : Int32) ≤ nI i from nI_ge (b := 4) (by omega) (by omega)), gd_i (vp_in_nI (by omega) (by omega))]
      simp only [lt]
      rw [nI_1, nI_clamp (by omega)]
    rw [e0]
    obtain ⟨τ1, s1, h1, h2⟩ := ih (i + 1) m (up τ 17 i 0) (by omega) (by omega) (fun j hj => by
      unfold up
      rw [upc_s]
      unfold upd
      by_cases hji : j = i
      · rw [if_pos hji]
        rfl
      · rw [if_neg hji]
        exact e j (by omega))
    exact ⟨τ1, (S17.rf.up (i := i) (v := 0)).tr s1, h1, h2⟩
/-- an error's label, on both sides -/
theorem err_ex {n : Nat} (h1 : 1 ≤ n) (h9 : n ≤ 999) (s : Int32) : (X5_withSuffix (nI (n * 1048576)) s = some 0 ∧ ∀ (a1 a2 : Int32) (τ : Mem), ∃ τ1, S17 τ τ1 ∧ X10_error_33 a1 a2 s FU 0 0 τ = some (0, τ1)) ∨
    ∃ g, LOK n g ∧ X5_withSuffix (nI (n * 1048576)) s = some (nI (cA n g)) ∧ ∀ (a1 a2 : Int32) (τ : Mem), ∃ τ1, S17 τ τ1 ∧ HD τ1 g ∧ X10_error_33 a1 a2 s FU 0 0 τ = ERR a1 a2 τ1 := by
  obtain ⟨bv, hb⟩ := BV_ex s
  have e1 : X5_withSuffix (nI (n * 1048576)) s = X5_withSuffix_14 (nI (n * 1048576)) s FU (nI (n * 1048576)) 0 24 := if_neg (nI_ne0 (by omega) (by omega))
  have e2 := x5_sfx (a0 := nI (n * 1048576)) hb (n := n) 4 0 FU (fun _ => 0) (by omega) (by unfold FU; omega) G26_0
  have e3 : ∀ (a1 a2 : Int32) (τ : Mem), ∃ τ1, S17 τ τ1 ∧ match RS bv 4 0 (fun _ => 0) with
    | some g' => HD τ1 g' ∧ X10_error_33 a1 a2 s FU 0 0 τ = ERR a1 a2 τ1
    | none => X10_error_33 a1 a2 s FU 0 0 τ = some (0, τ1) := fun a1 a2 τ => by
    obtain ⟨τ1, s1, g1, k1⟩ := x10_33 (a1 := a1) (a2 := a2) (s := s) 4 0 FU τ (by omega) (by unfold FU; omega) (fun j hj => absurd hj (by omega))
    rw [nI_0] at k1
    obtain ⟨τ2, s2, k2⟩ := x10_sfx (a1 := a1) (a2 := a2) hb 4 0 FU _ τ1 (by omega) (by unfold FU; omega) g1
    refine ⟨τ2, s1.tr s2, ?_⟩
    rw [k1]
    rw [nI_0] at k2
    exact k2
  rw [← cA_plain, nI_0] at e2
  have hok := RS_ok (bv := bv) 4 0 (fun _ => 0)
  cases hr : RS bv 4 0 (fun _ => 0) with
  | none =>
    rw [hr] at e2
    refine Or.inl ⟨e1.trans e2, fun a1 a2 τ => ?_⟩
    obtain ⟨τ1, s1, k1⟩ := e3 a1 a2 τ
    rw [hr] at k1
    exact ⟨τ1, s1, k1⟩
  | some g' =>
    rw [hr] at e2
    obtain ⟨k1, k2⟩ := hok g' (by omega) G26_0 (fun j hj => absurd hj (by omega)) (fun _ _ => rfl) hr
    refine Or.inr ⟨g', ⟨h1, h9, k1, k2⟩, e1.trans e2, fun a1 a2 τ => ?_⟩
    obtain ⟨τ1, s1, k3⟩ := e3 a1 a2 τ
    rw [hr] at k3
    exact ⟨τ1, s1, k3⟩
