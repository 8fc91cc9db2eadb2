/-! own words: pure part: the reference's pen -/
theorem BOUT.app {O : List Nat} {τ τ1 : Mem} (h : BOUT O τ) (hl : O.length < 100) {b : Nat} (hb : b < 128) (e0 : τ1 0 32 = nI (O.length + 1)) (e1 : τ1 18 = upd (τ 18) O.length (nI b)) : BOUT (O ++ [b]) τ1 := by
  obtain ⟨h1, h2, h3, h4⟩ := h
  refine ⟨by rw [app_len]; omega, by rw [app_len]; exact e0, fun i hi => ?_, fun i hi => ?_⟩
  · rw [app_len] at hi
    rw [e1, app_getD]
    by_cases h : i < O.length
    · rw [if_pos h, pk_un (by omega)]
      exact h3 i h
    · rw [if_neg h, if_pos (by omega), show i = O.length by omega, pk_us]
  · rw [app_len] at hi
    rw [app_getD]
    by_cases h : i < O.length
    · rw [if_pos h]
      exact h4 i h
    · rw [if_neg h, if_pos (by omega)]
      exact hb
theorem x10_put {O : List Nat} {τ : Mem} (h : BOUT O τ) {b : Nat} (hl : O.length + 1 ≤ 100) (hb : b < 128) : ∃ τ1, X10_put (nI b) τ = some τ1 ∧ BOUT (O ++ [b]) τ1 ∧ FR [18] [32] τ τ1 := by
  have h2 := h.2.1
  have hs : vp_nar .byte (Int8.toInt32 (Int32.toInt8 (nI b))) = nI b := by
    rw [i8_sb (b := b) (by omega) (by rw [and255, Nat.mod_eq_of_lt (by omega)]), sb_lo hb]
  refine ⟨up (up τ 18 O.length (nI b)) 0 32 (nI (O.length + 1)), ?_, h.app (by omega) hb rfl rfl, (FR.rf.cel (by decide) (by decide)).fld (by decide)⟩
  unfold X10_put
  rw [h2, gd_i (vp_in_nI (by omega) (by omega)), nI_clamp (by omega), hs]
  show some (up (up τ 18 O.length (nI b)) 0 32 (τ 0 32 + 1)) = _
  rw [h2, nI_1]
theorem tab_G : ∀ i, i < 12 → fG i < 60 ∧ X10_romanLetter (nI (fG i % 10)) = some (nI (if rS i = 0 then rF i else rS i)) ∧ (rS i = 0 ↔ fG i ≤ 9) ∧ (9 < fG i → X10_romanLetter (nI (fG i / 10)) = some (nI (rF i))) := by decide +kernel
theorem x10_r12 {a1 : Int32} {lift i : Nat} (hi : i < 12) (hlf : lift ≤ 32) {k5 : Int32 → Int32 → Mem → Option Mem} {τ0 : Mem} (hco : BCO τ0) : ∀ (q left m : Nat) (O : List Nat) (τ : Mem), left / fW i = q → left < m → left ≤ 999 → BOUT O τ → FR [18] [32] τ0 τ → O.length + (rpt (rg lift i) q).length ≤ 100 → ∃ τ1, X10_roman_12 a1 (nI lift) k5 m (nI left) (nI i) τ = k5 (nI (left % fW i)) (nI (i + 1)) τ1 ∧ BOUT (O ++ rpt (rg lift i) q) τ1 ∧ FR [18] [32] τ0 τ1 := by
  obtain ⟨t1, t2, t3, t4, t5, t6, t7⟩ := tab_W i hi
  obtain ⟨g1, g2, g3, g4⟩ := tab_G i hi
  have hg12 : ∀ (x : Option Mem), gd (nI i) 12 x = x := fun x => gd_i (vp_in_nI hi (by omega))
  intro q
  induction q with
  | zero =>
    intro left m O τ hq hm h9 hT hF hl
    obtain ⟨m, rfl⟩ : ∃ z, m = z + 1 := ⟨m - 1, by omega⟩
    have hlt : left < fW i := by
      rcases Nat.lt_or_ge left (fW i) with z | z
      · exact z
      · have := Nat.div_pos z (by omega)
        omega
    have hw := (hco.fr hF (by decide) i hi).1
    refine ⟨τ, ?_, by rw [show rpt (rg lift i) 0 = [] from rfl, List.append_nil]; exact hT, hF⟩
    unfold X10_roman_12
    simp only [hg12, lt]
    rw [nI_clamp (by omega), hw, if_pos (nI_lt hlt (by omega)), nI_1, Nat.mod_eq_of_lt hlt]
  | succ q ih =>
    intro left m O τ hq hm h9 hT hF hl
    obtain ⟨m, rfl⟩ : ∃ z, m = z + 1 := ⟨m - 1, by omega⟩
    have hge : fW i ≤ left := by
      rcases Nat.lt_or_ge left (fW i) with z | z
      · rw [Nat.div_eq_of_lt z] at hq
        omega
      · exact z
    have hq2 : (left - fW i) / fW i = q := by
      have e := Nat.add_div_right (left - fW i) (show 0 < fW i by omega)
      rw [Nat.sub_add_cancel hge] at e
      omega
    have hm2 : (left - fW i) % fW i = left % fW i := by
      have e := Nat.add_mod_right (left - fW i) (fW i)
      rw [Nat.sub_add_cancel hge] at e
      exact e.symm
    have hr : rpt (rg lift i) (q + 1) = rg lift i ++ rpt (rg lift i) q := rfl
    rw [hr, List.length_append] at hl
    have e0 : ∀ τ2 : Mem, BOUT (O ++ rg lift i) τ2 → FR [18] [32] τ0 τ2 → ∃ τ1, X10_roman_12 a1 (nI lift) k5 m (nI (left - fW i)) (nI i) τ2 = k5 (nI (left % fW i)) (nI (i + 1)) τ1 ∧ BOUT (O ++ rpt (rg lift i) (q + 1)) τ1 ∧ FR [18] [32] τ0 τ1 := fun τ2 h2 f2 => by
      obtain ⟨τ1, k1, k2, k3⟩ := ih (left - fW i) m (O ++ rg lift i) τ2 hq2 (by omega) (by omega) h2 f2 (by rw [List.length_append]; omega)
      rw [hm2] at k1
      exact ⟨τ1, k1, by rw [hr, ← List.append_assoc]; exact k2, k3⟩
    have hgl := rg_len lift i
    have hw := hco.fr hF (by decide) i hi
    have e64 : ∀ (O' : List Nat) (τ2 : Mem), BOUT O' τ2 → FR [18] [32] τ0 τ2 → O'.length + 1 ≤ 100 → ∃ τ3, X10_roman_64 a1 (nI lift) (X10_roman_12 a1 (nI lift) k5 m) k5 (nI (left - fW i)) (nI i) τ2 = X10_roman_12 a1 (nI lift) k5 m (nI (left - fW i)) (nI i) τ3 ∧ BOUT (O' ++ [(if rS i = 0 then rF i else rS i) + lift]) τ3 ∧ FR [18] [32] τ0 τ3 := fun O' τ2 h2 f2 hl2 => by
      have hw2 := (hco.fr f2 (by decide) i hi).2
      have hr10 : nI (fG i) - nI (fG i) / 10 * 10 = nI (fG i % 10) := pk_rem (d := 10) (by omega) (by omega) (by omega)
      obtain ⟨τ3, p1, p2, p3⟩ := x10_put h2 (b := (if rS i = 0 then rF i else rS i) + lift) hl2 (by split <;> omega)
      refine ⟨τ3, ?_, p2, f2.tr p3⟩
      unfold X10_roman_64
      simp only [hg12, lt]
      rw [nI_clamp (by omega), hw2, hr10, g2, bd_s, nI_add, p1, bd_s]
    unfold X10_roman_12
    simp only [hg12, lt]
    rw [nI_clamp (by omega), hw.1, hw.2, if_neg (nI_nlt hge (by omega)), pk_sub hge]
    by_cases hS : rS i = 0
    · rw [if_pos (show nI (fG i) ≤ 9 from nI_le (b := 9) (g3.mp hS) (by omega))]
      obtain ⟨τ3, p1, p2, p3⟩ := e64 O τ hT hF (by omega)
      rw [p1]
      refine e0 τ3 ?_ p3
      rw [if_pos hS] at p2
      rw [show rg lift i = [rF i + lift] from if_pos hS]
      exact p2
    · have hgt : 9 < fG i := by
        rcases Nat.lt_or_ge 9 (fG i) with z | z
        · exact z
        · exact absurd (g3.mpr z) hS
      have hg2 : rg lift i = [rF i + lift, rS i + lift] := if_neg hS
      rw [hg2] at hl
      simp at hl
      have hd10 : nI (fG i) / 10 = nI (fG i / 10) := pk_div (d := 10) (by omega) (by omega) (by omega)
      obtain ⟨τ2, q1, q2, q3⟩ := x10_put hT (b := rF i + lift) (by omega) (by omega)
      obtain ⟨τ3, p1, p2, p3⟩ := e64 _ τ2 q2 (hF.tr q3) (by rw [app_len]; omega)
      rw [if_neg (show ¬ nI (fG i) ≤ 9 from nI_ge (a := 9) hgt (by omega)), hd10, g4 hgt, bd_s, nI_add, q1, bd_s, p1]
      refine e0 τ3 ?_ p3
      rw [if_neg hS] at p2
      rw [hg2, show [rF i + lift, rS i + lift] = [rF i + lift] ++ [rS i + lift] from rfl, ← List.append_assoc]
      exact p2
theorem x10_rom {a1 : Int32} {lift : Nat} (hlf : lift ≤ 32) {τ0 : Mem} (hco : BCO τ0) : ∀ (d i left m : Nat) (O : List Nat) (τ : Mem), i + d = 12 → d < m → left ≤ 999 → BOUT O τ → FR [18] [32] τ0 τ → O.length + (rom lift d i left).length ≤ 100 → ∃ τ1, X10_roman_5 a1 (nI lift) m (nI left) (nI i) τ = some τ1 ∧ BOUT (O ++ rom lift d i left) τ1 ∧ FR [18] [32] τ0 τ1 := by
  intro d
  induction d with
  | zero =>
    intro i left m O τ hi hm h9 hT hF hl
    obtain ⟨m, rfl⟩ : ∃ z, m = z + 1 := ⟨m - 1, by omega⟩
    obtain rfl : i = 12 := by omega
    refine ⟨τ, ?_, by rw [show rom lift 0 12 left = [] from rfl, List.append_nil]; exact hT, hF⟩
    unfold X10_roman_5
    rw [if_pos (by decide)]
  | succ d ih =>
    intro i left m O τ hi hm h9 hT hF hl
    obtain ⟨m, rfl⟩ : ∃ z, m = z + 1 := ⟨m - 1, by omega⟩
    have hr : rom lift (d + 1) i left = rpt (rg lift i) (left / fW i) ++ rom lift d (i + 1) (left % fW i) := rfl
    rw [hr, List.length_append] at hl
    obtain ⟨τ1, e1, e2, e5⟩ := x10_r12 (a1 := a1) (k5 := X10_roman_5 a1 (nI lift) m) (show i < 12 by omega) hlf hco (left / fW i) left FU O τ rfl (by unfold FU; omega) h9 hT hF (by omega)
    obtain ⟨τ2, e3, e4, e6⟩ := ih (i + 1) (left % fW i) m _ τ1 (by omega) (by omega) (Nat.le_trans (Nat.mod_le _ _) h9) e2 e5 (by rw [List.length_append]; omega)
    refine ⟨τ2, ?_, by rw [hr, ← List.append_assoc]; exact e4, e6⟩
    unfold X10_roman_5
    rw [if_neg (show ¬ (12 : Int32) ≤ nI i from nI_ge (b := 12) (by omega) (by omega)), e1]
    exact e3
theorem x10_dig {n : Nat} {O : List Nat} {τ : Mem} (hn : n ≤ 999) (hT : BOUT O τ) (hl : O.length + (wdg n).length ≤ 100) : ∃ τ1, X10_decimal (nI n) τ = some τ1 ∧ BOUT (O ++ wdg n) τ1 ∧ FR [18] [32] τ τ1 := by
  have e10 : nI n / 10 = nI (n / 10) := pk_div (d := 10) (by omega) (by omega) (by omega)
  have e100 : nI n / 100 = nI (n / 100) := pk_div (d := 100) (by omega) (by omega) (by omega)
  have r10 : nI n - nI (n / 10) * 10 = nI (n % 10) := by
    rw [← e10]
    exact pk_rem (d := 10) (by omega) (by omega) (by omega)
  have r100 : nI (n / 10) - nI (n / 10) / 10 * 10 = nI (n / 10 % 10) := pk_rem (a := n / 10) (d := 10) (by omega) (by omega) (by omega)
  have s3 : ∀ (O : List Nat) (τ : Mem), BOUT O τ → O.length + 1 ≤ 100 → ∃ τ1, X10_decimal_37 (nI n) τ = some τ1 ∧ BOUT (O ++ [48 + n % 10]) τ1 ∧ FR [18] [32] τ τ1 := fun O τ hT hl => by
    obtain ⟨τ1, p1, p2, p3⟩ := x10_put hT (b := 48 + n % 10) hl (by omega)
    refine ⟨τ1, ?_, p2, p3⟩
    unfold X10_decimal_37
    have e : (48 : Int32) + nI (n % 10) = nI (48 + n % 10) := nI_add 48 _
    rw [e10, r10, e, p1]
    rfl
  have s2 : ∀ (O : List Nat) (τ : Mem), BOUT O τ → O.length + ((if 10 ≤ n then [48 + n / 10 % 10] else []) ++ [48 + n % 10]).length ≤ 100 → ∃ τ1, X10_decimal_17 (nI n) τ = some τ1 ∧ BOUT (O ++ ((if 10 ≤ n then [48 + n / 10 % 10] else []) ++ [48 + n % 10])) τ1 ∧ FR [18] [32] τ τ1 := fun O τ hT hl => by
    unfold X10_decimal_17
    by_cases h : 10 ≤ n
    · rw [if_pos h] at hl ⊢
      simp at hl
      obtain ⟨τ1, p1, p2, p5⟩ := x10_put hT (b := 48 + n / 10 % 10) (by omega) (by omega)
      obtain ⟨τ2, p3, p4, p6⟩ := s3 _ τ1 p2 (by rw [app_len]; omega)
      have e : (48 : Int32) + nI (n / 10 % 10) = nI (48 + n / 10 % 10) := nI_add 48 _
      rw [if_neg (show ¬ nI n ≤ 9 from nI_ge (a := 9) h (by omega)), e10, r100, e, p1, bd_s]
      exact ⟨τ2, p3, by rw [← List.append_assoc]; exact p4, p5.tr p6⟩
    · rw [if_neg h] at hl ⊢
      rw [if_pos (show nI n ≤ 9 from nI_le (b := 9) (by omega) (by omega))]
      exact s3 O τ hT (by simpa using hl)
  unfold X10_decimal
  by_cases h : 100 ≤ n
  · have hw : wdg n = [48 + n / 100] ++ ((if 10 ≤ n then [48 + n / 10 % 10] else []) ++ [48 + n % 10]) := by
      unfold wdg
      rw [if_pos h]
    rw [hw, List.length_append] at hl
    obtain ⟨τ1, p1, p2, p5⟩ := x10_put hT (b := 48 + n / 100) (by simp at hl; omega) (by omega)
    obtain ⟨τ2, p3, p4, p6⟩ := s2 _ τ1 p2 (by rw [app_len]; simp only [List.length_singleton] at hl; omega)
    have e : (48 : Int32) + nI (n / 100) = nI (48 + n / 100) := nI_add 48 _
    rw [if_neg (show ¬ nI n ≤ 99 from nI_ge (a := 99) h (by omega)), e100, e, p1, bd_s]
    exact ⟨τ2, p3, by rw [hw, ← List.append_assoc]; exact p4, p5.tr p6⟩
  · have hw : wdg n = (if 10 ≤ n then [48 + n / 10 % 10] else []) ++ [48 + n % 10] := by
      unfold wdg
      rw [if_neg h]
      rfl
    rw [hw] at hl ⊢
    rw [if_pos (show nI n ≤ 99 from nI_le (b := 99) (by omega) (by omega))]
    exact s2 O τ hT hl
theorem ltr_tab : ∀ n, n < 1000 → 1 ≤ n → (26 < (n - 1) / 26 → (nI n - 703) / 676 = nI 0 ∧ ((n - 1) / 26 - 1) / 26 = 1) ∧ (0 < (n - 1) / 26 → (nI n - 27) / 26 - (nI n - 27) / 26 / 26 * 26 = nI (((n - 1) / 26 - 1) % 26)) := by decide +kernel
theorem x10_ltr {n : Nat} {O : List Nat} {τ : Mem} (h1 : 1 ≤ n) (hn : n ≤ 999) (hT : BOUT O τ) (hl : O.length + (wlt n).length ≤ 100) : ∃ τ1, X10_letters (nI n) τ = some τ1 ∧ BOUT (O ++ wlt n) τ1 ∧ FR [18] [32] τ τ1 := by
  obtain ⟨t1, t2⟩ := ltr_tab n (by omega) h1
  have em : nI n - 1 = nI (n - 1) := pk_sub (b := 1) h1
  have e26 : nI (n - 1) / 26 = nI ((n - 1) / 26) := pk_div (d := 26) (by omega) (by omega) (by omega)
  have r26 : nI (n - 1) - nI ((n - 1) / 26) * 26 = nI ((n - 1) % 26) := by
    rw [← e26]
    exact pk_rem (d := 26) (by omega) (by omega) (by omega)
  have s3 : ∀ (O : List Nat) (τ : Mem), BOUT O τ → O.length + 1 ≤ 100 → ∃ τ1, X10_letters_50 (nI n) τ = some τ1 ∧ BOUT (O ++ [97 + (n - 1) % 26]) τ1 ∧ FR [18] [32] τ τ1 := fun O τ hT hl => by
    obtain ⟨τ1, p1, p2, p3⟩ := x10_put hT (b := 97 + (n - 1) % 26) hl (by omega)
    refine ⟨τ1, ?_, p2, p3⟩
    unfold X10_letters_50
    have e : (97 : Int32) + nI ((n - 1) % 26) = nI (97 + (n - 1) % 26) := nI_add 97 _
    rw [em, e26, r26, e, p1]
    rfl
  have s2 : ∀ (O : List Nat) (τ : Mem), BOUT O τ → O.length + ((if 0 < (n - 1) / 26 then [97 + ((n - 1) / 26 - 1) % 26] else []) ++ [97 + (n - 1) % 26]).length ≤ 100 → ∃ τ1, X10_letters_33 (nI n) ((nI n - 27) / 26) τ = some τ1 ∧ BOUT (O ++ ((if 0 < (n - 1) / 26 then [97 + ((n - 1) / 26 - 1) % 26] else []) ++ [97 + (n - 1) % 26])) τ1 ∧ FR [18] [32] τ τ1 := fun O τ hT hl => by
    unfold X10_letters_33
    by_cases h : 0 < (n - 1) / 26
    · rw [if_pos h] at hl ⊢
      simp at hl
      obtain ⟨τ1, p1, p2, p5⟩ := x10_put hT (b := 97 + ((n - 1) / 26 - 1) % 26) (by omega) (by omega)
      obtain ⟨τ2, p3, p4, p6⟩ := s3 _ τ1 p2 (by rw [app_len]; omega)
      have e : (97 : Int32) + nI (((n - 1) / 26 - 1) % 26) = nI (97 + ((n - 1) / 26 - 1) % 26) := nI_add 97 _
      rw [if_neg (show ¬ nI n ≤ 26 from nI_ge (a := 26) (by omega) (by omega)), t2 h, e, p1, bd_s]
      exact ⟨τ2, p3, by rw [← List.append_assoc]; exact p4, p5.tr p6⟩
    · rw [if_neg h] at hl ⊢
      rw [if_pos (show nI n ≤ 26 from nI_le (b := 26) (by omega) (by omega))]
      exact s3 O τ hT (by simpa using hl)
  unfold X10_letters
  simp only [lt]
  by_cases h : 26 < (n - 1) / 26
  · have hw : wlt n = [96 + ((n - 1) / 26 - 1) / 26] ++ ((if 0 < (n - 1) / 26 then [97 + ((n - 1) / 26 - 1) % 26] else []) ++ [97 + (n - 1) % 26]) := by
      unfold wlt
      rw [if_pos h]
    rw [hw, List.length_append] at hl
    obtain ⟨u1, u2⟩ := t1 h
    obtain ⟨τ1, p1, p2, p5⟩ := x10_put hT (b := 97) (by simp at hl; omega) (by omega)
    obtain ⟨τ2, p3, p4, p6⟩ := s2 _ τ1 p2 (by rw [app_len]; simp only [List.length_singleton] at hl; omega)
    have e : (97 : Int32) + nI 0 = nI 97 := nI_add 97 0
    rw [if_neg (show ¬ nI n ≤ 702 from nI_ge (a := 702) (by omega) (by omega)), u1, e, p1, bd_s]
    exact ⟨τ2, p3, by rw [hw, u2, ← List.append_assoc]; exact p4, p5.tr p6⟩
  · have hw : wlt n = (if 0 < (n - 1) / 26 then [97 + ((n - 1) / 26 - 1) % 26] else []) ++ [97 + (n - 1) % 26] := by
      unfold wlt
      rw [if_neg h]
      rfl
    rw [hw] at hl ⊢
    rw [if_pos (show nI n ≤ 702 from nI_le (b := 702) (by omega) (by omega))]
    exact s2 O τ hT hl
theorem x10_70 {g : Nat → Nat} {a1 a2 : Int32} (hg : G26 g) {τ0 : Mem} : ∀ (d i m : Nat) (O : List Nat) (τ : Mem), i + d = nl g → d < m → BOUT O τ → FR [18] [32] τ0 τ → O.length + d ≤ 100 → ∃ τ1, X10_write_70 a1 a2 m (nI (sB g)) (nI i) τ = some τ1 ∧ BOUT (O ++ ltl g d i) τ1 ∧ FR [18] [32] τ0 τ1 := by
  have h4 := nl_le g
  intro d
  induction d with
  | zero =>
    intro i m O τ hi hm hT hF hl
    obtain ⟨m, rfl⟩ : ∃ z, m = z + 1 := ⟨m - 1, by omega⟩
    refine ⟨τ, ?_, by rw [show ltl g 0 i = [] from rfl, List.append_nil]; exact hT, hF⟩
    unfold X10_write_70
    rw [x10_lof hg, bd_s, if_pos (nI_le (by omega) (by omega))]
  | succ d ih =>
    intro i m O τ hi hm hT hF hl
    obtain ⟨m, rfl⟩ : ∃ z, m = z + 1 := ⟨m - 1, by omega⟩
    have h26 := hg.at (show i < 4 by omega)
    obtain ⟨τ1, p1, p2, p5⟩ := x10_put hT (b := 64 + g i) (by omega) (by omega)
    obtain ⟨τ2, p3, p4, p6⟩ := ih (i + 1) m _ τ1 (by omega) (by omega) p2 (hF.tr p5) (by rw [app_len]; omega)
    refine ⟨τ2, ?_, ?_, p6⟩
    · unfold X10_write_70
      have e1 : (64 : Int32) + nI (g i) = nI (64 + g i) := nI_add 64 _
      rw [x10_lof hg, bd_s, if_neg (nI_ge (by omega) (by omega)), x10_let hg (by omega), bd_s, e1, p1, bd_s]
      simp only [lt]
      rw [nI_1]
      exact p3
    · rw [show ltl g (d + 1) i = (64 + g i) :: ltl g d (i + 1) from rfl, ← List.singleton_append, ← List.append_assoc]
      exact p4
theorem x10_write {n f : Nat} {g : Nat → Nat} {O : List Nat} {τ : Mem} (hL : LOK n g) (hf : f < 4) (hT : BOUT O τ) (hco : BCO τ) (hl : O.length + 17 ≤ 100) : ∃ τ1, X10_write (nI (cB n g)) (nI f) τ = some τ1 ∧ BOUT (O ++ wlab f n g) τ1 ∧ FR [18] [32] τ τ1 := by
  obtain ⟨h1, h9, hg, hc⟩ := hL
  have h4 := nl_le g
  have hwl := wnum_len (f := f) h9
  have hs0 : 0 < nl g ↔ 0 < sB g := by
    have h26 := hg
    obtain ⟨c0, c1, c2⟩ := hc
    unfold nl sB
    constructor
    · intro h
      split at h <;> omega
    · intro h
      rcases Nat.eq_zero_or_pos (g 0) with z | z
      · have z1 := c0 z
        have z2 := c1 z1
        have z3 := c2 z2
        omega
      · rw [if_neg (by omega)]
        split
        · omega
        · split
          · omega
          · split <;> omega
  have hsl : sB g < 2 ^ 31 := by
    obtain ⟨q0, q1, q2, q3⟩ := hg
    unfold sB
    omega
  have e46 : ∀ τ1 : Mem, BOUT (O ++ wnum f n) τ1 → FR [18] [32] τ τ1 → ∃ τ2, X10_write_46 (nI (cB n g)) (nI f) τ1 = some τ2 ∧ BOUT (O ++ wlab f n g) τ2 ∧ FR [18] [32] τ τ2 := fun τ1 h hF => by
    have hlen : (O ++ wnum f n).length ≤ O.length + 12 := by rw [List.length_append]; omega
    have hmod := sB_mod (n := n) (by omega) hg
    rw [show g 0 * 19683 + g 1 * 729 + g 2 * 27 + g 3 = sB g from rfl] at hmod
    unfold X10_write_46 wlab
    simp only [lt]
    rw [hmod]
    by_cases h0 : 0 < nl g
    · rw [if_neg (nI_nle (hs0.mp h0) hsl)]
      by_cases hf0 : f = 0
      · rw [if_pos (show nI f = 0 by rw [hf0]; rfl), if_neg (fun z => z.2 hf0)]
        obtain ⟨τ2, p1, p2, p3⟩ := x10_70 (a1 := nI (cB n g)) (a2 := nI f) hg (nl g) 0 FU _ τ1 (by omega) (by unfold FU; omega) h hF (by omega)
        exact ⟨τ2, p1, by rw [List.nil_append, ← List.append_assoc]; exact p2, p3⟩
      · rw [if_neg (nI_ne0 (by omega) (by omega)), if_pos (show 0 < nl g ∧ f ≠ 0 from ⟨h0, hf0⟩)]
        obtain ⟨τ2, p1, p2, p5⟩ := x10_put h (b := 45) (by omega) (by omega)
        obtain ⟨τ3, p3, p4, p6⟩ := x10_70 (a1 := nI (cB n g)) (a2 := nI f) hg (nl g) 0 FU _ τ2 (by omega) (by unfold FU; omega) p2 (hF.tr p5) (by rw [app_len]; omega)
        have p1' : X10_put 45 τ1 = some τ2 := p1
        rw [p1', bd_s]
        refine ⟨τ3, p3, ?_, p6⟩
        rw [← List.append_assoc, ← List.append_assoc]
        exact p4
    · rw [if_pos (show nI (sB g) ≤ 0 by rw [show sB g = 0 by omega]; decide), if_neg (fun z => h0 z.1)]
      obtain ⟨τ2, p1, p2, p3⟩ := x10_70 (a1 := nI (cB n g)) (a2 := nI f) hg (nl g) 0 FU _ τ1 (by omega) (by unfold FU; omega) h hF (by omega)
      exact ⟨τ2, p1, by rw [List.nil_append, ← List.append_assoc]; exact p2, p3⟩
  have e2 : nI (cB n g) / 531441 = nI n := by
    have := pk_div (a := cB n g) (d := 531441) (Nat.lt_trans (cB_lt (by omega) hg) (by omega)) (by omega) (by omega)
    rw [cB_num hg] at this
    exact this
  unfold X10_write
  simp only [lt]
  rw [e2]
  rcases (show f = 0 ∨ f = 1 ∨ f = 2 ∨ f = 3 by omega) with rfl | rfl | rfl | rfl
  · have hw : wnum 0 n = wdg n := rfl
    rw [hw] at hwl
    obtain ⟨τ1, p1, p2, p5⟩ := x10_dig h9 hT (by omega)
    obtain ⟨τ2, p3, p4, p6⟩ := e46 τ1 p2 p5
    rw [if_pos nI_0, p1, bd_s]
    exact ⟨τ2, p3, p4, p6⟩
  · have hw : wnum 1 n = rom 0 12 0 n := rfl
    rw [hw] at hwl
    obtain ⟨τ1, p1, p2, p5⟩ := x10_rom (a1 := nI n) (lift := 0) (by omega) hco 12 0 n FU O τ (by omega) (by unfold FU; omega) h9 hT FR.rf (by omega)
    obtain ⟨τ2, p3, p4, p6⟩ := e46 τ1 p2 p5
    have p1' : X10_roman (nI n) 0 τ = some τ1 := p1
    rw [if_neg (show ¬ nI 1 = 0 by decide), if_neg (show ¬ nI 1 = 2 by decide), if_neg (show ¬ nI 1 = 3 by decide)]
    unfold X10_write_43
    rw [p1', bd_s]
    exact ⟨τ2, p3, p4, p6⟩
  · have hw : wnum 2 n = wlt n := rfl
    rw [hw] at hwl
    obtain ⟨τ1, p1, p2, p5⟩ := x10_ltr h1 h9 hT (by omega)
    obtain ⟨τ2, p3, p4, p6⟩ := e46 τ1 p2 p5
    rw [if_neg (show ¬ nI 2 = 0 by decide), if_pos (show nI 2 = 2 from rfl), p1, bd_s]
    exact ⟨τ2, p3, p4, p6⟩
  · have hw : wnum 3 n = rom 32 12 0 n := rfl
    rw [hw] at hwl
    obtain ⟨τ1, p1, p2, p5⟩ := x10_rom (a1 := nI n) (lift := 32) (by omega) hco 12 0 n FU O τ (by omega) (by unfold FU; omega) h9 hT FR.rf (by omega)
    obtain ⟨τ2, p3, p4, p6⟩ := e46 τ1 p2 p5
    have p1' : X10_roman (nI n) 32 τ = some τ1 := p1
    rw [if_neg (show ¬ nI 3 = 0 by decide), if_neg (show ¬ nI 3 = 2 by decide), if_pos (show nI 3 = 3 from rfl)]
    unfold X10_write_43
    rw [p1', bd_s]
    exact ⟨τ2, p3, p4, p6⟩
