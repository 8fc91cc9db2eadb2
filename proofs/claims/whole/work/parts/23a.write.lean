/-! own words: pure part: labels written -/
def rF : Nat → Nat := fun j => ([67, 68, 67, 67, 88, 76, 88, 88, 73, 86, 73, 73] : List Nat).getD j 0
def rS : Nat → Nat := fun j => ([77, 0, 68, 0, 67, 0, 76, 0, 88, 0, 86, 0] : List Nat).getD j 0
def rg (lift i : Nat) : List Nat := if rS i = 0 then [rF i + lift] else [rF i + lift, rS i + lift]
def rpt (l : List Nat) : Nat → List Nat
  | 0 => []
  | k + 1 => l ++ rpt l k
def rom (lift : Nat) : Nat → Nat → Nat → List Nat
  | 0, _, _ => []
  | d + 1, i, left => rpt (rg lift i) (left / fW i) ++ rom lift d (i + 1) (left % fW i)
def wdg (n : Nat) : List Nat := (if 100 ≤ n then [48 + n / 100] else []) ++ ((if 10 ≤ n then [48 + n / 10 % 10] else []) ++ [48 + n % 10])
def wlt (n : Nat) : List Nat := (if 26 < (n - 1) / 26 then [96 + ((n - 1) / 26 - 1) / 26] else []) ++ ((if 0 < (n - 1) / 26 then [97 + ((n - 1) / 26 - 1) % 26] else []) ++ [97 + (n - 1) % 26])
def wnum (f n : Nat) : List Nat := if f = 0 then wdg n else if f = 2 then wlt n else if f = 3 then rom 32 12 0 n else rom 0 12 0 n
def ltl (g : Nat → Nat) : Nat → Nat → List Nat
  | 0, _ => []
  | d + 1, i => (64 + g i) :: ltl g d (i + 1)
def wlab (f n : Nat) (g : Nat → Nat) : List Nat := wnum f n ++ ((if 0 < nl g ∧ f ≠ 0 then [45] else []) ++ ltl g (nl g) 0)
theorem rom_len : ∀ n, n < 1000 → (rom 0 12 0 n).length ≤ 12 ∧ (rom 32 12 0 n).length ≤ 12 := by decide +kernel
theorem rg_len (lift i : Nat) : 1 ≤ (rg lift i).length := by
  unfold rg
  split <;> simp
theorem ltl_len (g : Nat → Nat) : ∀ d i, (ltl g d i).length = d := by
  intro d
  induction d with
  | zero => exact fun _ => rfl
  | succ d ih =>
    intro i
    show (ltl g d (i + 1)).length + 1 = d + 1
    rw [ih]
theorem wnum_len {f n : Nat} (hn : n ≤ 999) : (wnum f n).length ≤ 12 := by
  have := rom_len n (by omega)
  unfold wnum
  split
  · unfold wdg
    split <;> split <;> simp
  · split
    · unfold wlt
      split <;> split <;> simp
    · split
      · exact this.2
      · exact this.1
theorem wlab_len {f n : Nat} {g : Nat → Nat} (hn : n ≤ 999) : (wlab f n g).length ≤ 17 := by
  have h1 := wnum_len (f := f) hn
  have h2 := nl_le g
  unfold wlab
  rw [List.length_append, List.length_append, ltl_len]
  split <;> simp <;> omega
-- the class's pen
theorem x8_puts {T : List Nat} {μ : Mem} (h : TXT T μ) {b : Nat} (hl : T.length + 1 ≤ 200) (hb : b < 128) : ∃ μ1, X8_put (nI b) μ = some μ1 ∧ TXT (T ++ [b]) μ1 := x8_put h (by omega) (by omega)
theorem tab_W : ∀ i, i < 12 → fSTEPS i = nI (fW i) ∧ fFIRST i = nI (rF i) ∧ fSECOND i = nI (rS i) ∧ 1 ≤ fW i ∧ fW i ≤ 900 ∧ rF i < 96 ∧ rS i < 96 := by decide +kernel
theorem x1_r14 {a1 : Int32} {lift i : Nat} (hi : i < 12) (hlf : lift ≤ 32) {k5 : Int32 → Int32 → Mem → Option Mem} : ∀ (q left m : Nat) (T : List Nat) (μ : Mem), left / fW i = q → left < m → left ≤ 999 → TXT T μ → T.length + (rpt (rg lift i) q).length ≤ 200 → ∃ μ1, X1_writeRoman_14 a1 (nI lift) k5 m (nI left) (nI i) μ = k5 (nI (left % fW i)) (nI (i + 1)) μ1 ∧ TXT (T ++ rpt (rg lift i) q) μ1 := by
  obtain ⟨t1, t2, t3, t4, t5, t6, t7⟩ := tab_W i hi
  intro q
  induction q with
  | zero =>
    intro left m T μ hq hm h9 hT hl
    obtain ⟨m, rfl⟩ : ∃ z, m = z + 1 := ⟨m - 1, by omega⟩
    have hlt : left < fW i := by
      rcases Nat.lt_or_ge left (fW i) with z | z
      · exact z
      · have := Nat.div_pos z (by omega)
        omega
    refine ⟨μ, ?_, by rw [show rpt (rg lift i) 0 = [] from rfl, List.append_nil]; exact hT⟩
    unfold X1_writeRoman_14
    rw [gd_i (vp_in_nI hi (by omega)), nI_clamp (by omega), t1, if_pos (nI_lt hlt (by omega))]
    simp only [lt]
    rw [nI_1, Nat.mod_eq_of_lt hlt]
  | succ q ih =>
    intro left m T μ hq hm h9 hT hl
    obtain ⟨m, rfl⟩ : ∃ z, m = z + 1 := ⟨m - 1, by omega⟩
    have hge : fW i ≤ left := by
      rcases Nat.lt_or_ge left (fW i) with z | z
      · rw [Nat.div_eq_of_lt z] at hq
        omega
      · exact z
    have hq2 : (left - fW i) / fW i = q := by
      have e := Nat.add_div_right (left - fW i) (show 0 < fW i by omega)
      rw [Nat.sub_add_cancel hge] at e
      omega
    have hm2 : (left - fW i) % fW i = left % fW i := by
      have e := Nat.add_mod_right (left - fW i) (fW i)
      rw [Nat.sub_add_cancel hge] at e
      exact e.symm
    have hr : rpt (rg lift i) (q + 1) = rg lift i ++ rpt (rg lift i) q := rfl
    rw [hr, List.length_append] at hl
    have e0 : ∀ μ2 : Mem, TXT (T ++ rg lift i) μ2 → ∃ μ1, X1_writeRoman_14 a1 (nI lift) k5 m (nI (left - fW i)) (nI i) μ2 = k5 (nI (left % fW i)) (nI (i + 1)) μ1 ∧ TXT (T ++ rpt (rg lift i) (q + 1)) μ1 := fun μ2 h2 => by
      obtain ⟨μ1, g1, g2⟩ := ih (left - fW i) m (T ++ rg lift i) μ2 hq2 (by omega) (by omega) h2 (by rw [List.length_append]; omega)
      rw [hm2] at g1
      exact ⟨μ1, g1, by rw [hr, ← List.append_assoc]; exact g2⟩
    have hgl := rg_len lift i
    obtain ⟨μ2, p1, p2⟩ := x8_puts hT (b := rF i + lift) (by omega) (by omega)
    have hg12 : ∀ (x : Option Mem), gd (nI i) 12 x = x := fun x => gd_i (vp_in_nI hi (by omega))
    unfold X1_writeRoman_14
    simp only [hg12, lt]
    rw [nI_clamp (by omega), t1, t2, t3, if_neg (nI_nlt hge (by omega)), pk_sub hge, nI_add, nI_add, p1, bd_s]
    by_cases hS : rS i = 0
    · rw [if_pos (show nI (rS i) = 0 by rw [hS]; rfl)]
      exact e0 μ2 (by rw [show rg lift i = [rF i + lift] from if_pos hS]; exact p2)
    · have hg2 : rg lift i = [rF i + lift, rS i + lift] := if_neg hS
      rw [hg2] at hl
      obtain ⟨μ3, p3, p4⟩ := x8_puts p2 (b := rS i + lift) (by rw [app_len]; simp at hl; omega) (by omega)
      rw [if_neg (nI_ne0 (by omega) (by omega)), p3, bd_s]
      refine e0 μ3 ?_
      rw [hg2, show [rF i + lift, rS i + lift] = [rF i + lift] ++ [rS i + lift] from rfl, ← List.append_assoc]
      exact p4
theorem x1_rom {a1 : Int32} {lift : Nat} (hlf : lift ≤ 32) : ∀ (d i left m : Nat) (T : List Nat) (μ : Mem), i + d = 12 → d < m → left ≤ 999 → TXT T μ → T.length + (rom lift d i left).length ≤ 200 → ∃ μ1, X1_writeRoman_5 a1 (nI lift) m (nI left) (nI i) μ = some μ1 ∧ TXT (T ++ rom lift d i left) μ1 := by
  intro d
  induction d with
  | zero =>
    intro i left m T μ hi hm h9 hT hl
    obtain ⟨m, rfl⟩ : ∃ z, m = z + 1 := ⟨m - 1, by omega⟩
    obtain rfl : i = 12 := by omega
    refine ⟨μ, ?_, by rw [show rom lift 0 12 left = [] from rfl, List.append_nil]; exact hT⟩
    unfold X1_writeRoman_5
    rw [if_pos (by decide)]
  | succ d ih =>
    intro i left m T μ hi hm h9 hT hl
    obtain ⟨m, rfl⟩ : ∃ z, m = z + 1 := ⟨m - 1, by omega⟩
    have hr : rom lift (d + 1) i left = rpt (rg lift i) (left / fW i) ++ rom lift d (i + 1) (left % fW i) := rfl
    rw [hr, List.length_append] at hl
    obtain ⟨μ1, e1, e2⟩ := x1_r14 (a1 := a1) (k5 := X1_writeRoman_5 a1 (nI lift) m) (show i < 12 by omega) hlf (left / fW i) left FU T μ rfl (by unfold FU; omega) h9 hT (by omega)
    obtain ⟨μ2, e3, e4⟩ := ih (i + 1) (left % fW i) m _ μ1 (by omega) (by omega) (Nat.le_trans (Nat.mod_le _ _) h9) e2 (by rw [List.length_append]; omega)
    refine ⟨μ2, ?_, by rw [hr, ← List.append_assoc]; exact e4⟩
    unfold X1_writeRoman_5
    rw [if_neg (show ¬ (12 : Int32) ≤ nI i from nI_ge (b := 12) (by omega) (by omega)), e1]
    exact e3
theorem x1_dig {n : Nat} {T : List Nat} {μ : Mem} (hn : n ≤ 999) (hT : TXT T μ) (hl : T.length + (wdg n).length ≤ 200) : ∃ μ1, X1_writeDigits (nI n) μ = some μ1 ∧ TXT (T ++ wdg n) μ1 := by
  have e10 : nI n / 10 = nI (n / 10) := pk_div (d := 10) (by omega) (by omega) (by omega)
  have e100 : nI n / 100 = nI (n / 100) := pk_div (d := 100) (by omega) (by omega) (by omega)
  have r10 : nI n - nI (n / 10) * 10 = nI (n % 10) := by
    rw [← e10]
    exact pk_rem (d := 10) (by omega) (by omega) (by omega)
  have r100 : nI (n / 10) - nI (n / 10) / 10 * 10 = nI (n / 10 % 10) := pk_rem (a := n / 10) (d := 10) (by omega) (by omega) (by omega)
  have s3 : ∀ (T : List Nat) (μ : Mem), TXT T μ → T.length + 1 ≤ 200 → ∃ μ1, X1_writeDigits_37 (nI n) μ = some μ1 ∧ TXT (T ++ [48 + n % 10]) μ1 := fun T μ hT hl => by
    obtain ⟨μ1, p1, p2⟩ := x8_puts hT (b := 48 + n % 10) hl (by omega)
    refine ⟨μ1, ?_, p2⟩
    unfold X1_writeDigits_37
    have e : (48 : Int32) + nI (n % 10) = nI (48 + n % 10) := nI_add 48 _
    rw [e10, r10, e, p1]
    rfl
  have s2 : ∀ (T : List Nat) (μ : Mem), TXT T μ → T.length + ((if 10 ≤ n then [48 + n / 10 % 10] else []) ++ [48 + n % 10]).length ≤ 200 → ∃ μ1, X1_writeDigits_17 (nI n) μ = some μ1 ∧ TXT (T ++ ((if 10 ≤ n then [48 + n / 10 % 10] else []) ++ [48 + n % 10])) μ1 := fun T μ hT hl => by
    unfold X1_writeDigits_17
    by_cases h : 10 ≤ n
    · rw [if_pos h] at hl ⊢
      simp at hl
      obtain ⟨μ1, p1, p2⟩ := x8_puts hT (b := 48 + n / 10 % 10) (by omega) (by omega)
      obtain ⟨μ2, p3, p4⟩ := s3 _ μ1 p2 (by rw [app_len]; omega)
      have e : (48 : Int32) + nI (n / 10 % 10) = nI (48 + n / 10 % 10) := nI_add 48 _
      rw [if_neg (show ¬ nI n < 10 from nI_nlt (b := 10) h (by omega)), e10, r100, e, p1, bd_s]
      exact ⟨μ2, p3, by rw [← List.append_assoc]; exact p4⟩
    · rw [if_neg h] at hl ⊢
      rw [if_pos (show nI n < 10 from nI_lt (b := 10) (by omega) (by omega))]
      exact s3 T μ hT (by simpa using hl)
  unfold X1_writeDigits
  by_cases h : 100 ≤ n
  · have hw : wdg n = [48 + n / 100] ++ ((if 10 ≤ n then [48 + n / 10 % 10] else []) ++ [48 + n % 10]) := by
      unfold wdg
      rw [if_pos h]
    rw [hw, List.length_append] at hl
    obtain ⟨μ1, p1, p2⟩ := x8_puts hT (b := 48 + n / 100) (by simp at hl; omega) (by omega)
    obtain ⟨μ2, p3, p4⟩ := s2 _ μ1 p2 (by rw [app_len]; simp only [List.length_singleton] at hl; omega)
    have e : (48 : Int32) + nI (n / 100) = nI (48 + n / 100) := nI_add 48 _
    rw [if_neg (show ¬ nI n < 100 from nI_nlt (b := 100) h (by omega)), e100, e, p1, bd_s]
    exact ⟨μ2, p3, by rw [hw, ← List.append_assoc]; exact p4⟩
  · have hw : wdg n = (if 10 ≤ n then [48 + n / 10 % 10] else []) ++ [48 + n % 10] := by
      unfold wdg
      rw [if_neg h]
      rfl
    rw [hw] at hl ⊢
    rw [if_pos (show nI n < 100 from nI_lt (b := 100) (by omega) (by omega))]
    exact s2 T μ hT hl
theorem x1_ltr {n : Nat} {T : List Nat} {μ : Mem} (h1 : 1 ≤ n) (hn : n ≤ 999) (hT : TXT T μ) (hl : T.length + (wlt n).length ≤ 200) : ∃ μ1, X1_writeLetters (nI n) μ = some μ1 ∧ TXT (T ++ wlt n) μ1 := by
  have em : nI n - 1 = nI (n - 1) := pk_sub (b := 1) h1
  have e26 : nI (n - 1) / 26 = nI ((n - 1) / 26) := pk_div (d := 26) (by omega) (by omega) (by omega)
  have r26 : nI (n - 1) - nI ((n - 1) / 26) * 26 = nI ((n - 1) % 26) := by
    rw [← e26]
    exact pk_rem (d := 26) (by omega) (by omega) (by omega)
  have s3 : ∀ (T : List Nat) (μ : Mem), TXT T μ → T.length + 1 ≤ 200 → ∃ μ1, X1_writeLetters_43 (nI n) μ = some μ1 ∧ TXT (T ++ [97 + (n - 1) % 26]) μ1 := fun T μ hT hl => by
    obtain ⟨μ1, p1, p2⟩ := x8_puts hT (b := 97 + (n - 1) % 26) hl (by omega)
    refine ⟨μ1, ?_, p2⟩
    unfold X1_writeLetters_43
    have e : (97 : Int32) + nI ((n - 1) % 26) = nI (97 + (n - 1) % 26) := nI_add 97 _
    rw [em, e26, r26, e, p1]
    rfl
  have s2 : ∀ (T : List Nat) (μ : Mem), TXT T μ → T.length + ((if 0 < (n - 1) / 26 then [97 + ((n - 1) / 26 - 1) % 26] else []) ++ [97 + (n - 1) % 26]).length ≤ 200 → ∃ μ1, X1_writeLetters_26 (nI n) (nI ((n - 1) / 26)) μ = some μ1 ∧ TXT (T ++ ((if 0 < (n - 1) / 26 then [97 + ((n - 1) / 26 - 1) % 26] else []) ++ [97 + (n - 1) % 26])) μ1 := fun T μ hT hl => by
    unfold X1_writeLetters_26
    by_cases h : 0 < (n - 1) / 26
    · rw [if_pos h] at hl ⊢
      simp at hl
      obtain ⟨μ1, p1, p2⟩ := x8_puts hT (b := 97 + ((n - 1) / 26 - 1) % 26) (by omega) (by omega)
      obtain ⟨μ2, p3, p4⟩ := s3 _ μ1 p2 (by rw [app_len]; omega)
      have e1 : nI ((n - 1) / 26) - 1 = nI ((n - 1) / 26 - 1) := pk_sub (b := 1) h
      have e2 : nI ((n - 1) / 26 - 1) - nI ((n - 1) / 26 - 1) / 26 * 26 = nI (((n - 1) / 26 - 1) % 26) := pk_rem (d := 26) (by omega) (by omega) (by omega)
      have e : (97 : Int32) + nI (((n - 1) / 26 - 1) % 26) = nI (97 + ((n - 1) / 26 - 1) % 26) := nI_add 97 _
      rw [if_neg (nI_nle h (by omega)), e1, e2, e, p1, bd_s]
      exact ⟨μ2, p3, by rw [← List.append_assoc]; exact p4⟩
    · rw [if_neg h] at hl ⊢
      rw [if_pos (show nI ((n - 1) / 26) ≤ 0 by rw [show (n - 1) / 26 = 0 by omega]; decide)]
      exact s3 T μ hT (by simpa using hl)
  unfold X1_writeLetters
  simp only [lt]
  rw [em, e26]
  by_cases h : 26 < (n - 1) / 26
  · have hw : wlt n = [96 + ((n - 1) / 26 - 1) / 26] ++ ((if 0 < (n - 1) / 26 then [97 + ((n - 1) / 26 - 1) % 26] else []) ++ [97 + (n - 1) % 26]) := by
      unfold wlt
      rw [if_pos h]
    rw [hw, List.length_append] at hl
    obtain ⟨μ1, p1, p2⟩ := x8_puts hT (b := 96 + ((n - 1) / 26 - 1) / 26) (by simp at hl; omega) (by omega)
    obtain ⟨μ2, p3, p4⟩ := s2 _ μ1 p2 (by rw [app_len]; simp only [List.length_singleton] at hl; omega)
    have e1 : nI ((n - 1) / 26) - 1 = nI ((n - 1) / 26 - 1) := pk_sub (b := 1) (by omega)
    have e2 : nI ((n - 1) / 26 - 1) / 26 = nI (((n - 1) / 26 - 1) / 26) := pk_div (d := 26) (by omega) (by omega) (by omega)
    have e : (96 : Int32) + nI (((n - 1) / 26 - 1) / 26) = nI (96 + ((n - 1) / 26 - 1) / 26) := nI_add 96 _
    rw [if_neg (show ¬ nI ((n - 1) / 26) ≤ 26 from nI_ge (a := 26) h (by omega)), e1, e2, e, p1, bd_s]
    exact ⟨μ2, p3, by rw [hw, ← List.append_assoc]; exact p4⟩
  · have hw : wlt n = (if 0 < (n - 1) / 26 then [97 + ((n - 1) / 26 - 1) % 26] else []) ++ [97 + (n - 1) % 26] := by
      unfold wlt
      rw [if_neg h]
      rfl
    rw [hw] at hl ⊢
    rw [if_pos (show nI ((n - 1) / 26) ≤ 26 from nI_le (b := 26) (by omega) (by omega))]
    exact s2 T μ hT hl
theorem x1_88 {n : Nat} {g : Nat → Nat} {a1 : Int32} (hn : n ≤ 999) (hg : G26 g) {e : Nat} (he : e ≤ 4) : ∀ (d i m : Nat) (T : List Nat) (μ : Mem), i + d = e → d < m → TXT T μ → T.length + d ≤ 200 → ∃ μ1, X1_writeLabel_88 a1 (nI (cA n g)) m (nI e) (nI i) μ = some μ1 ∧ TXT (T ++ ltl g d i) μ1 := by
  intro d
  induction d with
  | zero =>
    intro i m T μ hi hm hT hl
    obtain ⟨m, rfl⟩ : ∃ z, m = z + 1 := ⟨m - 1, by omega⟩
    refine ⟨μ, ?_, by rw [show ltl g 0 i = [] from rfl, List.append_nil]; exact hT⟩
    unfold X1_writeLabel_88
    rw [if_pos (nI_le (by omega) (by omega))]
  | succ d ih =>
    intro i m T μ hi hm hT hl
    obtain ⟨m, rfl⟩ : ∃ z, m = z + 1 := ⟨m - 1, by omega⟩
    have h26 := hg.at (show i < 4 by omega)
    obtain ⟨μ1, p1, p2⟩ := x8_puts hT (b := 64 + g i) (by omega) (by omega)
    obtain ⟨μ2, p3, p4⟩ := ih (i + 1) m _ μ1 (by omega) (by omega) p2 (by rw [app_len]; omega)
    refine ⟨μ2, ?_, ?_⟩
    · unfold X1_writeLabel_88
      have e1 : (64 : Int32) + nI (g i) = nI (64 + g i) := nI_add 64 _
      rw [if_neg (nI_ge (by omega) (by omega)), x5_let (by omega) hg (by omega), bd_s, e1, p1, bd_s]
      simp only [lt]
      rw [nI_1]
      exact p3
    · rw [show ltl g (d + 1) i = (64 + g i) :: ltl g d (i + 1) from rfl, ← List.singleton_append, ← List.append_assoc]
      exact p4
theorem x1_write {n f : Nat} {g : Nat → Nat} {T : List Nat} {μ : Mem} (hL : LOK n g) (hf : f < 4) (hT : TXT T μ) (hl : T.length + 17 ≤ 200) : ∃ μ1, X1_writeLabel (nI f) (nI (cA n g)) μ = some μ1 ∧ TXT (T ++ wlab f n g) μ1 := by
  obtain ⟨h1, h9, hg, hc⟩ := hL
  have h4 := nl_le g
  have hwl := wnum_len (f := f) h9
  have e64 : ∀ μ1 : Mem, TXT (T ++ wnum f n) μ1 → ∃ μ2, X1_writeLabel_64 (nI f) (nI (cA n g)) μ1 = some μ2 ∧ TXT (T ++ wlab f n g) μ2 := fun μ1 h => by
    have hlen : (T ++ wnum f n).length ≤ T.length + 12 := by rw [List.length_append]; omega
    unfold X1_writeLabel_64 wlab
    rw [x5_lin (by omega) hg, bd_s]
    by_cases h0 : 0 < nl g
    · rw [if_neg (nI_nle h0 (by omega))]
      by_cases hf0 : f = 0
      · rw [if_pos (show nI f = 0 by rw [hf0]; rfl), if_neg (fun z => z.2 hf0)]
        obtain ⟨μ2, p1, p2⟩ := x1_88 (a1 := nI f) h9 hg h4 (nl g) 0 FU _ μ1 (by omega) (by unfold FU; omega) h (by omega)
        exact ⟨μ2, p1, by rw [List.nil_append, ← List.append_assoc]; exact p2⟩
      · rw [if_neg (nI_ne0 (by omega) (by omega)), if_pos (show 0 < nl g ∧ f ≠ 0 from ⟨h0, hf0⟩)]
        obtain ⟨μ2, p1, p2⟩ := x8_puts h (b := 45) (by omega) (by omega)
        obtain ⟨μ3, p3, p4⟩ := x1_88 (a1 := nI f) h9 hg h4 (nl g) 0 FU _ μ2 (by omega) (by unfold FU; omega) p2 (by rw [app_len]; omega)
        have p1' : X8_put 45 μ1 = some μ2 := p1
        rw [p1', bd_s]
        refine ⟨μ3, p3, ?_⟩
        rw [← List.append_assoc, ← List.append_assoc]
        exact p4
    · rw [if_pos (show nI (nl g) ≤ 0 by rw [show nl g = 0 by omega]; decide), if_neg (fun z => h0 z.1)]
      obtain ⟨μ2, p1, p2⟩ := x1_88 (a1 := nI f) h9 hg h4 (nl g) 0 FU _ μ1 (by omega) (by unfold FU; omega) h (by omega)
      exact ⟨μ2, p1, by rw [List.nil_append, ← List.append_assoc]; exact p2⟩
  unfold X1_writeLabel
  rw [x5_num (by omega) hg, bd_s]
  rcases (show f = 0 ∨ f = 1 ∨ f = 2 ∨ f = 3 by omega) with rfl | rfl | rfl | rfl
  · have hw : wnum 0 n = wdg n := rfl
    rw [hw] at hwl
    obtain ⟨μ1, p1, p2⟩ := x1_dig h9 hT (by omega)
    obtain ⟨μ2, p3, p4⟩ := e64 μ1 p2
    rw [if_neg (show ¬ nI 0 = 1 by decide), if_neg (show ¬ nI 0 = 2 by decide), if_neg (show ¬ nI 0 = 3 by decide), p1, bd_s]
    exact ⟨μ2, p3, p4⟩
  · have hw : wnum 1 n = rom 0 12 0 n := rfl
    rw [hw] at hwl
    obtain ⟨μ1, p1, p2⟩ := x1_rom (a1 := nI n) (lift := 0) (by omega) 12 0 n FU T μ (by omega) (by unfold FU; omega) h9 hT (by omega)
    obtain ⟨μ2, p3, p4⟩ := e64 μ1 p2
    have p1' : X1_writeRoman (nI n) 0 μ = some μ1 := p1
    rw [if_pos (show nI 1 = 1 from rfl), p1', bd_s]
    exact ⟨μ2, p3, p4⟩
  · have hw : wnum 2 n = wlt n := rfl
    rw [hw] at hwl
    obtain ⟨μ1, p1, p2⟩ := x1_ltr h1 h9 hT (by omega)
    obtain ⟨μ2, p3, p4⟩ := e64 μ1 p2
    rw [if_neg (show ¬ nI 2 = 1 by decide), if_pos (show nI 2 = 2 from rfl), p1, bd_s]
    exact ⟨μ2, p3, p4⟩
  · have hw : wnum 3 n = rom 32 12 0 n := rfl
    rw [hw] at hwl
    obtain ⟨μ1, p1, p2⟩ := x1_rom (a1 := nI n) (lift := 32) (by omega) 12 0 n FU T μ (by omega) (by unfold FU; omega) h9 hT (by omega)
    obtain ⟨μ2, p3, p4⟩ := e64 μ1 p2
    have p1' : X1_writeRoman (nI n) 32 μ = some μ1 := p1
    rw [if_neg (show ¬ nI 3 = 1 by decide), if_neg (show ¬ nI 3 = 2 by decide), if_pos (show nI 3 = 3 from rfl), p1', bd_s]
    exact ⟨μ2, p3, p4⟩
