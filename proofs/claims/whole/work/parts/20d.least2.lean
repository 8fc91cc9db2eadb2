/-! own words: pure part: the reference's least label; between -/
theorem up_0 (τ : Mem) (i : Nat) (v : Int32) (c : Nat) (h : c ≠ 17) : up τ 17 i v c = τ c := upc_n _ _ h
/-- all cells but the hand's are the same -/
def S17 (τ τ1 : Mem) : Prop := ∀ c, c ≠ 17 → τ1 c = τ c
theorem S17.rf {τ : Mem} : S17 τ τ := fun _ _ => rfl
theorem S17.up {τ τ1 : Mem} (h : S17 τ τ1) {i : Nat} {v : Int32} : S17 τ (up τ1 17 i v) := fun c hc => (upc_n _ _ hc).trans (h c hc)
theorem cB_sB (n : Nat) (g : Nat → Nat) : cB n g = n * 531441 + sB g := by
  unfold cB sB
  omega
theorem sB_cong {g h : Nat → Nat} (e : ∀ i, i < 4 → g i = h i) : sB g = sB h := by
  unfold sB
  rw [e 0 (by omega), e 1 (by omega), e 2 (by omega), e 3 (by omega)]
theorem HD.cong {τ : Mem} {h h' : Nat → Nat} (H : HD τ h) (e : ∀ i, i < 4 → h i = h' i) : HD τ h' := by
  obtain ⟨h0, h1, h2, h3⟩ := H
  exact ⟨by rw [← e 0 (by omega)]; exact h0, by rw [← e 1 (by omega)]; exact h1, by rw [← e 2 (by omega)]; exact h2, by rw [← e 3 (by omega)]; exact h3⟩
theorem someP {a b : Nat} {m : Mem} (h : a = b) : some (nI a, m) = some (nI b, m) := by rw [h]
theorem labB_hi {n k : Nat} {g : Nat → Nat} (h : nl g < k) (hn : n ≤ 999) : labB (SL n g k) = cB n (f1 g (nl g) k) := by
  have e : SL n g k = (n, f1 g (nl g) k) := if_pos h
  rw [e]
  exact if_pos hn
theorem labB_some {n k t : Nat} {g : Nat → Nat} (h : ¬ nl g < k) (ht : tn g k = some t) (hn : n ≤ 999) : labB (SL n g k) = cB n (dT g t k) := by
  have e : SL n g k = (n, dT g t k) := by
    unfold SL
    rw [if_neg h, ht]
  rw [e]
  exact if_pos hn
theorem labB_none {n k : Nat} {g : Nat → Nat} (h : ¬ nl g < k) (ht : tn g k = none) : labB (SL n g k) = if n + 1 ≤ 999 then cB (n + 1) (f1 (fun _ => 0) 0 k) else 0 := by
  have e : SL n g k = (n + 1, f1 (fun _ => 0) 0 k) := by
    unfold SL
    rw [if_neg h, ht]
  rw [e]
  rfl
theorem x10_180 {a1 a2 : Int32} {n i l : Nat} {h : Nat → Nat} {τ0 τ : Mem} (hi : i < 4) (H : HD τ h) (hS : S17 τ0 τ) : ∃ τ1, X10_least_180 a1 a2 (nI n) (nI i) (nI l) τ = some (nI (cB n (ud h i l)), τ1) ∧ S17 τ0 τ1 := by
  unfold X10_least_180
  rw [gd_i (vp_in_nI hi (by omega))]
  simp only [lt]
  rw [nI_clamp (by omega), x10_hand (HD_ud H hi), bd_s]
  refine ⟨up τ 17 i (nI l), ?_, hS.up⟩
  show some (nI n * nI 531441 + nI (sB (ud h i l)), _) = _
  rw [pk_mul, nI_add, cB_sB]
theorem x10_124 {n k t : Nat} {g : Nat → Nat} {τ0 : Mem} (hn : n ≤ 1000) (hg : G26 g) (hk : k ≤ 4) (ht : t < 4) : ∀ (d j m : Nat) (h : Nat → Nat) (τ : Mem), j + d = t → d < m → HD τ h → S17 τ0 τ → (∀ i, i < j → h i = g i) → ∃ τ1, X10_least_124 (nI (cB n g)) (nI k) m (nI n) (nI (nl g)) (nI t) (nI j) τ = some (nI (cB n (fun i => if i < t then g i else if i = t then (if k ≤ nl g then g t + 1 else 1) else h i)), τ1) ∧ S17 τ0 τ1 := by
  have h4 := nl_le g
  intro d
  induction d with
  | zero =>
    intro j m h τ hj hm H hS e
    obtain ⟨m, rfl⟩ : ∃ m', m = m' + 1 := ⟨m - 1, by omega⟩
    obtain rfl : j = t := by omega
    unfold X10_least_124
    rw [if_pos (nI_le (by omega) (by omega))]
    have fin : ∀ l, l = (if k ≤ nl g then g j + 1 else 1) → cB n (ud h j l) = cB n (fun i => if i < j then g i else if i = j then (if k ≤ nl g then g j + 1 else 1) else h i) := fun l hl => by
      refine cB_cong (fun i hi => ?_)
      unfold ud
      by_cases h1 : i = j
      · rw [if_pos h1, if_neg (by omega), if_pos h1, hl]
      · rw [if_neg h1, if_neg h1]
        by_cases h2 : i < j
        · rw [if_pos h2, e i h2]
        · rw [if_neg h2]
    by_cases hkn : k ≤ nl g
    · rw [if_pos (nI_le hkn (by omega)), sB_mod hn hg]
      have e1 := x10_let hg ht
      unfold sB at e1
      rw [e1, bd_s, nI_1]
      obtain ⟨τ1, e2, e3⟩ := x10_180 (a1 := nI (cB n g)) (a2 := nI k) (n := n) (l := g j + 1) ht H hS
      exact ⟨τ1, by rw [e2, fin _ (if_pos hkn).symm], e3⟩
    · rw [if_neg (nI_ge (by omega) (by omega))]
      obtain ⟨τ1, e2, e3⟩ := x10_180 (a1 := nI (cB n g)) (a2 := nI k) (n := n) (l := 1) ht H hS
      exact ⟨τ1, by rw [← fin _ (if_neg hkn).symm]; exact e2, e3⟩
  | succ d ih =>
    intro j m h τ hj hm H hS e
    obtain ⟨m, rfl⟩ : ∃ m', m = m' + 1 := ⟨m - 1, by omega⟩
    unfold X10_least_124
    rw [if_neg (nI_ge (by omega) (by omega)), sB_mod hn hg]
    have e1 := x10_let hg (show j < 4 by omega)
    unfold sB at e1
    rw [e1, bd_s, gd_i (vp_in_nI (by omega) (by omega))]
    simp only [lt]
    rw [nI_clamp (by omega), nI_1]
    obtain ⟨τ1, e2, e3⟩ := ih (j + 1) m (ud h j (g j)) (up τ 17 j (nI (g j))) (by omega) (by omega) (HD_ud H (by omega)) hS.up (fun i hi => by
      by_cases hij : i = j
      · subst hij
        exact ud_s
      · rw [ud_n hij]
        exact e i (by omega))
    refine ⟨τ1, ?_, e3⟩
    rw [e2]
    refine someP (cB_cong (fun i hi => ?_))
    by_cases h1 : i < t
    · rw [if_pos h1, if_pos h1]
    · rw [if_neg h1, if_neg h1]
      by_cases h2 : i = t
      · rw [if_pos h2, if_pos h2]
      · rw [if_neg h2, if_neg h2, ud_n (by omega)]
/-- the hand at first: k letters A -/
def hk0 (k : Nat) : Nat → Nat := fun j => if j < k then 1 else 0
theorem x10_71 {n k : Nat} {g : Nat → Nat} {τ0 : Mem} (hn1 : 1 ≤ n) (hn : n ≤ 999) (hg : G26 g) (hk : k ≤ nl g) : ∀ (d i m : Nat) (τ : Mem), i + d = k → d < m → HD τ (hk0 k) → S17 τ0 τ → ∀ x5 : Int32, x5 = (match tn g i with
    | some t => nI t
    | none => -1) → ∃ τ1, X10_least_71 (nI (cB n g)) (nI k) m (nI n) (nI (nl g)) x5 (nI i) τ = some (nI (labB (SL n g k)), τ1) ∧ S17 τ0 τ1 := by
  have h4 := nl_le g
  intro d
  induction d with
  | zero =>
    intro i m τ hi hm H hS x5 hx
    obtain ⟨m, rfl⟩ : ∃ m', m = m' + 1 := ⟨m - 1, by omega⟩
    obtain rfl : i = k := by omega
    unfold X10_least_71
    rw [if_pos (nI_le (by omega) (by omega))]
    unfold X10_least_106
    rw [if_pos (nI_le hk (by omega))]
    unfold X10_least_116
    cases ht : tn g i with
    | none =>
      rw [ht] at hx
      subst hx
      rw [labB_none (by omega) ht, if_pos (show (-1 : Int32) < 0 by decide)]
      by_cases h9 : n = 999
      · rw [if_pos (show nI n = 999 by rw [h9]; rfl), if_neg (show ¬ n + 1 ≤ 999 by omega)]
        exact ⟨τ, rfl, hS⟩
      · rw [if_neg (show ¬ nI n = 999 from fun z => h9 ((nI_eq (b := 999) (by omega) (by omega)).mp z)), if_pos (show n + 1 ≤ 999 by omega), x10_hand H, bd_s]
        refine ⟨τ, ?_, hS⟩
        show some ((nI n + 1) * nI 531441 + nI (sB (hk0 i)), τ) = _
        rw [nI_1, pk_mul, nI_add, cB_sB]
        refine someP (congrArg (_ + ·) (sB_cong (fun j hj => ?_)))
        unfold hk0 f1
        by_cases h : j < i
        · rw [if_pos h, if_pos ⟨by omega, h⟩]
        · rw [if_neg h, if_neg (by omega)]
    | some t =>
      rw [ht] at hx
      have hx : x5 = nI t := hx
      subst hx
      have htk := tn_lt ht
      rw [labB_some (by omega) ht hn, if_neg (show ¬ nI t < 0 from nI_pos (by omega))]
      obtain ⟨τ1, e1, e2⟩ := x10_124 (k := i) (show n ≤ 1000 by omega) hg (by omega) (show t < 4 by omega) t 0 FU (hk0 i) τ (by omega) (by unfold FU; omega) H hS (fun j hj => absurd hj (by omega))
      rw [nI_0] at e1
      refine ⟨τ1, ?_, e2⟩
      rw [e1]
      refine someP (cB_cong (fun j hj => ?_))
      unfold dT hk0
      rw [if_pos hk]
  | succ d ih =>
    intro i m τ hi hm H hS x5 hx
    obtain ⟨m, rfl⟩ : ∃ m', m = m' + 1 := ⟨m - 1, by omega⟩
    unfold X10_least_71
    rw [if_neg (nI_ge (by omega) (by omega)), sB_mod (by omega) hg]
    have e1 := x10_let hg (show i < 4 by omega)
    have h26 := hg.at (show i < 4 by omega)
    unfold sB at e1
    rw [e1, bd_s]
    by_cases h : g i < 26
    · rw [if_neg (show ¬ (26 : Int32) ≤ nI (g i) from nI_ge (b := 26) (by omega) (by omega))]
      simp only [lt]
      rw [nI_1]
      exact ih (i + 1) m τ (by omega) (by omega) H hS _ (by unfold tn; rw [if_pos h])
    · rw [if_pos (show (26 : Int32) ≤ nI (g i) from nI_le (a := 26) (by omega) (by omega))]
      simp only [lt]
      rw [nI_1]
      exact ih (i + 1) m τ (by omega) (by omega) H hS _ (by rw [hx]; unfold tn; rw [if_neg h]; cases i <;> rfl)
theorem x10_17 {k : Nat} (hk : k ≤ 4) {a1 : Int32} {x3 x4 : Int32} {τ0 : Mem} {R : Mem → Option (Int32 × Mem)} (hR : ∀ τ, (if a1 = 0 then bd (X10_suffixInHand τ) fun r26 => some (531441 + r26, τ) else if x4 < nI k then X10_least_106 a1 (nI k) x3 x4 (-1) τ else X10_least_71 a1 (nI k) FU x3 x4 (-1) 0 τ) = R τ) : ∀ (d i m : Nat) (τ : Mem), i + d = 4 → d < m → S17 τ0 τ → (∀ j, j < i → τ 17 j = nI (hk0 k j)) → ∃ τ1, X10_least_17 a1 (nI k) m x3 x4 (nI i) τ = R τ1 ∧ S17 τ0 τ1 ∧ HD τ1 (hk0 k) := by
  intro d
  induction d with
  | zero =>
    intro i m τ hi hm hS e
    obtain ⟨m, rfl⟩ : ∃ m', m = m' + 1 := ⟨m - 1, by omega⟩
    obtain rfl : i = 4 := by omega
    unfold X10_least_17
    rw [if_pos (by decide), hR]
    exact ⟨τ, rfl, hS, e 0 (by omega), e 1 (by omega), e 2 (by omega), e 3 (by omega)⟩
  | succ d ih =>
    intro i m τ hi hm hS e
    obtain ⟨m, rfl⟩ : ∃ m', m = m' + 1 := ⟨m - 1, by omega⟩
    unfold X10_least_17
    rw [if_neg (show ¬ (4 : Int32) ≤ nI i from nI_ge (b := 4) (by omega) (by omega))]
    have key : ∀ v : Int32, v = nI (hk0 k i) → ∃ τ1, X10_least_40 a1 (nI k) (X10_least_17 a1 (nI k) m) x3 x4 (nI i) (nI i) v τ = R τ1 ∧ S17 τ0 τ1 ∧ HD τ1 (hk0 k) := fun v hv => by
      unfold X10_least_40
      rw [gd_i (vp_in_nI (by omega) (by omega))]
      simp only [lt]
      rw [nI_1, nI_clamp (by omega)]
      refine ih (i + 1) m _ (by omega) (by omega) hS.up (fun j hj => ?_)
      unfold up
      rw [upc_s]
      unfold upd
      by_cases hji : j = i
      · rw [if_pos hji, hv, hji]
      · rw [if_neg hji]
        exact e j (by omega)
    by_cases h : k ≤ i
    · rw [if_pos (nI_le h (by omega))]
      exact key 0 (by unfold hk0; rw [if_neg (by omega)]; rfl)
    · rw [if_neg (nI_ge (by omega) (by omega))]
      exact key 1 (by unfold hk0; rw [if_pos (by omega)]; rfl)
theorem x10_least {n k : Nat} {g : Nat → Nat} (hL : LOK n g) (hk : k ≤ 4) (τ : Mem) : ∃ τ1, X10_least (nI (cB n g)) (nI k) τ = some (nI (labB (SL n g k)), τ1) ∧ S17 τ τ1 := by
  obtain ⟨hn1, hn, hg, hc⟩ := hL
  have h4 := nl_le g
  have hpos : 0 < cB n g := by unfold cB; omega
  have hlt : cB n g < 2 ^ 31 := Nat.lt_trans (cB_lt (by omega) hg) (by omega)
  unfold X10_least
  simp only [lt]
  have e1 : nI (cB n g) / 531441 = nI n := by
    have := pk_div (a := cB n g) (d := 531441) hlt (by omega) (by omega)
    rw [cB_num hg] at this
    exact this
  have e2 := x10_lof hg
  unfold sB at e2
  rw [sB_mod (n := n) (by omega) hg, e1, e2, bd_s]
  obtain ⟨τ1, e3, hS, hH⟩ := x10_17 (x3 := nI n) (x4 := nI (nl g)) (τ0 := τ) hk (R := fun τ => if nI (nl g) < nI k then X10_least_106 (nI (cB n g)) (nI k) (nI n) (nI (nl g)) (-1) τ else X10_least_71 (nI (cB n g)) (nI k) FU (nI n) (nI (nl g)) (-1) 0 τ) (fun τ => if_neg (nI_ne0 hpos hlt)) 4 0 FU τ (by omega) (by unfold FU; omega) S17.rf (fun j hj => absurd hj (by omega))
  rw [nI_0] at e3
  rw [e3]
  by_cases h : nl g < k
  · show ∃ τ2, (if nI (nl g) < nI k then _ else _) = _ ∧ _
    rw [if_pos (nI_lt h (by omega))]
    unfold X10_least_106
    rw [if_neg (nI_ge h (by omega))]
    unfold X10_least_116
    rw [if_neg (show ¬ nI (nl g) < 0 from nI_pos (by omega))]
    obtain ⟨τ2, e4, e5⟩ := x10_124 (k := k) (show n ≤ 1000 by omega) hg hk (show nl g < 4 by omega) (nl g) 0 FU (hk0 k) τ1 (by omega) (by unfold FU; omega) hH hS (fun j hj => absurd hj (by omega))
    rw [nI_0] at e4
    refine ⟨τ2, ?_, e5⟩
    rw [e4, labB_hi h hn]
    refine someP (cB_cong (fun j hj => ?_))
    unfold f1 hk0
    by_cases h1 : j < nl g
    · rw [if_pos h1, if_neg (by omega)]
    · rw [if_neg h1]
      by_cases h2 : j = nl g
      · rw [if_pos h2, if_neg (by omega), if_pos (by omega)]
      · rw [if_neg h2]
        by_cases h3 : j < k
        · rw [if_pos h3, if_pos (by omega)]
        · rw [if_neg h3, if_neg (by omega), nl_rest hc (by omega) hj]
  · show ∃ τ2, (if nI (nl g) < nI k then _ else _) = _ ∧ _
    rw [if_neg (nI_nlt (by omega) (by omega))]
    have := x10_71 (k := k) hn1 hn hg (by omega) k 0 FU τ1 (by omega) (by unfold FU; omega) hH hS (-1) rfl
    rw [nI_0] at this
    exact this
theorem x10_least0 {k : Nat} (hk : k ≤ 4) (τ : Mem) : ∃ τ1, X10_least 0 (nI k) τ = some (nI (cB 1 (f1 (fun _ => 0) 0 k)), τ1) ∧ S17 τ τ1 := by
  unfold X10_least
  simp only [lt]
  have e1 : X10_lettersOf ((0 : Int32) - 0 / 531441 * 531441) = some 0 := by decide +kernel
  rw [e1, bd_s]
  obtain ⟨τ1, e3, hS, hH⟩ := x10_17 (a1 := 0) (x3 := (0 : Int32) / 531441) (x4 := 0) (τ0 := τ) hk (R := fun τ => bd (X10_suffixInHand τ) fun r26 => some (531441 + r26, τ)) (fun τ => if_pos rfl) 4 0 FU τ (by omega) (by unfold FU; omega) S17.rf (fun j hj => absurd hj (by omega))
  rw [nI_0] at e3
  rw [e3]
  show ∃ τ2, (bd (X10_suffixInHand τ1) fun r26 => some (531441 + r26, τ1)) = _ ∧ _
  rw [x10_hand hH, bd_s]
  refine ⟨τ1, ?_, hS⟩
  show some (nI 531441 + nI (sB (hk0 k)), τ1) = _
  rw [nI_add, cB_sB]
  refine someP (congrArg (_ + ·) (sB_cong (fun j hj => ?_)))
  unfold hk0 f1
  by_cases h : j < k
  · rw [if_pos h, if_pos ⟨by omega, h⟩]
  · rw [if_neg h, if_neg (by omega)]
