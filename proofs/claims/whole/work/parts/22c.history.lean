/-! own words: pure part: the history on both sides -/
theorem lix_cases (k : Nat) : ∀ G : List C4, (lix G k = -1) ∨ ∃ j, j < G.length ∧ lix G k = nI j := by
  intro G
  induction G with
  | nil => exact Or.inl rfl
  | cons a G ih =>
    obtain ⟨k', d, x, y⟩ := a
    unfold lix
    by_cases h : k' = k
    · rw [if_pos h]
      exact Or.inr ⟨G.length, by rw [List.length_cons]; omega, rfl⟩
    · rw [if_neg h]
      rcases ih with h2 | ⟨j, h2, h3⟩
      · exact Or.inl h2
      · exact Or.inr ⟨j, by rw [List.length_cons]; omega, h3⟩
theorem lix_lat {μ : Mem} {k : Nat} : ∀ G : List C4, ENT G μ → (lix G k = -1 ∧ latA G k = 0) ∨ ∃ j, j < G.length ∧ lix G k = nI j ∧ μ 3 j = nI (latA G k) := by
  intro G
  induction G with
  | nil => exact fun _ => Or.inl ⟨rfl, rfl⟩
  | cons a G ih =>
    obtain ⟨k', d, x, y⟩ := a
    intro h
    unfold lix latA
    by_cases hk : k' = k
    · rw [if_pos hk, if_pos hk]
      exact Or.inr ⟨G.length, by rw [List.length_cons]; omega, rfl, h.1.2.2.2.1⟩
    · rw [if_neg hk, if_neg hk]
      rcases ih h.2 with h2 | ⟨j, h2, h3⟩
      · exact Or.inl h2
      · exact Or.inr ⟨j, by rw [List.length_cons]; omega, h3⟩
theorem x2_latest {G : List C4} {R : Nat} {μ : Mem} (h : CHI G R μ) {k : Nat} (hk : k < 80) : X2_latest (nI k) μ = some (nI (latA G k)) := by
  obtain ⟨a, b, c, d, e, f, g⟩ := h
  have e0 : X2_latest (nI k) μ = if lix G k < 0 then some 0 else gd (lix G k) R (some (μ 3 (Int32.toNatClampNeg (lix G k)))) := by
    unfold X2_latest
    rw [if_neg (nI_pos (by omega)), if_neg (show ¬ (80 : Int32) ≤ nI k from nI_ge (b := 80) hk (by omega)), gd_i (vp_in_nI hk (by omega)), gd_i (vp_in_nI hk (by omega)), nI_clamp (by omega), g k hk, b, nI_clamp (by omega)]
  rw [e0]
  rcases lix_lat (k := k) G f with ⟨h1, h2⟩ | ⟨j, h1, h2, h3⟩
  · rw [h1, if_pos (by decide), h2]
    rfl
  · rw [h2, if_neg (nI_pos (by omega)), gd_i (vp_in_nI (by omega) (by omega)), nI_clamp (by omega), h3]
theorem x2_asOf_loop {R : Nat} {μ : Mem} {a1 on : Int32} {k : Nat} (hR : μ 6 0 = nI R) (hR2 : R ≤ 40960) : ∀ (G : List C4) (m : Nat), ENT G μ → G.length ≤ R → G.length < m → X2_asOf_21 a1 on μ m (lix G k) = some (nI (rlA G k on)) := by
  have hcl : (μ 6 0).toNatClampNeg = R := by rw [hR]; exact nI_clamp (by omega)
  intro G
  induction G with
  | nil =>
    intro m _ _ hm
    obtain ⟨m, rfl⟩ : ∃ m', m = m' + 1 := ⟨m - 1, by omega⟩
    unfold X2_asOf_21
    rw [show lix [] k = -1 from rfl, if_pos (by decide)]
    unfold X2_asOf_59
    rw [if_pos (by decide)]
    rfl
  | cons a G ih =>
    obtain ⟨k', d, x, y⟩ := a
    intro m h hl hm
    rw [List.length_cons] at hl hm
    obtain ⟨⟨h0, h1, h2, h3, h4⟩, h5⟩ := h
    unfold lix rlA
    by_cases hk : k' = k
    · subst hk
      rw [if_pos rfl]
      obtain ⟨m, rfl⟩ : ∃ m', m = m' + 1 := ⟨m - 1, by omega⟩
      unfold X2_asOf_21
      rw [if_neg (nI_pos (by omega)), hcl, gd_i (vp_in_nI (by omega) (by omega)), gd_i (vp_in_nI (by omega) (by omega)), gd_i (vp_in_nI (by omega) (by omega)), nI_clamp (by omega), h2, h4]
      by_cases hd : nI d ≤ on
      · rw [if_pos hd, if_pos ⟨rfl, hd⟩]
        unfold X2_asOf_59
        rw [if_neg (nI_pos (by omega)), hcl, gd_i (vp_in_nI (by omega) (by omega)), nI_clamp (by omega), h3]
      · have hr : (if k' = k' ∧ nI d ≤ on then x else rlA G k' on) = rlA G k' on := if_neg (fun z => hd z.2)
        rw [if_neg hd, hr]
        have hlt : ¬ nI G.length ≤ lix G k' := by
          rcases lix_cases k' G with z | ⟨j, z1, z2⟩
          · rw [z, Int32.le_iff_toInt_le, nI_toInt (by omega)]
            have : (-1 : Int32).toInt = -1 := by decide
            omega
          · rw [z2]
            exact nI_ge z1 (by omega)
        rw [if_neg hlt]
        simp only [lt]
        exact ih m h5 (by omega) (by omega)
    · rw [if_neg hk, if_neg (fun z => hk z.1)]
      exact ih m h5 (by omega) (by omega)
theorem x2_asOf {G : List C4} {R : Nat} {μ : Mem} (h : CHI G R μ) {k : Nat} (hk : k < 80) (on : Int32) : X2_asOf (nI k) on μ = some (nI (rlA G k on)) := by
  obtain ⟨a, b, c, d, e, f, g⟩ := h
  unfold X2_asOf
  rw [if_neg (nI_pos (by omega)), if_neg (show ¬ (80 : Int32) ≤ nI k from nI_ge (b := 80) hk (by omega)), gd_i (vp_in_nI hk (by omega)), nI_clamp (by omega), g k hk]
  simp only [lt]
  exact x2_asOf_loop b d G FU f e (by unfold FU; omega)
/-- what no item has: nothing -/
theorem x2_asOf_no {μ : Mem} {a on : Int32} (h : a < 0 ∨ 80 ≤ a) : X2_asOf a on μ = some 0 := by
  have e : X2_asOf_21 a on μ FU (-1) = some 0 := by
    obtain ⟨m, hm⟩ : ∃ m, FU = m + 1 := ⟨999999, rfl⟩
    rw [hm]
    unfold X2_asOf_21
    rw [if_pos (by decide)]
    rfl
  unfold X2_asOf
  by_cases h0 : a < 0
  · rw [if_pos h0, e]
  · rw [if_neg h0, if_pos (h.resolve_left h0), e]
theorem x10_labelOf_loop {τ : Mem} {on : Int32} {k : Nat} (hk : k < 80) : ∀ (H : List C4) (m : Nat), ENB H τ → (∀ e ∈ H, e.1 < 80) → H.length ≤ 50000 → H.length < m → X10_labelOf_7 (nI k) on τ m (nI H.length - 1) = some (nI (rlB H k on)) := by
  intro H
  induction H with
  | nil =>
    intro m _ _ _ hm
    obtain ⟨m, rfl⟩ : ∃ m', m = m' + 1 := ⟨m - 1, by omega⟩
    unfold X10_labelOf_7
    rw [if_pos (by decide)]
    rfl
  | cons a H ih =>
    obtain ⟨k', d, x, y⟩ := a
    intro m h h8 hl hm
    rw [List.length_cons] at hl hm ⊢
    obtain ⟨⟨h1, h2, h3⟩, h5⟩ := h
    have hk' : k' < 80 := h8 _ List.mem_cons_self
    obtain ⟨m, rfl⟩ : ∃ m', m = m' + 1 := ⟨m - 1, by omega⟩
    rw [nI_pred]
    unfold X10_labelOf_7 rlB
    have hi := ih m h5 (fun e he => h8 e (List.mem_cons_of_mem _ he)) (by omega) (by omega)
    rw [if_neg (nI_pos (by omega)), gd_i (vp_in_nI (by omega) (by omega)), gd_i (vp_in_nI (by omega) (by omega)), gd_i (vp_in_nI (by omega) (by omega)), nI_clamp (by omega), h1, h2, h3]
    simp only [lt]
    rw [i32_sub, hi]
    by_cases hkk : k' = k
    · rw [if_pos (show nI k' = nI k by rw [hkk])]
      by_cases hd : on < nI d
      · rw [if_pos hd, if_neg (fun z => Int32.not_lt.mpr z.2 hd)]
      · rw [if_neg hd, if_pos ⟨hkk, Int32.not_lt.mp hd⟩]
    · rw [if_neg (fun z => hkk ((nI_eq (by omega) (by omega)).mp z)), if_neg (fun z => hkk z.1)]
theorem x10_labelOf {H : List C4} {τ : Mem} (h : BHI H τ) (h8 : ∀ e ∈ H, e.1 < 80) (hl : H.length ≤ 50000) {k : Nat} (hk : k < 80) (on : Int32) : X10_labelOf (nI k) on τ = some (nI (rlB H k on)) := by
  unfold X10_labelOf
  rw [h.1]
  exact x10_labelOf_loop hk H FU h.2 h8 hl (by unfold FU; omega)
theorem WH.k80 : ∀ {H : List C4} {D : Nat}, WH H D → ∀ e ∈ H, e.1 < 80 := by
  intro H
  induction H with
  | nil => exact fun _ e he => absurd he List.not_mem_nil
  | cons a H ih =>
    obtain ⟨k, d, x, y⟩ := a
    intro D h e he
    rcases List.mem_cons.mp he with rfl | he
    · exact h.1
    · exact ih h.2.2.2 e he
theorem rl_LRN {k : Nat} {on : Int32} : ∀ {H : List C4} {D : Nat}, WH H D → LRN (rlA H k on) (rlB H k on) := by
  intro H
  induction H with
  | nil => exact fun _ => Or.inl ⟨rfl, rfl⟩
  | cons a H ih =>
    obtain ⟨k', d, x, y⟩ := a
    intro D h
    unfold rlA rlB
    by_cases hc : k' = k ∧ nI d ≤ on
    · rw [if_pos hc, if_pos hc]
      exact h.2.2.1
    · rw [if_neg hc, if_neg hc]
      exact ih h.2.2.2
theorem rl_lat {k : Nat} {on : Int32} {D0 : Nat} (hD0 : D0 < 2 ^ 31) (hon : nI D0 ≤ on) : ∀ {H : List C4} {D : Nat}, D ≤ D0 → WH H D → rlA H k on = latA H k := by
  intro H
  induction H with
  | nil => exact fun _ _ => rfl
  | cons a H ih =>
    obtain ⟨k', d, x, y⟩ := a
    intro D hD h
    have hd : nI d ≤ on := Int32.le_trans (nI_le (show d ≤ D0 from Nat.le_trans h.2.1 hD) hD0) hon
    unfold rlA latA
    by_cases hk : k' = k
    · rw [if_pos ⟨hk, hd⟩, if_pos hk]
    · rw [if_neg (fun z => hk z.1), if_neg hk]
      exact ih (Nat.le_trans h.2.1 hD) h.2.2.2
theorem cmp_lat (k : Nat) : ∀ H : List C4, latA (cmpH H) k = latA H k := by
  intro H
  induction H with
  | nil => rfl
  | cons a H ih =>
    obtain ⟨k', d, x, y⟩ := a
    have e : latA ((k', d, x, y) :: H) k = if k' = k then x else latA H k := rfl
    have e2 : cmpH ((k', d, x, y) :: H) = if latA H k' = x then cmpH H else (k', d, x, y) :: cmpH H := rfl
    rw [e, e2]
    by_cases h : latA H k' = x
    · rw [if_pos h, ih]
      by_cases hk : k' = k
      · rw [if_pos hk, ← hk, h]
      · rw [if_neg hk]
    · rw [if_neg h]
      show (if k' = k then x else latA (cmpH H) k) = _
      rw [ih]
theorem cmp_rl {k : Nat} {on : Int32} : ∀ {H : List C4} {D : Nat}, D < 2 ^ 31 → WH H D → rlA (cmpH H) k on = rlA H k on := by
  intro H
  induction H with
  | nil => exact fun _ _ => rfl
  | cons a H ih =>
    obtain ⟨k', d, x, y⟩ := a
    intro D hD h
    have hd : d < 2 ^ 31 := Nat.lt_of_le_of_lt h.2.1 hD
    have e : rlA ((k', d, x, y) :: H) k on = if k' = k ∧ nI d ≤ on then x else rlA H k on := rfl
    have e2 : cmpH ((k', d, x, y) :: H) = if latA H k' = x then cmpH H else (k', d, x, y) :: cmpH H := rfl
    rw [e, e2]
    by_cases hx : latA H k' = x
    · rw [if_pos hx, ih hd h.2.2.2]
      by_cases hc : k' = k ∧ nI d ≤ on
      · rw [if_pos hc, rl_lat hd hc.2 (Nat.le_refl d) h.2.2.2, ← hc.1, hx]
      · rw [if_neg hc]
    · rw [if_neg hx]
      show (if k' = k ∧ nI d ≤ on then x else rlA (cmpH H) k on) = _
      rw [ih hd h.2.2.2]
theorem cmp_len : ∀ H : List C4, (cmpH H).length ≤ H.length := by
  intro H
  induction H with
  | nil => exact Nat.le_refl _
  | cons a H ih =>
    obtain ⟨k', d, x, y⟩ := a
    have e2 : cmpH ((k', d, x, y) :: H) = if latA H k' = x then cmpH H else (k', d, x, y) :: cmpH H := rfl
    rw [e2, List.length_cons]
    split
    · omega
    · rw [List.length_cons]
      omega
theorem cmp_app : ∀ (E H : List C4), ∃ E', cmpH (E ++ H) = E' ++ cmpH H := by
  intro E
  induction E with
  | nil => exact fun H => ⟨[], rfl⟩
  | cons a E ih =>
    obtain ⟨k', d, x, y⟩ := a
    intro H
    obtain ⟨E', e⟩ := ih H
    have e2 : cmpH (((k', d, x, y) :: E) ++ H) = if latA (E ++ H) k' = x then cmpH (E ++ H) else (k', d, x, y) :: cmpH (E ++ H) := rfl
    rw [e2, e]
    split
    · exact ⟨E', rfl⟩
    · exact ⟨(k', d, x, y) :: E', rfl⟩
theorem ENT.eqL {μ μ1 : Mem} : ∀ {G : List C4}, (∀ c, c = 1 ∨ c = 2 ∨ c = 3 ∨ c = 4 → ∀ j, j < G.length → μ1 c j = μ c j) → ENT G μ → ENT G μ1 := by
  intro G
  induction G with
  | nil => exact fun _ _ => trivial
  | cons a G ih =>
    obtain ⟨k, d, x, y⟩ := a
    intro e h
    rw [List.length_cons] at e
    refine ⟨?_, ih (fun c hc j hj => e c hc j (by omega)) h.2⟩
    rw [e 1 (by omega) _ (by omega), e 2 (by omega) _ (by omega), e 3 (by omega) _ (by omega), e 4 (by omega) _ (by omega)]
    exact h.1
theorem x2_room {G : List C4} {R : Nat} {μ : Mem} (h : CHI G R μ) (hG : G.length < 40960) : ∃ μ1 R1 κ1, X2_hasRoom μ = some ((1, μ1), κ1) ∧ CHI G R1 μ1 ∧ G.length < R1 ∧ ∀ κ, KOK R κ → KOK R1 (κ + κ1) := by
  obtain ⟨a, b, c, d, e, f, g⟩ := h
  have hcl : (μ 6 0).toNatClampNeg = R := by rw [b]; exact nI_clamp (by omega)
  unfold X2_hasRoom
  rw [hcl, a]
  by_cases h1 : G.length < R
  · rw [if_neg (nI_ge h1 (by omega))]
    exact ⟨μ, R, 0, rfl, ⟨a, b, c, d, e, f, g⟩, h1, fun κ h => h⟩
  · have hR : G.length = R := by omega
    have em : (if (40960 : Int32) < nI G.length * 2 then 40960 else nI G.length * 2) = nI (if 40960 < R * 2 then 40960 else R * 2) := by
      have e2 : nI G.length * 2 = nI (R * 2) := by
        rw [hR]
        exact pk_mul R 2
      rw [e2]
      by_cases h2 : 40960 < R * 2
      · rw [if_pos h2, if_pos (show (40960 : Int32) < nI (R * 2) from nI_lt (a := 40960) h2 (by omega))]
        rfl
      · rw [if_neg h2, if_neg (show ¬ (40960 : Int32) < nI (R * 2) from nI_nlt (a := 40960) (by omega) (by omega))]
    have hm : ∃ M, (if 40960 < R * 2 then 40960 else R * 2) = M ∧ R < M ∧ M ≤ 40960 ∧ (M = 40960 ∨ M = 2 * R ∧ M < 40960 ∨ M = 40960) := by
      refine ⟨_, rfl, ?_⟩
      split <;> omega
    obtain ⟨M, hM, m1, m2, m3⟩ := hm
    rw [if_pos (nI_le (by omega) (by omega)), if_pos (show nI G.length < 40960 from nI_lt (b := 40960) hG (by omega)), em, hM]
    simp only [lt]
    have cond : R < 40960 ∧ nI R < nI M ∧ (nI M).toNatClampNeg ≤ 40960 ∧ R ≤ (nI M).toNatClampNeg ∧ ¬ nI M < 0 := by
      rw [nI_clamp (by omega)]
      exact ⟨by omega, nI_lt m1 (by omega), m2, by omega, nI_pos (by omega)⟩
    unfold gp
    rw [if_pos cond, nI_clamp (by omega)]
    refine ⟨_, M, 4 * (M + 1), rfl, ⟨a, rfl, by omega, m2, by omega, ENT.eqL (μ := μ) (fun cc hc j hj => ?_) f, g⟩, by omega, fun κ hk => ?_⟩
    · rcases hc with rfl | rfl | rfl | rfl
      · show gcp (μ 1) R j = _
        unfold gcp
        rw [pk_cpy_in (by omega) (by omega)]
        congr 1
        omega
      · show gcp (μ 2) R j = _
        unfold gcp
        rw [pk_cpy_in (by omega) (by omega)]
        congr 1
        omega
      · show gcp (μ 3) R j = _
        unfold gcp
        rw [pk_cpy_in (by omega) (by omega)]
        congr 1
        omega
      · show gcp (μ 4) R j = _
        unfold gcp
        rw [pk_cpy_in (by omega) (by omega)]
        congr 1
        omega
    · unfold KOK at hk ⊢
      omega
theorem x2_give {G : List C4} {R : Nat} {μ : Mem} (h : CHI G R μ) {k d x : Nat} (y : Nat) (hk : k < 80) (hG : G.length < 40960) (hx : x < 2 ^ 31) (hlx : latA G k < 2 ^ 31) : ∃ μ1 R1 κ1, X2_give (nI k) (nI d) (nI x) μ = some (μ1, κ1) ∧ CHI (if latA G k = x then G else (k, d, x, y) :: G) R1 μ1 ∧ ∀ κ, KOK R κ → KOK R1 (κ + κ1) := by
  unfold X2_give
  rw [if_neg (nI_pos (by omega)), if_neg (show ¬ (80 : Int32) ≤ nI k from nI_ge (b := 80) hk (by omega)), x2_latest h hk, bd_s]
  by_cases hl : latA G k = x
  · rw [if_pos (show nI (latA G k) = nI x by rw [hl]), if_pos hl]
    exact ⟨μ, R, 0, rfl, h, fun κ h => h⟩
  · rw [if_neg (fun z => hl ((nI_eq hlx hx).mp z)), if_neg hl]
    obtain ⟨μ1, R1, κ1, e1, h1, h2, h3⟩ := x2_room h hG
    obtain ⟨a, b, c, dd, e, f, g⟩ := h1
    have hcl : (μ1 6 0).toNatClampNeg = R1 := by rw [b]; exact nI_clamp (by omega)
    rw [e1, bd_s]
    simp only [lt]
    have e2 : (if (1 : Int32) = 0 then some (μ1, 0) else
          gd (μ1 0 5) (μ1 6 0).toNatClampNeg <|
          lt (up μ1 1 (Int32.toNatClampNeg (μ1 0 5)) (nI k)) fun σ11 =>
          gd (σ11 0 5) (σ11 6 0).toNatClampNeg <|
          lt (up σ11 2 (Int32.toNatClampNeg (σ11 0 5)) (nI d)) fun σ13 =>
          gd (σ13 0 5) (σ13 6 0).toNatClampNeg <|
          lt (up σ13 3 (Int32.toNatClampNeg (σ13 0 5)) (nI x)) fun σ15 =>
          gd (nI k) 80 <|
          gd (σ15 0 5) (σ15 6 0).toNatClampNeg <|
          lt (up σ15 4 (Int32.toNatClampNeg (σ15 0 5)) (σ15 5 (Int32.toNatClampNeg (nI k)))) fun σ18 =>
          gd (nI k) 80 <|
          lt (up σ18 5 (Int32.toNatClampNeg (nI k)) (σ18 0 5)) fun σ20 =>
          lt (up σ20 0 5 ((σ20 0 5) + 1)) fun σ21 =>
          some (σ21, 0)) = some (up (up (up (up (up (up μ1 1 G.length (nI k)) 2 G.length (nI d)) 3 G.length (nI x)) 4 G.length (lix G k)) 5 k (nI G.length)) 0 5 (nI (G.length + 1)), 0) := by
      rw [if_neg (show ¬ (1 : Int32) = 0 by decide)]
      show gd (μ1 0 5) (μ1 6 0).toNatClampNeg (gd (μ1 0 5) (μ1 6 0).toNatClampNeg (gd (μ1 0 5) (μ1 6 0).toNatClampNeg (gd (nI k) 80 (gd (μ1 0 5) (μ1 6 0).toNatClampNeg (gd (nI k) 80 (some (up (up (up (up (up (up μ1 1 (Int32.toNatClampNeg (μ1 0 5)) (nI k)) 2 (Int32.toNatClampNeg (μ1 0 5)) (nI d)) 3 (Int32.toNatClampNeg (μ1 0 5)) (nI x)) 4 (Int32.toNatClampNeg (μ1 0 5)) (μ1 5 (Int32.toNatClampNeg (nI k)))) 5 (Int32.toNatClampNeg (nI k)) (μ1 0 5)) 0 5 (μ1 0 5 + 1), 0))))))) = _
      rw [hcl, a, gd_i (vp_in_nI h2 (by omega)), gd_i (vp_in_nI h2 (by omega)), gd_i (vp_in_nI h2 (by omega)), gd_i (vp_in_nI hk (by omega)), gd_i (vp_in_nI h2 (by omega)), gd_i (vp_in_nI hk (by omega)), nI_clamp (by omega), nI_clamp (by omega), g k hk, nI_1]
    refine ⟨up (up (up (up (up (up μ1 1 G.length (nI k)) 2 G.length (nI d)) 3 G.length (nI x)) 4 G.length (lix G k)) 5 k (nI G.length)) 0 5 (nI (G.length + 1)), R1, κ1 + 0, ?_, ⟨rfl, b, c, dd, by rw [List.length_cons]; omega, ⟨⟨hk, pk_us, pk_us, pk_us, pk_us⟩, ENT.eqL (μ := μ1) (fun cc hc j hj => ?_) f⟩, fun k' hk' => ?_⟩, h3⟩
    · exact congrArg (kad κ1) e2
    · rcases hc with rfl | rfl | rfl | rfl <;> exact pk_un (by omega)
    · show upd (μ1 5) k (nI G.length) k' = if k = k' then nI G.length else lix G k'
      by_cases hkk : k' = k
      · rw [hkk, pk_us, if_pos rfl]
      · rw [pk_un hkk, if_neg (Ne.symm hkk)]
        exact g k' hk'
theorem x2_cut {G0 : List C4} {R : Nat} : ∀ (E : List C4) (μ : Mem) (m : Nat), CHI (E ++ G0) R μ → E.length < m → ∃ μ1, X2_cutTo_0 (nI G0.length) m μ = some μ1 ∧ CHI G0 R μ1 := by
  intro E
  induction E with
  | nil =>
    intro μ m h hm
    obtain ⟨m, rfl⟩ : ∃ m', m = m' + 1 := ⟨m - 1, by omega⟩
    have hl := h.2.2.2.2.1
    have hd := h.2.2.2.1
    refine ⟨μ, ?_, h⟩
    unfold X2_cutTo_0
    rw [h.1, if_pos (nI_le (by simp) (by simp at hl; omega))]
  | cons a E ih =>
    obtain ⟨k, d, x, y⟩ := a
    intro μ m h hm
    rw [List.length_cons] at hm
    obtain ⟨m, rfl⟩ : ∃ m', m = m' + 1 := ⟨m - 1, by omega⟩
    obtain ⟨a, b, c, dd, e, f, g⟩ := h
    have el : ((k, d, x, y) :: E ++ G0).length = (E ++ G0).length + 1 := rfl
    rw [el] at a e
    obtain ⟨⟨f0, f1, f2, f3, f4⟩, f5⟩ := f
    have f5 : ENT (E ++ G0) μ := f5
    have hll : G0.length ≤ (E ++ G0).length := by simp
    have hcl : (μ 6 0).toNatClampNeg = R := by rw [b]; exact nI_clamp (by omega)
    have f1' : μ 1 (E ++ G0).length = nI k := f1
    have f4' : μ 4 (E ++ G0).length = lix (E ++ G0) k := f4
    have e0 : X2_cutTo_0 (nI G0.length) (m + 1) μ = X2_cutTo_0 (nI G0.length) m (up (up μ 0 5 (nI (E ++ G0).length)) 5 k (lix (E ++ G0) k)) := by
      conv => lhs; unfold X2_cutTo_0
      rw [a, if_neg (nI_ge (by omega) (by omega)), if_neg (nI_nle (by omega) (by omega)), nI_pred]
      show gd (nI (E ++ G0).length) (μ 6 0).toNatClampNeg (gd (nI (E ++ G0).length) (μ 6 0).toNatClampNeg (gd (μ 1 (Int32.toNatClampNeg (nI (E ++ G0).length))) 80 (X2_cutTo_0 (nI G0.length) m (up (up μ 0 5 (nI (E ++ G0).length)) 5 (Int32.toNatClampNeg (μ 1 (Int32.toNatClampNeg (nI (E ++ G0).length)))) (μ 4 (Int32.toNatClampNeg (nI (E ++ G0).length))))))) = _
      rw [hcl, gd_i (vp_in_nI (by omega) (by omega)), gd_i (vp_in_nI (by omega) (by omega)), nI_clamp (by omega), f1', f4', gd_i (vp_in_nI f0 (by omega)), nI_clamp (by omega)]
    rw [e0]
    have f6 : ENT (E ++ G0) (up (up μ 0 5 (nI (E ++ G0).length)) 5 k (lix (E ++ G0) k)) := ENT.eq (μ := μ) (μ1 := up (up μ 0 5 (nI (E ++ G0).length)) 5 k (lix (E ++ G0) k)) rfl rfl rfl rfl f5
    refine ih _ m ⟨rfl, b, c, dd, by omega, f6, fun k' hk' => ?_⟩ (by omega)
    show upd (μ 5) k (lix (E ++ G0) k) k' = _
    by_cases hkk : k' = k
    · rw [hkk, pk_us]
    · rw [pk_un hkk]
      have := g k' hk'
      rw [this]
      show (if k = k' then _ else lix (E ++ G0) k') = _
      rw [if_neg (Ne.symm hkk)]
theorem x10_change {H : List C4} {τ : Mem} (h : BHI H τ) (hl : H.length < 50000) {k dy y : Nat} (x : Nat) (hd : τ 0 11 = nI dy) : ∃ τ1, X10_change (nI k) (nI y) τ = some τ1 ∧ BHI ((k, dy, x, y) :: H) τ1 ∧ FR [11, 12, 13] [25] τ τ1 := by
  obtain ⟨a, b⟩ := h
  refine ⟨up (up (up (up τ 11 H.length (nI k)) 12 H.length (nI dy)) 13 H.length (nI y)) 0 25 (nI (H.length + 1)), ?_, ⟨rfl, ⟨⟨pk_us, pk_us, pk_us⟩, ?_⟩⟩, (((FR.rf.cel (by decide) (by decide)).cel (by decide) (by decide)).cel (by decide) (by decide)).fld (by decide)⟩
  · unfold X10_change
    show gd (τ 0 25) 165000 (gd (τ 0 25) 165000 (gd (τ 0 25) 165000 (some (up (up (up (up τ 11 (Int32.toNatClampNeg (τ 0 25)) (nI k)) 12 (Int32.toNatClampNeg (τ 0 25)) (τ 0 11)) 13 (Int32.toNatClampNeg (τ 0 25)) (nI y)) 0 25 (τ 0 25 + 1))))) = _
    rw [a, gd_i (vp_in_nI (by omega) (by omega)), gd_i (vp_in_nI (by omega) (by omega)), gd_i (vp_in_nI (by omega) (by omega)), nI_clamp (by omega), hd, nI_1]
  · have key : ∀ {G : List C4}, G.length ≤ H.length → ENB G τ → ENB G (up (up (up (up τ 11 H.length (nI k)) 12 H.length (nI dy)) 13 H.length (nI y)) 0 25 (nI (H.length + 1))) := by
      intro G
      induction G with
      | nil => exact fun _ _ => trivial
      | cons a G ih =>
        obtain ⟨k', d', x', y'⟩ := a
        intro hG h
        rw [List.length_cons] at hG
        refine ⟨?_, ih (by omega) h.2⟩
        show upd (τ 11) H.length (nI k) G.length = _ ∧ upd (τ 12) H.length (nI dy) G.length = _ ∧ upd (τ 13) H.length (nI y) G.length = _
        rw [pk_un (by omega), pk_un (by omega), pk_un (by omega)]
        exact h.1
    exact key (Nat.le_refl _) b
theorem ENB_app {τ : Mem} {Hs : List C4} : ∀ E : List C4, ENB (E ++ Hs) τ → ENB Hs τ := by
  intro E
  induction E with
  | nil => exact fun h => h
  | cons a E ih =>
    obtain ⟨k, d, x, y⟩ := a
    exact fun h => ih h.2
theorem WH_app {Hs : List C4} : ∀ (E : List C4) (D : Nat), WH (E ++ Hs) D → ∃ D', D' ≤ D ∧ WH Hs D' := by
  intro E
  induction E with
  | nil => exact fun D h => ⟨D, Nat.le_refl _, h⟩
  | cons a E ih =>
    obtain ⟨k, d, x, y⟩ := a
    intro D h
    obtain ⟨D', h1, h2⟩ := ih d h.2.2.2
    exact ⟨D', Nat.le_trans h1 h.2.1, h2⟩
theorem WH_mono {H : List C4} {D D' : Nat} (hD : D ≤ D') (h : WH H D) : WH H D' := by
  cases H with
  | nil => exact trivial
  | cons a H =>
    obtain ⟨k, d, x, y⟩ := a
    exact ⟨h.1, Nat.le_trans h.2.1 hD, h.2.2⟩
