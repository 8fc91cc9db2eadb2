/-! own words: pure part: a label read by the reference: written again, and what is held then -/
theorem x10_160 {a1 x2 x3 : Int32} : ∀ (d i m : Nat) (τ : Mem), i + d = 4 → d < m → (∀ j, j < i → τ 17 j = nI 0) → ∃ τ1, S17 τ τ1 ∧ HD τ1 (fun _ => 0) ∧ X10_readLabel_160 a1 m x2 x3 (nI i) τ = X10_readLabel_160 a1 1 x2 x3 4 τ1 := by
  intro d
  induction d with
  | zero =>
    intro i m τ hi hm e
    obtain ⟨m, rfl⟩ : ∃ m', m = m' + 1 := ⟨m - 1, by omega⟩
    obtain rfl : i = 4 := by omega
    refine ⟨τ, S17.rf, ⟨e 0 (by omega), e 1 (by omega), e 2 (by omega), e 3 (by omega)⟩, ?_⟩
    unfold X10_readLabel_160
    rw [if_pos (show (4 : Int32) ≤ nI 4 by decide), if_pos (show (4 : Int32) ≤ 4 by decide)]
  | succ d ih =>
    intro i m τ hi hm e
    obtain ⟨m, rfl⟩ : ∃ m', m = m' + 1 := ⟨m - 1, by omega⟩
    have e0 : X10_readLabel_160 a1 (m + 1) x2 x3 (nI i) τ = X10_readLabel_160 a1 m x2 x3 (nI (i + 1)) (up τ 17 i 0) := by
      conv => lhs; unfold X10_readLabel_160
      rw [if_neg (show ¬ (4 : Int32) ≤ nI i from nI_ge (b := 4) (by omega) (by omega)), gd_i (vp_in_nI (by omega) (by omega))]
      simp only [lt]
      rw [nI_1, nI_clamp (by omega)]
    rw [e0]
    obtain ⟨τ1, s1, h1, h2⟩ := ih (i + 1) m (up τ 17 i 0) (by omega) (by omega) (fun j hj => by
      unfold up
      rw [upc_s]
      unfold upd
      by_cases hji : j = i
      · rw [if_pos hji]
        rfl
      · rw [if_neg hji]
        exact e j (by omega))
    exact ⟨τ1, (S17.rf.up (i := i) (v := 0)).tr s1, h1, h2⟩
theorem nar_tab : ∀ b, b < 128 → vp_nar .byte (nI b) = nI b := by decide +kernel
theorem x10_w120 {O : List Nat} {a1 a2 v : Int32} (hl : O.length ≤ 100) (hO : ∀ i, i < O.length → O.getD i 0 < 128) (hv : v = 0 ∨ v = 1) : ∀ (d i m : Nat) (τ : Mem), i + d = O.length → d < m → (∀ j, j < i → τ 18 j = nI (O.getD j 0)) → (∀ j, j < O.length → τ 21 j = nI (O.getD j 0)) → ∃ τ1, X10_isWritten_120 a1 a2 m (nI O.length) v (nI i) τ = some (v, τ1) ∧ BOUT O τ1 ∧ FR [18] [32] τ τ1 := by
  intro d
  induction d with
  | zero =>
    intro i m τ hi hm e1 e2
    obtain ⟨m, rfl⟩ : ∃ z, m = z + 1 := ⟨m - 1, by omega⟩
    refine ⟨up τ 0 32 (nI O.length), ?_, ⟨hl, rfl, fun j hj => e1 j (by omega), hO⟩, FR.rf.fld (by decide)⟩
    unfold X10_isWritten_120
    rw [if_pos (nI_le (by omega) (by omega))]
    exact if_pos hv
  | succ d ih =>
    intro i m τ hi hm e1 e2
    obtain ⟨m, rfl⟩ : ∃ z, m = z + 1 := ⟨m - 1, by omega⟩
    have h21 := e2 i (by omega)
    have hb := hO i (by omega)
    obtain ⟨τ1, g1, g2, g3⟩ := ih (i + 1) m (up τ 18 i (nI (O.getD i 0))) (by omega) (by omega) (fun j hj => by
      unfold up
      rw [upc_s]
      by_cases z : j = i
      · rw [z, pk_us]
      · rw [pk_un z]
        exact e1 j (by omega)) e2
    refine ⟨τ1, ?_, g2, (FR.rf.cel (by decide) (by decide)).tr g3⟩
    unfold X10_isWritten_120
    rw [if_neg (nI_ge (by omega) (by omega)), gd_i (vp_in_nI (by omega) (by omega)), gd_i (vp_in_nI (by omega) (by omega)), nI_clamp (by omega), h21, nar_tab _ hb]
    simp only [lt]
    rw [nI_1]
    exact g1
theorem x10_w71z {a1 a2 x3 x5 : Int32} {m : Nat} {τ : Mem} : X10_isWritten_71 a1 a2 (m + 1) x3 0 x5 τ = X10_isWritten_120 a1 a2 FU x3 0 0 τ := by
  unfold X10_isWritten_71
  split
  · rfl
  · exact if_pos rfl
theorem x10_w71 {T W : List Nat} {p q : Nat} {a2 x3 : Int32} {τ : Mem} (hT : T.length ≤ 200) (hB : ∀ i, i < T.length → T.getD i 0 < 256) (hb : BTS T q τ) (hW : BOUT W τ) (hl : q - p = W.length) (hpq : p ≤ q) (hq : q ≤ T.length) : ∀ (d i m : Nat), i + d = W.length → d < m → ∃ r, (r = 0 ∨ r = 1) ∧ X10_isWritten_71 (nI p) a2 m x3 1 (nI i) τ = X10_isWritten_120 (nI p) a2 FU x3 r 0 τ ∧ ((∀ j, i ≤ j → j < W.length → T.getD (p + j) 0 = W.getD j 0) → r = 1) ∧ (¬ (∀ j, i ≤ j → j < W.length → T.getD (p + j) 0 = W.getD j 0) → r = 0) := by
  have hW1 := hW.1
  intro d
  induction d with
  | zero =>
    intro i m hi hm
    obtain ⟨m, rfl⟩ : ∃ z, m = z + 1 := ⟨m - 1, by omega⟩
    refine ⟨1, Or.inr rfl, ?_, fun _ => rfl, fun z => absurd (fun j h1 h2 => by omega) z⟩
    unfold X10_isWritten_71
    rw [hW.2.1, if_pos (nI_le (by omega) (by omega))]
  | succ d ih =>
    intro i m hi hm
    obtain ⟨m, rfl⟩ : ∃ z, m = z + 1 := ⟨m - 1, by omega⟩
    have hbT := hB (p + i) (by omega)
    have hbW := hW.2.2.2 i (by omega)
    have e1 := hb.2.2 (p + i) (by omega)
    have e2 := hW.2.2.1 i (by omega)
    have key : X10_isWritten_71 (nI p) a2 (m + 1) x3 1 (nI i) τ = if nI (W.getD i 0) = sb (T.getD (p + i) 0) then X10_isWritten_71 (nI p) a2 m x3 1 (nI (i + 1)) τ else X10_isWritten_71 (nI p) a2 m x3 0 (nI (i + 1)) τ := by
      conv => lhs; unfold X10_isWritten_71
      rw [hW.2.1, if_neg (nI_ge (by omega) (by omega)), if_neg (show ¬ (1 : Int32) = 0 by decide), gd_i (vp_in_nI (by omega) (by omega)), nI_add, gd_i (vp_in_nI (by omega) (by omega)), nI_clamp (by omega), nI_clamp (by omega), e1, e2]
      simp only [lt]
      rw [nI_1]
    rw [key]
    by_cases e : T.getD (p + i) 0 = W.getD i 0
    · rw [if_pos ((sb_eq _ hbT _ hbW).mpr e).symm]
      obtain ⟨r, g0, g1, g2, g3⟩ := ih (i + 1) m (by omega) (by omega)
      refine ⟨r, g0, g1, fun z => g2 fun j h1 h2 => z j (by omega) h2, fun z => g3 fun z2 => z fun j h1 h2 => ?_⟩
      rcases Nat.lt_or_ge i j with k | k
      · exact z2 j k h2
      · rw [show j = i by omega]
        exact e
    · obtain ⟨m, rfl⟩ : ∃ z, m = z + 1 := ⟨m - 1, by omega⟩
      rw [if_neg (fun z => e ((sb_eq _ hbT _ hbW).mp z.symm)), x10_w71z]
      exact ⟨0, Or.inl rfl, rfl, fun z => absurd (z i (Nat.le_refl _) (by omega)) e, fun _ => rfl⟩
theorem x10_w8 {O : List Nat} {a1 a2 : Int32} : ∀ (d i m : Nat) (τ : Mem), i + d = O.length → d < m → BOUT O τ → (∀ j, j < i → τ 21 j = nI (O.getD j 0)) → ∃ τ1, FR [21] [] τ τ1 ∧ (∀ j, j < O.length → τ1 21 j = nI (O.getD j 0)) ∧ X10_isWritten_8 a1 a2 m (nI O.length) (nI i) τ = X10_isWritten_8 a1 a2 1 (nI O.length) (nI O.length) τ1 := by
  intro d
  induction d with
  | zero =>
    intro i m τ hi hm h e
    obtain ⟨m, rfl⟩ : ∃ z, m = z + 1 := ⟨m - 1, by omega⟩
    have h100 := h.1
    obtain rfl : i = O.length := by omega
    refine ⟨τ, FR.rf, e, ?_⟩
    unfold X10_isWritten_8
    rw [if_pos (nI_le (Nat.le_refl _) (by omega)), if_pos (nI_le (Nat.le_refl _) (by omega))]
  | succ d ih =>
    intro i m τ hi hm h e
    obtain ⟨m, rfl⟩ : ∃ z, m = z + 1 := ⟨m - 1, by omega⟩
    have h100 := h.1
    have h18 := h.2.2.1 i (by omega)
    have hb := h.2.2.2 i (by omega)
    have e0 : X10_isWritten_8 a1 a2 (m + 1) (nI O.length) (nI i) τ = X10_isWritten_8 a1 a2 m (nI O.length) (nI (i + 1)) (up τ 21 i (nI (O.getD i 0))) := by
      conv => lhs; unfold X10_isWritten_8
      rw [if_neg (nI_ge (by omega) (by omega)), gd_i (vp_in_nI (by omega) (by omega)), gd_i (vp_in_nI (by omega) (by omega)), nI_clamp (by omega), h18, nar_tab _ hb]
      simp only [lt]
      rw [nI_1]
    have f1 : FR [21] [] τ (up τ 21 i (nI (O.getD i 0))) := FR.rf.cel (by decide) (by decide)
    obtain ⟨τ1, g1, g2, g3⟩ := ih (i + 1) m _ (by omega) (by omega) (h.fr f1 (by decide) (by decide)) (fun j hj => by
      unfold up
      rw [upc_s]
      by_cases z : j = i
      · rw [z, pk_us]
      · rw [pk_un z]
        exact e j (by omega))
    exact ⟨τ1, f1.tr g1, g2, e0.trans g3⟩
theorem x10_iw {T O : List Nat} {f p q n : Nat} {g : Nat → Nat} {τ : Mem} (hT : T.length ≤ 200) (hB : ∀ i, i < T.length → T.getD i 0 < 256) (hf : f < 4) (hL : LOK n g) (h35 : τ 0 35 = nI (cB n g)) (hb : BTS T q τ) (hO : BOUT O τ) (hco : BCO τ) (hpq : p ≤ q) (hq : q ≤ T.length) : ∃ r τ1, X10_isWritten (nI p) (nI f) τ = some (r, τ1) ∧ (r = 0 ∨ r = 1) ∧ BOUT O τ1 ∧ FR [18, 21] [32] τ τ1 ∧ (SEG T p q (wlab f n g) → r = 1) ∧ (¬ SEG T p q (wlab f n g) → r = 0) := by
  obtain ⟨τ1, a1, a2, a3⟩ := x10_w8 (a1 := nI p) (a2 := nI f) O.length 0 FU τ (by omega) (by have := hO.1; unfold FU; omega) hO (fun j hj => absurd hj (by omega))
  have hlen := wlab_len (f := f) (g := g) hL.2.1
  have f1 : FR [18, 21] [32] τ (up τ1 0 32 0) := (a1.mono (by decide) (by decide)).fld (by decide)
  obtain ⟨τ2, w1, w2, w3⟩ := x10_write (O := []) (τ := up τ1 0 32 0) hL hf (BOUT.nil rfl) (hco.fr f1 (by decide)) (by simp)
  rw [List.nil_append] at w2
  have f2 : FR [18, 21] [32] τ τ2 := f1.tr (w3.mono (by decide) (by decide))
  have hb2 : BTS T q τ2 := hb.fr f2 (by decide) (by decide)
  have h21 : ∀ j, j < O.length → τ2 21 j = nI (O.getD j 0) := fun j hj => by
    rw [w3.1 21 (by decide) (by decide)]
    exact a2 j hj
  have h35' : up τ1 0 32 0 0 35 = nI (cB n g) := (f1.2 35 (by decide)).trans h35
  have u : X10_isWritten (nI p) (nI f) τ = if τ2 0 32 = τ2 0 4 - nI p then X10_isWritten_71 (nI p) (nI f) FU (nI O.length) 1 0 τ2 else X10_isWritten_71 (nI p) (nI f) FU (nI O.length) 0 0 τ2 := by
    unfold X10_isWritten
    simp only [lt]
    rw [hO.2.1]
    have a3' : X10_isWritten_8 (nI p) (nI f) FU (nI O.length) 0 τ = _ := a3
    rw [a3']
    unfold X10_isWritten_8
    rw [if_pos (nI_le (Nat.le_refl _) (by have := hO.1; omega))]
    simp only [lt]
    rw [h35', w1, bd_s]
  have fin120 : ∀ r : Int32, (r = 0 ∨ r = 1) → ∃ τ3, X10_isWritten_120 (nI p) (nI f) FU (nI O.length) r 0 τ2 = some (r, τ3) ∧ BOUT O τ3 ∧ FR [18, 21] [32] τ τ3 := fun r hr => by
    obtain ⟨τ3, c1, c2, c3⟩ := x10_w120 (a1 := nI p) (a2 := nI f) hO.1 hO.2.2.2 hr O.length 0 FU τ2 (by omega) (by have := hO.1; unfold FU; omega) (fun j hj => absurd hj (by omega)) h21
    exact ⟨τ3, c1, c2, f2.tr (c3.mono (by decide) (by decide))⟩
  rw [u, w2.2.1, hb2.2.1, pk_sub hpq]
  by_cases hl : q - p = (wlab f n g).length
  · rw [if_pos (by rw [hl])]
    obtain ⟨r, r0, r1, r2, r3⟩ := x10_w71 (a2 := nI f) (x3 := nI O.length) hT hB hb2 w2 hl hpq hq (wlab f n g).length 0 FU (by omega) (by unfold FU; omega)
    obtain ⟨τ3, c1, c2, c3⟩ := fin120 r r0
    have r1' : X10_isWritten_71 (nI p) (nI f) FU (nI O.length) 1 0 τ2 = _ := r1
    rw [r1']
    exact ⟨r, τ3, c1, r0, c2, c3, fun z => r2 fun j _ h2 => z.2 j h2, fun z => r3 fun z2 => z ⟨hl, fun j h2 => z2 j (Nat.zero_le _) h2⟩⟩
  · rw [if_neg (fun z => hl ((nI_eq (by omega) (by omega)).mp z).symm)]
    obtain ⟨m, hm⟩ := FU_pos 1 (by omega)
    obtain ⟨τ3, c1, c2, c3⟩ := fin120 0 (Or.inl rfl)
    have z71 : X10_isWritten_71 (nI p) (nI f) FU (nI O.length) 0 0 τ2 = X10_isWritten_120 (nI p) (nI f) FU (nI O.length) 0 0 τ2 := by
      conv => lhs; rw [hm]
      exact x10_w71z
    rw [z71]
    exact ⟨0, τ3, c1, Or.inl rfl, c2, c3, fun z => absurd z.1 hl, fun _ => rfl⟩
