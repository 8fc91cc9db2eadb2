/-! own words: pure part: what bears a citation -/
/-- the class's and the reference's paths -/
def PTH (kk : Nat) (px py : Nat → Nat) (σ τ : Mem) : Prop := ∀ j, j < kk → LRN (px j) (py j) ∧ σ 31 j = nI (px j) ∧ τ 22 j = nI (py j)
theorem x9_bp {L n R : Nat} {lv ur cm st od px : Nat → Nat} {H : List C4} {dy k : Nat} {on : Int32} {σ : Mem} (wi : WIT L n lv ur st od) (hL : L ≤ 4) (wh : WH H dy) (wd : dy ≤ 9999) (hk : k < n) (c4 : CIT n lv ur cm st od (mp σ [15, 16, 17, 18, 19, 20])) (c5 : CHI (cmpH H) R (mp σ [21, 22, 23, 24, 25, 26, 32])) (hp : ∀ j, j < lv k + 1 → σ 31 j = nI (px j) ∧ px j < 2 ^ 31) :
    ∃ v, X9_bearsPath (nI k) on σ = some v ∧ ((∀ j, j < lv k + 1 → rlA H (an ur k (lv k - j)) on = px j) → v = 1) ∧ (¬ (∀ j, j < lv k + 1 → rlA H (an ur k (lv k - j)) on = px j) → v = 0) := by
  have h80 := wi.1
  have hlk := (wi.2.1 k hk).1
  have hs1 : σ 16 k = nI (lv k) := (c4.2.2.1 k hk).1
  have key : ∀ (l m : Nat) (x3 : Int32), l ≤ lv k + 1 → l < m → (0 < l → x3 = nI (an ur k (lv k + 1 - l))) → ∃ v, X9_bearsPath_13 (nI k) on σ m x3 (nI l - 1) = some v ∧ ((∀ j, j < l → rlA H (an ur k (lv k - j)) on = px j) → v = 1) ∧ (¬ (∀ j, j < l → rlA H (an ur k (lv k - j)) on = px j) → v = 0) := by
    intro l
    induction l with
    | zero =>
      intro m x3 hl hm hx
      obtain ⟨m, rfl⟩ : ∃ z, m = z + 1 := ⟨m - 1, by omega⟩
      refine ⟨1, ?_, fun _ => rfl, fun z => absurd (fun j h => absurd h (by omega)) z⟩
      unfold X9_bearsPath_13
      rw [if_pos (by decide)]
    | succ l ih =>
      intro m x3 hl hm hx
      obtain ⟨m, rfl⟩ : ∃ z, m = z + 1 := ⟨m - 1, by omega⟩
      have hx3 := hx (by omega)
      rw [show lv k + 1 - (l + 1) = lv k - l by omega] at hx3
      subst hx3
      obtain ⟨i1, i2, i3⟩ := an_ok wi hk (lv k - l) (by omega)
      have has := has_k c4 h80 i1
      have hao : X2_asOf (nI (an ur k (lv k - l))) on (mp σ [21, 22, 23, 24, 25, 26, 32]) = some (nI (rlA H (an ur k (lv k - l)) on)) := by
        rw [x2_asOf c5 (by omega) on, cmp_rl (show dy < 2 ^ 31 by omega) wh]
      have hxb := (rl_LRN (k := an ur k (lv k - l)) (on := on) wh).b.1
      have hun : σ 17 (an ur k (lv k - l)) = eU (ur (an ur k (lv k - l))) := (c4.2.2.1 _ i1).2.1
      obtain ⟨hp1, hp2⟩ := hp l (by omega)
      rw [nI_pred]
      unfold X9_bearsPath_13
      rw [if_neg (nI_pos (by omega)), has, bd_s, if_neg (show ¬ (1 : Int32) = 0 by decide), hao, bd_s, gd_i (vp_in_nI (by omega) (by omega)), gd_i (vp_in_nI (by omega) (by omega)), nI_clamp (show l < 2 ^ 31 by omega), nI_clamp (show an ur k (lv k - l) < 2 ^ 31 by omega), hp1, hun]
      simp only [lt]
      rw [i32_sub]
      by_cases he : rlA H (an ur k (lv k - l)) on = px l
      · rw [if_pos (by rw [he])]
        obtain ⟨v, g1, g2, g3⟩ := ih m (eU (ur (an ur k (lv k - l)))) (by omega) (by omega) (fun hl0 => by
          rw [i3 (by omega), show lv k + 1 - l = lv k - l + 1 by omega]
          rfl)
        refine ⟨v, g1, fun z => g2 fun j hj => z j (by omega), fun z => g3 fun z2 => z fun j hj => ?_⟩
        rcases Nat.lt_or_ge j l with q | q
        · exact z2 j q
        · rw [show j = l by omega]
          exact he
      · rw [if_neg (fun z => he ((nI_eq hxb hp2).mp z))]
        exact ⟨0, rfl, fun z => absurd (z l (by omega)) he, fun _ => rfl⟩
  obtain ⟨v, g1, g2, g3⟩ := key (lv k + 1) FU (nI k) (by omega) (by unfold FU; omega) (fun _ => by rw [Nat.sub_self]; rfl)
  refine ⟨v, ?_, g2, g3⟩
  unfold X9_bearsPath
  rw [gd_i (vp_in_nI (by omega) (by omega)), nI_clamp (by omega), hs1]
  rw [nI_pred] at g1
  exact g1
theorem x10_105 {L n : Nat} {lv ur cm st od py : Nat → Nat} {H : List C4} {dy k : Nat} {on x3 x4 : Int32} {τ : Mem} {k64 : Int32 → Int32 → Int32 → Mem → Option (Int32 × Mem)} (wi : WIT L n lv ur st od) (hL : L ≤ 4) (wh : WH H dy) (hHl : H.length ≤ 50000) (hk : k < n) (b4 : BIT n lv ur cm st od τ) (b5 : BHI H τ) (hp : ∀ j, j < lv k + 1 → τ 22 j = nI (py j) ∧ py j < 2 ^ 31) :
    ∃ v, X10_cite_105 on k64 FU (nI (lv k + 1)) x3 x4 (nI k) 1 0 τ = X10_cite_152 on k64 (nI (lv k + 1)) x3 x4 (nI k) v τ ∧ ((∀ j, j < lv k + 1 → rlB H (an ur k (lv k - j)) on = py j) → v = 1) ∧ (¬ (∀ j, j < lv k + 1 → rlB H (an ur k (lv k - j)) on = py j) → v = 0) := by
  have h80 := wi.1
  have hlk := (wi.2.1 k hk).1
  have zero : ∀ (m : Nat) (x7 : Int32), X10_cite_105 on k64 (m + 1) (nI (lv k + 1)) x3 x4 (nI k) 0 x7 τ = X10_cite_152 on k64 (nI (lv k + 1)) x3 x4 (nI k) 0 τ := fun m x7 => by
    unfold X10_cite_105
    split
    · rfl
    · exact if_pos rfl
  have key : ∀ (d l m : Nat), l + d = lv k + 1 → d < m → ∃ v, X10_cite_105 on k64 m (nI (lv k + 1)) x3 x4 (nI k) 1 (nI l) τ = X10_cite_152 on k64 (nI (lv k + 1)) x3 x4 (nI k) v τ ∧ ((∀ j, l ≤ j → j < lv k + 1 → rlB H (an ur k (lv k - j)) on = py j) → v = 1) ∧ (¬ (∀ j, l ≤ j → j < lv k + 1 → rlB H (an ur k (lv k - j)) on = py j) → v = 0) := by
    intro d
    induction d with
    | zero =>
      intro l m hl hm
      obtain ⟨m, rfl⟩ : ∃ z, m = z + 1 := ⟨m - 1, by omega⟩
      refine ⟨1, ?_, fun _ => rfl, fun z => absurd (fun j h1 h2 => by omega) z⟩
      unfold X10_cite_105
      rw [if_pos (nI_le (by omega) (by omega))]
    | succ d ih =>
      intro l m hl hm
      obtain ⟨m, rfl⟩ : ∃ z, m = z + 1 := ⟨m - 1, by omega⟩
      have hanc := (an_ok wi hk (lv k - l) (by omega)).1
      have hlab := x10_labelOf b5 wh.k80 hHl (k := an ur k (lv k - l)) (by omega) on
      have hyb := (rl_LRN (k := an ur k (lv k - l)) (on := on) wh).b.2
      obtain ⟨hp1, hp2⟩ := hp l (by omega)
      have u : X10_cite_105 on k64 (m + 1) (nI (lv k + 1)) x3 x4 (nI k) 1 (nI l) τ = if nI (rlB H (an ur k (lv k - l)) on) = nI (py l) then X10_cite_105 on k64 m (nI (lv k + 1)) x3 x4 (nI k) 1 (nI (l + 1)) τ else X10_cite_105 on k64 m (nI (lv k + 1)) x3 x4 (nI k) 0 (nI (l + 1)) τ := by
        conv => lhs; unfold X10_cite_105
        rw [if_neg (nI_ge (by omega) (by omega)), if_neg (show ¬ (1 : Int32) = 0 by decide), x10_over b4 wi hL hk (by omega), bd_s, hlab, bd_s, gd_i (vp_in_nI (by omega) (by omega)), nI_clamp (by omega), hp1]
        simp only [lt]
        rw [nI_1]
      rw [u]
      by_cases he : rlB H (an ur k (lv k - l)) on = py l
      · rw [if_pos (by rw [he])]
        obtain ⟨v, g1, g2, g3⟩ := ih (l + 1) m (by omega) (by omega)
        refine ⟨v, g1, fun z => g2 fun j h1 h2 => z j (by omega) h2, fun z => g3 fun z2 => z fun j h1 h2 => ?_⟩
        rcases Nat.lt_or_ge l j with q | q
        · exact z2 j q h2
        · rw [show j = l by omega]
          exact he
      · obtain ⟨m, rfl⟩ : ∃ z, m = z + 1 := ⟨m - 1, by omega⟩
        rw [if_neg (fun z => he ((nI_eq (by omega) hp2).mp z)), zero]
        exact ⟨0, rfl, fun z => absurd (z l (Nat.le_refl _) (by omega)) he, fun _ => rfl⟩
  obtain ⟨v, g1, g2, g3⟩ := key (lv k + 1) 0 FU (by omega) (by unfold FU; omega)
  exact ⟨v, g1, fun z => g2 fun j _ h2 => z j h2, fun z => g3 fun z2 => z fun j h2 => z2 j (Nat.zero_le _) h2⟩
theorem cite_loop {L n R K : Nat} {lv ur cm st od px py : Nat → Nat} {H : List C4} {dy : Nat} {on : Int32} (wi : WIT L n lv ur st od) (hL : L ≤ 4) (hK : K < L) (wh : WH H dy) (wd : dy ≤ 9999) (hHl : H.length ≤ 50000) : ∀ (d p m m' : Nat) (x3 : Int32) (σ τ : Mem), p + d = n → d < m → d < m' → (x3 = -1 ∨ ∃ j, j < 80 ∧ x3 = nI j) → CIT n lv ur cm st od (mp σ [15, 16, 17, 18, 19, 20]) → CHI (cmpH H) R (mp σ [21, 22, 23, 24, 25, 26, 32]) → BIT n lv ur cm st od τ → BHI H τ → PTH (K + 1) px py σ τ → σ 0 13 = τ 0 40 →
    ∃ v σ1 τ1, X9_cite_58 on m (nI (K + 1)) x3 (nI p) σ = some (v, σ1) ∧ X10_cite_64 on m' (nI (K + 1)) x3 (nI p) τ = some (v, τ1) ∧ FR [] [13] σ σ1 ∧ FR [] [40] τ τ1 ∧ σ1 0 13 = τ1 0 40 := by
  have h80 := wi.1
  intro d
  induction d with
  | zero =>
    intro p m m' x3 σ τ hp hm hm' hx c4 c5 b4 b5 hP h13
    obtain ⟨m, rfl⟩ : ∃ z, m = z + 1 := ⟨m - 1, by omega⟩
    obtain ⟨m', rfl⟩ : ∃ z, m' = z + 1 := ⟨m' - 1, by omega⟩
    have hn : σ 15 5 = nI n := c4.1
    refine ⟨x3, σ, τ, ?_, ?_, FR.rf, FR.rf, h13⟩
    · unfold X9_cite_58
      rw [hn, if_pos (nI_le (by omega) (by omega))]
    · unfold X10_cite_64
      rw [b4.1, if_pos (nI_le (by omega) (by omega))]
  | succ d ih =>
    intro p m m' x3 σ τ hp hm hm' hx c4 c5 b4 b5 hP h13
    obtain ⟨m, rfl⟩ : ∃ z, m = z + 1 := ⟨m - 1, by omega⟩
    obtain ⟨m', rfl⟩ : ∃ z, m' = z + 1 := ⟨m' - 1, by omega⟩
    have hn : σ 15 5 = nI n := c4.1
    have hkn := wi.2.2.1 p (by omega)
    have ho9 : σ 20 p = nI (od p) := c4.2.2.2 p (by omega)
    have ho10 : τ 9 p = nI (od p) := b4.2.2 p (by omega)
    generalize od p = k at hkn ho9 ho10
    have hlk := (wi.2.1 k hkn).1
    have hs1 : σ 16 k = nI (lv k) := (c4.2.2.1 k hkn).1
    have ht1 : τ 6 k = nI (lv k) := (b4.2.1 k hkn).1
    have next0 := ih (p + 1) m m' x3 σ τ (by omega) (by omega) (by omega) hx c4 c5 b4 b5 hP h13
    have fs : FR [] [13] σ (up σ 0 13 (σ 0 13 + 1)) := FR.rf.fld (by decide)
    have ft : FR [] [40] τ (up τ 0 40 (τ 0 40 + 1)) := FR.rf.fld (by decide)
    have next1 : ∀ y3, (y3 = -1 ∨ ∃ j, j < 80 ∧ y3 = nI j) → ∃ v σ1 τ1, X9_cite_58 on m (nI (K + 1)) y3 (nI (p + 1)) (up σ 0 13 (σ 0 13 + 1)) = some (v, σ1) ∧ X10_cite_64 on m' (nI (K + 1)) y3 (nI (p + 1)) (up τ 0 40 (τ 0 40 + 1)) = some (v, τ1) ∧ FR [] [13] σ σ1 ∧ FR [] [40] τ τ1 ∧ σ1 0 13 = τ1 0 40 := fun y3 hy => by
      obtain ⟨v, σ1, τ1, g1, g2, g3, g4, g5⟩ := ih (p + 1) m m' y3 (up σ 0 13 (σ 0 13 + 1)) (up τ 0 40 (τ 0 40 + 1)) (by omega) (by omega) (by omega) hy c4 (c5.eq rfl rfl rfl rfl rfl rfl rfl) (b4.fr ft (by decide) (by decide)) (b5.fr ft (by decide) (by decide)) hP (by show σ 0 13 + 1 = τ 0 40 + 1; rw [h13])
      exact ⟨v, σ1, τ1, g1, g2, fs.tr g3, ft.tr g4, g5⟩
    have u9 : X9_cite_58 on (m + 1) (nI (K + 1)) x3 (nI p) σ = if nI (lv k) = nI K then bd (X9_bearsPath (nI k) on σ) fun r7 => if r7 = 0 then X9_cite_58 on m (nI (K + 1)) x3 (nI (p + 1)) σ else if x3 = -1 then X9_cite_58 on m (nI (K + 1)) (nI k) (nI (p + 1)) (up σ 0 13 (σ 0 13 + 1)) else X9_cite_58 on m (nI (K + 1)) x3 (nI (p + 1)) (up σ 0 13 (σ 0 13 + 1)) else X9_cite_58 on m (nI (K + 1)) x3 (nI (p + 1)) σ := by
      conv => lhs; unfold X9_cite_58
      rw [hn, if_neg (nI_ge (by omega) (by omega)), gd_i (vp_in_nI (by omega) (by omega)), nI_clamp (by omega), ho9]
      simp only [lt]
      rw [gd_i (vp_in_nI (by omega) (by omega)), nI_clamp (by omega), hs1, i32_m1, nI_1]
    have u10 : X10_cite_64 on (m' + 1) (nI (K + 1)) x3 (nI p) τ = if nI (lv k) = nI K then X10_cite_105 on (X10_cite_64 on m') FU (nI (K + 1)) x3 (nI p) (nI k) 1 0 τ else X10_cite_105 on (X10_cite_64 on m') FU (nI (K + 1)) x3 (nI p) (nI k) 0 0 τ := by
      conv => lhs; unfold X10_cite_64
      rw [b4.1, if_neg (nI_ge (by omega) (by omega)), gd_i (vp_in_nI (by omega) (by omega)), nI_clamp (by omega), ho10]
      simp only [lt]
      rw [gd_i (vp_in_nI (by omega) (by omega)), nI_clamp (by omega), ht1, i32_m1]
    have v0 : ∀ (v : Int32), v = 0 → X10_cite_152 on (X10_cite_64 on m') (nI (K + 1)) x3 (nI p) (nI k) v τ = X10_cite_64 on m' (nI (K + 1)) x3 (nI (p + 1)) τ := fun v hv => by
      unfold X10_cite_152
      rw [if_pos hv]
      simp only [lt]
      rw [nI_1]
    rw [u9, u10]
    by_cases hl : lv k = K
    · rw [if_pos (show nI (lv k) = nI K by rw [hl]), if_pos (show nI (lv k) = nI K by rw [hl])]
      subst hl
      obtain ⟨v, g1, g2, g3⟩ := x9_bp (k := k) (on := on) (px := px) wi hL wh wd hkn c4 c5 (fun j hj => ⟨(hP j hj).2.1, (hP j hj).1.b.1⟩)
      obtain ⟨v', j1, j2, j3⟩ := x10_105 (k := k) (on := on) (py := py) (x3 := x3) (x4 := nI p) (k64 := X10_cite_64 on m') wi hL wh hHl hkn b4 b5 (fun j hj => ⟨(hP j hj).2.2, by have := (hP j hj).1.b.2; omega⟩)
      rw [g1, bd_s, j1]
      have iff1 : (∀ j, j < lv k + 1 → rlA H (an ur k (lv k - j)) on = px j) ↔ (∀ j, j < lv k + 1 → rlB H (an ur k (lv k - j)) on = py j) :=
        ⟨fun z j hj => ((rl_LRN wh).eq (hP j hj).1).mp (z j hj), fun z j hj => ((rl_LRN wh).eq (hP j hj).1).mpr (z j hj)⟩
      by_cases hall : ∀ j, j < lv k + 1 → rlA H (an ur k (lv k - j)) on = px j
      · rw [if_neg (show ¬ v = 0 by rw [g2 hall]; decide)]
        have u152 : X10_cite_152 on (X10_cite_64 on m') (nI (lv k + 1)) x3 (nI p) (nI k) v' τ = if 0 ≤ x3 then X10_cite_64 on m' (nI (lv k + 1)) x3 (nI (p + 1)) (up τ 0 40 (τ 0 40 + 1)) else X10_cite_64 on m' (nI (lv k + 1)) (nI k) (nI (p + 1)) (up τ 0 40 (τ 0 40 + 1)) := by
          unfold X10_cite_152
          rw [if_neg (show ¬ v' = 0 by rw [j2 (iff1.mp hall)]; decide)]
          simp only [lt]
          rw [nI_1]
        rw [u152]
        rcases hx with rfl | ⟨j, hj, rfl⟩
        · rw [if_pos rfl, if_neg (show ¬ (0 : Int32) ≤ -1 by decide)]
          exact next1 (nI k) (Or.inr ⟨k, by omega, rfl⟩)
        · have hne : ¬ nI j = -1 := fun z => nI_pos (n := j) (by omega) (by rw [z]; decide)
          rw [if_neg hne, if_pos (nI_pos' (by omega))]
          exact next1 (nI j) (Or.inr ⟨j, hj, rfl⟩)
      · rw [if_pos (g3 hall), v0 v' (j3 (fun z => hall (iff1.mpr z)))]
        exact next0
    · have hne : ¬ nI (lv k) = nI K := fun z => hl ((nI_eq (by omega) (by omega)).mp z)
      rw [if_neg hne, if_neg hne]
      have z105 : X10_cite_105 on (X10_cite_64 on m') FU (nI (K + 1)) x3 (nI p) (nI k) 0 0 τ = X10_cite_152 on (X10_cite_64 on m') (nI (K + 1)) x3 (nI p) (nI k) 0 τ := by
        obtain ⟨z, hz⟩ := FU_pos 1 (by omega)
        rw [hz]
        unfold X10_cite_105
        split
        · rfl
        · exact if_pos rfl
      rw [z105, v0 0 rfl]
      exact next0
