/-! own words: pure part: the nearest label of a row; clash -/
def ahA (H : List C4) (lv ur od : Nat → Nat) (l t u : Nat) : Nat → Nat
  | 0 => 0
  | q + 1 => if (lv (od q) = l ∧ (t ≠ 0 ∨ ur (od q) = u)) ∧ latA H (od q) ≠ 0 then latA H (od q) else ahA H lv ur od l t u q
def ahB (H : List C4) (dy : Nat) (lv ur od : Nat → Nat) (l t u : Nat) : Nat → Nat
  | 0 => 0
  | q + 1 => if (lv (od q) = l ∧ (t ≠ 0 ∨ ur (od q) = u)) ∧ rlB H (od q) (nI dy) ≠ 0 then rlB H (od q) (nI dy) else ahB H dy lv ur od l t u q
def frA (H : List C4) (lv ur od : Nat → Nat) (l t u : Nat) : Nat → Nat → Nat
  | 0, _ => 0
  | d + 1, q => if (lv (od q) = l ∧ (t ≠ 0 ∨ ur (od q) = u)) ∧ latA H (od q) ≠ 0 then latA H (od q) else frA H lv ur od l t u d (q + 1)
def frB (H : List C4) (dy : Nat) (lv ur od : Nat → Nat) (l t u : Nat) : Nat → Nat → Nat
  | 0, _ => 0
  | d + 1, q => if (lv (od q) = l ∧ (t ≠ 0 ∨ ur (od q) = u)) ∧ rlB H (od q) (nI dy) ≠ 0 then rlB H (od q) (nI dy) else frB H dy lv ur od l t u d (q + 1)
theorem ah_LRN {H : List C4} {dy : Nat} {lv ur od : Nat → Nat} {l t u : Nat} (hd : dy < 2 ^ 31) (wh : WH H dy) : ∀ q, LRN (ahA H lv ur od l t u q) (ahB H dy lv ur od l t u q) := by
  intro q
  induction q with
  | zero => exact Or.inl ⟨rfl, rfl⟩
  | succ q ih =>
    have hl := lat_lt (k := od q) hd wh
    have hz := hl.z
    unfold ahA ahB
    by_cases h : (lv (od q) = l ∧ (t ≠ 0 ∨ ur (od q) = u)) ∧ latA H (od q) ≠ 0
    · rw [if_pos h, if_pos ⟨h.1, fun z => h.2 (hz.mpr z)⟩]
      exact hl
    · rw [if_neg h, if_neg (fun z => h ⟨z.1, fun y => z.2 (hz.mp y)⟩)]
      exact ih
theorem fr_LRN {H : List C4} {dy : Nat} {lv ur od : Nat → Nat} {l t u : Nat} (hd : dy < 2 ^ 31) (wh : WH H dy) : ∀ d q, LRN (frA H lv ur od l t u d q) (frB H dy lv ur od l t u d q) := by
  intro d
  induction d with
  | zero => exact fun _ => Or.inl ⟨rfl, rfl⟩
  | succ d ih =>
    intro q
    have hl := lat_lt (k := od q) hd wh
    have hz := hl.z
    unfold frA frB
    by_cases h : (lv (od q) = l ∧ (t ≠ 0 ∨ ur (od q) = u)) ∧ latA H (od q) ≠ 0
    · rw [if_pos h, if_pos ⟨h.1, fun z => h.2 (hz.mpr z)⟩]
      exact hl
    · rw [if_neg h, if_neg (fun z => h ⟨z.1, fun y => z.2 (hz.mp y)⟩)]
      exact ih _
theorem x9_ahead {n L : Nat} {lv ur cm st od : Nat → Nat} {H : List C4} {R dy : Nat} {σ : Mem} (c4 : CIT n lv ur cm st od (mp σ [15, 16, 17, 18, 19, 20])) (c5 : CHI (cmpH H) R (mp σ [21, 22, 23, 24, 25, 26, 32])) (hw : WIT L n lv ur st od) (hL : L ≤ 4) (hd : dy < 2 ^ 31) (wh : WH H dy) {l t u : Nat} (hl : l ≤ 4) (ht : t < 2) (hu : u ≤ 80) {p : Nat} (hp : p ≤ n) : X9_labelAhead (nI p) (nI l) (eU u) (nI t) σ = some (nI (ahA H lv ur od l t u p)) := by
  have h80 := hw.1
  have key : ∀ (q m : Nat) (a1 : Int32), q ≤ n → q < m → X9_labelAhead_5 a1 (nI l) (eU u) (nI t) σ m (nI q - 1) = some (nI (ahA H lv ur od l t u q)) := by
    intro q
    induction q with
    | zero =>
      intro m a1 hq hm
      obtain ⟨m, rfl⟩ : ∃ m', m = m' + 1 := ⟨m - 1, by omega⟩
      unfold X9_labelAhead_5
      rw [if_pos (by decide)]
      rfl
    | succ q ih =>
      intro m a1 hq hm
      obtain ⟨m, rfl⟩ : ∃ m', m = m' + 1 := ⟨m - 1, by omega⟩
      have ho := hw.2.2.1 q (by omega)
      have hod : σ 20 q = nI (od q) := c4.2.2.2 q (by omega)
      have hlat := x2_latest c5 (k := od q) (by omega)
      rw [cmp_lat] at hlat
      have hlb := ((lat_lt (k := od q) hd wh).b).1
      have hi := ih m a1 (by omega) (by omega)
      rw [nI_pred]
      unfold X9_labelAhead_5 ahA
      rw [if_neg (nI_pos (by omega)), gd_i (vp_in_nI (by omega) (by omega)), nI_clamp (by omega), hod]
      simp only [lt]
      rw [x3_row (μ := mp σ [15, 16, 17, 18, 19, 20]) c4 h80 hw hL ho hl ht hu, bd_s, hlat, bd_s, bd_s, i32_sub, hi]
      by_cases h1 : lv (od q) = l ∧ (t ≠ 0 ∨ ur (od q) = u)
      · rw [if_pos h1, if_neg (show ¬ (1 : Int32) = 0 by decide)]
        by_cases h2 : latA H (od q) = 0
        · rw [if_pos (show nI (latA H (od q)) = 0 by rw [h2]; rfl), if_neg (fun z => z.2 h2)]
        · rw [if_neg (nI_ne0 (by omega) hlb), if_pos ⟨h1, h2⟩]
      · rw [if_neg h1, if_pos rfl, if_neg (fun z => h1 z.1)]
  exact key p FU (nI p) hp (by unfold FU; omega)
theorem x9_from {n L : Nat} {lv ur cm st od : Nat → Nat} {H : List C4} {R dy : Nat} {σ : Mem} (c4 : CIT n lv ur cm st od (mp σ [15, 16, 17, 18, 19, 20])) (c5 : CHI (cmpH H) R (mp σ [21, 22, 23, 24, 25, 26, 32])) (hw : WIT L n lv ur st od) (hL : L ≤ 4) (hd : dy < 2 ^ 31) (wh : WH H dy) {l t u : Nat} (hl : l ≤ 4) (ht : t < 2) (hu : u ≤ 80) {p : Nat} (hp : p ≤ n) : X9_labelFrom (nI p) (nI l) (eU u) (nI t) σ = some (nI (frA H lv ur od l t u (n - p) p)) := by
  have h80 := hw.1
  have hn : σ 15 5 = nI n := c4.1
  have key : ∀ (d q m : Nat) (a1 : Int32), q + d = n → d < m → X9_labelFrom_3 a1 (nI l) (eU u) (nI t) σ m (nI q) = some (nI (frA H lv ur od l t u d q)) := by
    intro d
    induction d with
    | zero =>
      intro q m a1 hq hm
      obtain ⟨m, rfl⟩ : ∃ m', m = m' + 1 := ⟨m - 1, by omega⟩
      unfold X9_labelFrom_3
      rw [hn, if_pos (nI_le (by omega) (by omega))]
      rfl
    | succ d ih =>
      intro q m a1 hq hm
      obtain ⟨m, rfl⟩ : ∃ m', m = m' + 1 := ⟨m - 1, by omega⟩
      have ho := hw.2.2.1 q (by omega)
      have hod : σ 20 q = nI (od q) := c4.2.2.2 q (by omega)
      have hlat := x2_latest c5 (k := od q) (by omega)
      rw [cmp_lat] at hlat
      have hlb := ((lat_lt (k := od q) hd wh).b).1
      have hi := ih (q + 1) m a1 (by omega) (by omega)
      unfold X9_labelFrom_3 frA
      rw [hn, if_neg (nI_ge (by omega) (by omega)), gd_i (vp_in_nI (by omega) (by omega)), nI_clamp (by omega), hod]
      simp only [lt]
      rw [x3_row (μ := mp σ [15, 16, 17, 18, 19, 20]) c4 h80 hw hL ho hl ht hu, bd_s, hlat, bd_s, bd_s, nI_1, hi]
      by_cases h1 : lv (od q) = l ∧ (t ≠ 0 ∨ ur (od q) = u)
      · rw [if_pos h1, if_neg (show ¬ (1 : Int32) = 0 by decide)]
        by_cases h2 : latA H (od q) = 0
        · rw [if_pos (show nI (latA H (od q)) = 0 by rw [h2]; rfl), if_neg (fun z => z.2 h2)]
        · rw [if_neg (nI_ne0 (by omega) hlb), if_pos ⟨h1, h2⟩]
      · rw [if_neg h1, if_pos rfl, if_neg (fun z => h1 z.1)]
  exact key (n - p) p FU (nI p) (by omega) (by unfold FU; omega)
theorem x10_row2 {n L : Nat} {lv ur cm st od fm th : Nat → Nat} {τ : Mem} (h : BIT n lv ur cm st od τ) (hl : BLV L fm th τ) (hwl : WLV L fm th) (hw : WIT L n lv ur st od) {a b l u : Nat} (ha : a < n) (hb : b < 80) (e3 : τ 6 b = nI l) (e4 : τ 7 b = eU u) (hlL : l < L) (hu : u ≤ 80) : X10_isInRow (nI a) (nI b) τ = some (if lv a = l ∧ (th l ≠ 0 ∨ ur a = u) then 1 else 0) := by
  obtain ⟨e1, e2, -⟩ := h.2.1 a ha
  have h80 := hw.1
  have hL := hwl.2.1
  have hla := (hw.2.1 a ha).1
  have ht := (hwl.2.2 _ hlL).2
  unfold X10_isInRow
  rw [gd_i (vp_in_nI (by omega) (by omega)), gd_i (vp_in_nI (by omega) (by omega)), nI_clamp (by omega), nI_clamp (by omega), e1, e3, gd_i (vp_in_nI (by omega) (by omega)), gd_i (vp_in_nI (show l < 4 by omega) (by omega)), nI_clamp (show l < 2 ^ 31 by omega), (hl.2 _ hlL).2, gd_i (vp_in_nI (by omega) (by omega)), gd_i (vp_in_nI (by omega) (by omega)), e2, e4]
  by_cases h1 : lv a = l
  · rw [if_pos (show nI (lv a) = nI l by rw [h1])]
    by_cases h2 : th l = 0
    · rw [if_pos (show nI (th l) = 0 by rw [h2]; rfl)]
      by_cases h3 : ur a = u
      · rw [if_pos ((eU_inj (hw.u80 ha) hu).mpr h3), if_pos ⟨h1, Or.inr h3⟩]
      · rw [if_neg (fun z => h3 ((eU_inj (hw.u80 ha) hu).mp z)), if_neg (fun z => z.2.elim (fun z => z h2) h3)]
    · rw [if_neg (nI_ne0 (by omega) (by omega)), if_pos ⟨h1, Or.inl h2⟩]
  · rw [if_neg (fun z => h1 ((nI_eq (by omega) (by omega)).mp z)), if_neg (fun z => h1 z.1)]
theorem x10_35 {n L : Nat} {lv ur cm st od fm th : Nat → Nat} {H : List C4} {dy : Nat} {τ : Mem} {k7 : Int32 → Mem → Option (Int32 × Mem)} (h : BIT n lv ur cm st od τ) (hl : BLV L fm th τ) (hwl : WLV L fm th) (hw : WIT L n lv ur st od) (b5 : BHI H τ) (b7 : τ 0 11 = nI dy) (wh : WH H dy) (hdy : dy ≤ 9999) (hHl : H.length ≤ 50000) {p x : Nat} (hp : p < n) (hx : 0 < x) (hx2 : x < 2 ^ 31) : ∀ (d j m : Nat), j + d = p → d < m → X10_clash_35 k7 m (nI p) (nI x) (nI (ahB H dy lv ur od (lv (od p)) (th (lv (od p))) (ur (od p)) j)) (nI j) τ = X10_clash_104 k7 (nI p) (nI x) (nI (ahB H dy lv ur od (lv (od p)) (th (lv (od p))) (ur (od p)) p)) τ := by
  have h80 := hw.1
  intro d
  induction d with
  | zero =>
    intro j m hj hm
    obtain ⟨m, rfl⟩ : ∃ m', m = m' + 1 := ⟨m - 1, by omega⟩
    obtain rfl : j = p := by omega
    unfold X10_clash_35
    rw [if_pos (nI_le (by omega) (by omega))]
  | succ d ih =>
    intro j m hj hm
    obtain ⟨m, rfl⟩ : ∃ m', m = m' + 1 := ⟨m - 1, by omega⟩
    have hoj := hw.2.2.1 j (by omega)
    have hop := hw.2.2.1 p hp
    have hlab := x10_labelOf b5 wh.k80 hHl (k := od j) (by omega) (nI dy)
    have hlb := ((lat_lt (k := od j) (show dy < 2 ^ 31 by omega) wh).b).2
    have hi := ih (j + 1) m (by omega) (by omega)
    have e84 : ∀ (x3 y0 z : Int32), (if y0 ≤ 0 then x3 else y0) = z → X10_clash_84 (X10_clash_35 k7 m) k7 (nI p) (nI x) x3 (nI j) y0 τ = X10_clash_35 k7 m (nI p) (nI x) z (nI (j + 1)) τ := fun x3 y0 z hz => by
      unfold X10_clash_84
      simp only [lt]
      rw [nI_1, ← hz]
      by_cases hy : y0 ≤ 0
      · rw [if_pos hy, if_pos hy]
      · rw [if_neg hy, if_neg hy]
    conv => lhs; unfold X10_clash_35
    rw [if_neg (nI_ge (by omega) (by omega)), if_neg (nI_nle hx hx2), gd_i (vp_in_nI (by omega) (by omega)), gd_i (vp_in_nI (by omega) (by omega)), nI_clamp (by omega), nI_clamp (by omega), h.2.2 j (by omega), h.2.2 p hp, x10_row h hl hwl hw hoj hop, bd_s, gd_i (vp_in_nI (by omega) (by omega)), b7, hlab, bd_s]
    have e5 : ahB H dy lv ur od (lv (od p)) (th (lv (od p))) (ur (od p)) (j + 1) = if (lv (od j) = lv (od p) ∧ (th (lv (od p)) ≠ 0 ∨ ur (od j) = ur (od p))) ∧ rlB H (od j) (nI dy) ≠ 0 then rlB H (od j) (nI dy) else ahB H dy lv ur od (lv (od p)) (th (lv (od p))) (ur (od p)) j := rfl
    by_cases h1 : lv (od j) = lv (od p) ∧ (th (lv (od p)) ≠ 0 ∨ ur (od j) = ur (od p))
    · rw [if_pos h1, if_neg (show ¬ (1 : Int32) = 0 by decide)]
      by_cases h2 : rlB H (od j) (nI dy) = 0
      · rw [e84 _ _ _ (if_pos (show nI (rlB H (od j) (nI dy)) ≤ 0 by rw [h2]; decide))]
        rw [e5, if_neg (fun z => z.2 h2)] at hi
        exact hi
      · rw [e84 _ _ _ (if_neg (nI_nle (by omega) (by omega)))]
        rw [e5, if_pos ⟨h1, h2⟩] at hi
        exact hi
    · rw [if_neg h1, if_pos rfl, e84 _ _ _ (if_pos (by decide))]
      rw [e5, if_neg (fun z => h1 z.1)] at hi
      exact hi
theorem pu_clash : PU_clash Rel0 := by
  intro i σ τ w κ hi h
  have h' := h
  obtain ⟨T, O, L, fm, th, dy, n, lv, ur, cm, st, od, H, R, A, c, r, s4, hw⟩ := h
  obtain ⟨c1, c2, c3, c4, c5, c6, c7⟩ := c
  obtain ⟨b1, b2, b3, b4, b5, b6, b7, b8⟩ := r.th (v := 0)
  obtain ⟨wl, wi, wh, wd, wa, wn, wk⟩ := hw
  have h80 := wi.1
  have hL := wl.2.1
  have hn : σ 15 5 = nI n := c4.1
  have key : ∀ (d p m m' : Nat), p + d = n → d < m → d < m' → ∃ v, X9_clash_2 σ m (nI p) = some v ∧ X10_clash_7 m' (nI p) (Mem0 τ 0) = some (v, Mem0 τ 0) := by
    intro d
    induction d with
    | zero =>
      intro p m m' hp hm hm'
      obtain ⟨m, rfl⟩ : ∃ z, m = z + 1 := ⟨m - 1, by omega⟩
      obtain ⟨m', rfl⟩ : ∃ z, m' = z + 1 := ⟨m' - 1, by omega⟩
      refine ⟨-1, ?_, ?_⟩
      · unfold X9_clash_2
        rw [hn, if_pos (nI_le (by omega) (by omega))]
      · unfold X10_clash_7
        rw [b4.1, if_pos (nI_le (by omega) (by omega))]
    | succ d ih =>
      intro p m m' hp hm hm'
      obtain ⟨m, rfl⟩ : ∃ z, m = z + 1 := ⟨m - 1, by omega⟩
      obtain ⟨m', rfl⟩ : ∃ z, m' = z + 1 := ⟨m' - 1, by omega⟩
      obtain ⟨v, i1, i2⟩ := ih (p + 1) m m' (by omega) (by omega) (by omega)
      have ho := wi.2.2.1 p (by omega)
      have hod : σ 20 p = nI (od p) := c4.2.2.2 p (by omega)
      have hs1 : σ 16 (od p) = nI (lv (od p)) := (c4.2.2.1 _ ho).1
      have hs2 : σ 17 (od p) = eU (ur (od p)) := (c4.2.2.1 _ ho).2.1
      have hlk := (wi.2.1 _ ho).1
      have htk := (wl.2.2 _ hlk).2
      have hlat := x2_latest c5 (k := od p) (by omega)
      rw [cmp_lat] at hlat
      have hLR := lat_lt (k := od p) (show dy < 2 ^ 31 by omega) wh
      have hAR := ah_LRN (lv := lv) (ur := ur) (od := od) (l := lv (od p)) (t := th (lv (od p))) (u := ur (od p)) (show dy < 2 ^ 31 by omega) wh p
      have hz := hLR.z
      have hb := hLR.b
      have hab := hAR.b
      have hlt := hAR.lt hLR
      have hah := x9_ahead c4 c5 wi hL (show dy < 2 ^ 31 by omega) wh (show lv (od p) ≤ 4 by omega) htk (wi.u80 ho) (show p ≤ n by omega)
      have hlab := x10_labelOf b5 wh.k80 (show H.length ≤ 50000 by omega) (k := od p) (by omega) (nI dy)
      have u9 : X9_clash_2 σ (m + 1) (nI p) = if nI (latA H (od p)) = 0 then X9_clash_2 σ m (nI (p + 1)) else if nI (ahA H lv ur od (lv (od p)) (th (lv (od p))) (ur (od p)) p) < nI (latA H (od p)) then X9_clash_2 σ m (nI (p + 1)) else some (nI (od p)) := by
        conv => lhs; unfold X9_clash_2
        rw [hn, if_neg (nI_ge (by omega) (by omega)), gd_i (vp_in_nI (by omega) (by omega)), nI_clamp (by omega), hod]
        simp only [lt]
        rw [gd_i (vp_in_nI (by omega) (by omega)), nI_clamp (by omega), hs1, hlat, bd_s, gd_i (vp_in_nI (by omega) (by omega)), hs2, x6_thr c3 wl hlk, bd_s, hah, bd_s, nI_1]
      have u10 : X10_clash_7 (m' + 1) (nI p) (Mem0 τ 0) = X10_clash_35 (X10_clash_7 m') FU (nI p) (nI (rlB H (od p) (nI dy))) (nI 0) (nI 0) (Mem0 τ 0) := by
        conv => lhs; unfold X10_clash_7
        rw [b4.1, if_neg (nI_ge (by omega) (by omega)), gd_i (vp_in_nI (by omega) (by omega)), nI_clamp (by omega), b4.2.2 p (by omega), b7, hlab, bd_s]
        rfl
      rw [u9, u10]
      by_cases h0 : latA H (od p) = 0
      · refine ⟨v, by rw [if_pos (show nI (latA H (od p)) = 0 by rw [h0]; rfl)]; exact i1, ?_⟩
        have h0' := hz.mp h0
        have e104 : ∀ x3 : Int32, X10_clash_104 (X10_clash_7 m') (nI p) (nI (rlB H (od p) (nI dy))) x3 (Mem0 τ 0) = some (v, Mem0 τ 0) := fun x3 => by
          unfold X10_clash_104
          rw [if_pos (show nI (rlB H (od p) (nI dy)) ≤ 0 by rw [h0']; decide)]
          simp only [lt]
          rw [nI_1]
          exact i2
        obtain ⟨mf, hmf⟩ : ∃ mf, FU = mf + 1 := ⟨999999, rfl⟩
        rw [hmf]
        unfold X10_clash_35
        rw [e104]
        by_cases hp0 : nI p ≤ nI 0
        · rw [if_pos hp0]
        · rw [if_neg hp0, if_pos (show nI (rlB H (od p) (nI dy)) ≤ 0 by rw [h0']; decide)]
      · have h0' : 0 < rlB H (od p) (nI dy) := by omega
        have e35 := x10_35 (k7 := X10_clash_7 m') (cm := cm) b4 b3 wl wi b5 b7 wh wd (show H.length ≤ 50000 by omega) (show p < n by omega) h0' (by omega) p 0 FU (by omega) (by unfold FU; omega)
        rw [show ahB H dy lv ur od (lv (od p)) (th (lv (od p))) (ur (od p)) 0 = 0 from rfl] at e35
        rw [if_neg (nI_ne0 (by omega) (by omega)), e35]
        unfold X10_clash_104
        rw [if_neg (nI_nle h0' (by omega))]
        by_cases h2 : ahA H lv ur od (lv (od p)) (th (lv (od p))) (ur (od p)) p < latA H (od p)
        · rw [if_pos (nI_lt h2 (by omega)), if_pos (nI_lt (hlt.mp h2) (by omega))]
          simp only [lt]
          rw [nI_1]
          exact ⟨v, i1, i2⟩
        · rw [if_neg (nI_nlt (by omega) (by omega)), if_neg (nI_nlt (by have := mt hlt.mpr h2; omega) (by omega)), gd_i (vp_in_nI (by omega) (by omega)), nI_clamp (by omega), b4.2.2 p (by omega)]
          exact ⟨_, rfl, rfl⟩
  obtain ⟨v, e1, e2⟩ := key n 0 FU FU (by omega) (by unfold FU; omega) (by unfold FU; omega)
  exact ⟨v, Mem0 τ 0, e1, e2, h'.th⟩
