/-! own words: pure part: levels read on both sides -/
def LVC (k : Nat) (μ τ : Mem) : Prop := ∀ j, j < k → ∃ f t, f < 4 ∧ t < 2 ∧ μ 2 j = nI f ∧ μ 3 j = nI t ∧ τ 3 j = nI f ∧ τ 5 j = nI t
def LRES (μ τ : Mem) (a : Option Mem) (b : Option (Int32 × Mem × Int64)) : Prop := ∃ μ1 v τ1 w1, a = some μ1 ∧ b = some (v, τ1, w1) ∧ μ1 4 = μ 4 ∧ μ1 5 = μ 5 ∧ FR [3, 5] [4, 10, 12, 13, 15] τ τ1 ∧
  ((v = 1 ∧ μ1 0 0 = 0 ∧ μ1 0 1 = μ 0 1 ∧ τ1 0 12 = τ 0 12 ∧ τ1 0 13 = τ 0 13 ∧ ∃ k, 1 ≤ k ∧ k ≤ 4 ∧ μ1 1 2 = nI k ∧ τ1 0 10 = nI k ∧ LVC k μ1 τ1) ∨
   (v = 0 ∧ ∃ kd z, 1 ≤ kd ∧ kd ≤ 3 ∧ z ≤ 200 ∧ μ1 0 0 = nI kd ∧ μ1 0 1 = nI z ∧ τ1 0 12 = nI kd ∧ τ1 0 13 = nI z))
theorem LRES.step {μ μ' τ τ' : Mem} {a : Option Mem} {b : Option (Int32 × Mem × Int64)} (h : LRES μ' τ' a b) (h4 : μ' 4 = μ 4) (h5 : μ' 5 = μ 5) (h01 : μ' 0 1 = μ 0 1) (f : FR [3, 5] [4, 10, 15] τ τ') : LRES μ τ a b := by
  obtain ⟨μ1, v, τ1, w1, e1, e2, e3, e4, e5, e6⟩ := h
  refine ⟨μ1, v, τ1, w1, e1, e2, e3.trans h4, e4.trans h5, (f.mono (fun _ z => z) (by decide)).tr e5, ?_⟩
  rcases e6 with ⟨g1, g2, g3, g4, g5, g6⟩ | g
  · exact Or.inl ⟨g1, g2, g3.trans h01, g4.trans (f.2 12 (by decide)), g5.trans (f.2 13 (by decide)), g6⟩
  · exact Or.inr g
theorem lres_bad {μ τ σ μ1 : Mem} {a : Option Mem} {b : Option (Int32 × Mem × Int64)} {kd s : Nat} {w : Int64} (ha : a = some μ1) (h4 : μ1 4 = μ 4) (h5 : μ1 5 = μ 5) (h00 : μ1 0 0 = nI kd) (h01 : μ1 0 1 = nI s) (hb : b = some (0, up (up σ 0 12 (nI kd)) 0 13 (σ 0 15), w)) (f : FR [3, 5] [4, 10, 15] τ σ) (h15 : σ 0 15 = nI s) (hk : 1 ≤ kd ∧ kd ≤ 3) (hs : s ≤ 200) : LRES μ τ a b :=
  ⟨μ1, 0, _, w, ha, hb, h4, h5, ((f.mono (fun _ z => z) (by decide)).fld (by decide)).fld (by decide), Or.inr ⟨rfl, kd, s, hk.1, hk.2, hs, h00, h01, rfl, h15⟩⟩
theorem cant17 {y : Int32} {σ : Mem} {w : Int64} : X10_cant_17 y σ w = some (0, up (up σ 0 12 y) 0 13 (σ 0 15), w) := by
  show (gp ((0 : Int32) = 0 ∨ (0 : Int32) = 1) _ : Option (Int32 × Mem × Int64)) = _
  exact if_pos (Or.inl rfl)
theorem cantb {σ : Mem} {w : Int64} : (bd (X10_cant σ w) fun r6 => lt (r6.2.1) fun σ7 => lt (r6.2.2) fun w8 => gp (r6.1 = 0 ∨ r6.1 = 1) <| some (r6.1, σ7, w8)) = some (0, up (up σ 0 12 (if w = -1 then nI 1 else nI 2)) 0 13 (σ 0 15), w) := by
  unfold X10_cant
  by_cases h : w = -1
  · rw [if_pos ((lg_cmp_eq _ _).mpr h), cant17, bd_s, if_pos h]
    show (gp ((0 : Int32) = 0 ∨ (0 : Int32) = 1) _ : Option (Int32 × Mem × Int64)) = _
    exact if_pos (Or.inl rfl)
  · rw [if_neg (fun z => h ((lg_cmp_eq _ _).mp z)), cant17, bd_s, if_neg h]
    show (gp ((0 : Int32) = 0 ∨ (0 : Int32) = 1) _ : Option (Int32 × Mem × Int64)) = _
    exact if_pos (Or.inl rfl)
theorem cantb1 {σ : Mem} {w : Int64} (h : w = -1) : (bd (X10_cant σ w) fun r6 => lt (r6.2.1) fun σ7 => lt (r6.2.2) fun w8 => gp (r6.1 = 0 ∨ r6.1 = 1) <| some (r6.1, σ7, w8)) = some (0, up (up σ 0 12 (nI 1)) 0 13 (σ 0 15), w) := by
  rw [cantb, if_pos h]
theorem cantb2 {σ : Mem} {w : Int64} (h : w ≠ -1) : (bd (X10_cant σ w) fun r6 => lt (r6.2.1) fun σ7 => lt (r6.2.2) fun w8 => gp (r6.1 = 0 ∨ r6.1 = 1) <| some (r6.1, σ7, w8)) = some (0, up (up σ 0 12 (nI 2)) 0 13 (σ 0 15), w) := by
  rw [cantb, if_neg h]
theorem x10_112n {k9 : Mem → Int64 → Option (Int32 × Mem × Int64)} {σ : Mem} {w : Int64} (h : w ≠ 59) : X10_readLevels_112 k9 σ w = bd (X10_cant σ w) fun r6 => lt (r6.2.1) fun σ7 => lt (r6.2.2) fun w8 => gp (r6.1 = 0 ∨ r6.1 = 1) <| some (r6.1, σ7, w8) := if_neg (fun z => h ((lg_cmp_eq _ _).mp z))
theorem x10_112s {k9 : Mem → Int64 → Option (Int32 × Mem × Int64)} {σ : Mem} {w : Int64} (h : w = 59) : X10_readLevels_112 k9 σ w = bd (X10_next (up σ 0 10 (σ 0 10 + 1)) w) fun r => k9 r.1 r.2 := if_pos ((lg_cmp_eq _ _).mpr h)
/-- what the levels' text means from p on, where a level may begin -/
def JP (T : List Nat) (p : Nat) : Prop := ∀ (m m2 k : Nat) (μ τ : Mem) (w : Int64), T.length - p < m → T.length - p < m2 → k ≤ 4 → TXT T (mp μ [4, 5]) → μ 0 0 = 0 → μ 0 2 = 0 → μ 1 2 = nI k → BTS T p τ → τ 0 10 = nI k → LVC k μ τ →
  LRES μ τ (X7_readInto_22 m (nI p) μ) (bd (X10_next τ w) fun r => X10_readLevels_9 m2 r.1 r.2)
theorem lv_close {T : List Nat} {p st k m m2 : Nat} {μ σ : Mem} {w : Int64} (hT : TXT T (mp μ [4, 5])) (hp : p ≤ T.length) (hm : T.length - p < m) (hm2 : T.length - p ≤ m2) (h0 : μ 0 0 = 0) (hst : st = 1 ∨ st = 2) (h2 : μ 0 2 = nI st) (hk : k < 4) (hc : μ 1 2 = nI (k + 1)) (hC : LVC (k + 1) μ σ) (h10 : σ 0 10 = nI k) (h15 : σ 0 15 = nI (sk T p))
    (t1 : sk T p = T.length → w = 0) (t2 : sk T p < T.length → T.getD (sk T p) 0 = 59 → w = 59 ∧ BTS T (sk T p + 1) σ) (t3 : sk T p < T.length → T.getD (sk T p) 0 ≠ 59 → ¬ isS (T.getD (sk T p) 0) = true → w = -1) (t4 : sk T p < T.length → isS (T.getD (sk T p) 0) = true → w = cdw T (sk T p) (ew T (sk T p)))
    (hnt : st = 1 → sk T p < T.length → isS (T.getD (sk T p) 0) = true → X8_isWord (nI (sk T p)) (nI (ew T (sk T p))) 0 (mp μ [4, 5]) = some 0) (hJ : ∀ q, p < q → q ≤ T.length → JP T q) : LRES μ σ (X7_readInto_22 m (nI p) μ) (X10_readLevels_112 (X10_readLevels_9 m2) σ w) := by
  have h200 := hT.1
  obtain ⟨k1, k2, k3⟩ := sk_ok hp
  obtain ⟨m', hm', c1, c2, c3, c4⟩ := x7_tok hT h0 hp hm
  have hst0 : ¬ μ 0 2 = 0 := by
    rw [h2]
    rcases hst with rfl | rfl <;> decide
  generalize hs : sk T p = s at *
  rcases Nat.lt_or_ge s T.length with hlt | hge
  · by_cases h59 : T.getD s 0 = 59
    · obtain ⟨hw, hb⟩ := t2 hlt h59
      rw [c2 hlt h59, x10_112s hw]
      have e1 : X7_takeSemicolon (nI s) (mp μ [0]) = some (up (mp μ [0]) 0 2 0) := if_neg hst0
      rw [e1, bd_s, h10, nI_1]
      have f1 : FR [] [10] σ (up σ 0 10 (nI (k + 1))) := FR.rf.fld (by decide)
      have := hJ (s + 1) (by omega) (by omega) m' m2 (k + 1) (mg μ [0] (up (mp μ [0]) 0 2 0)) (up σ 0 10 (nI (k + 1))) w (by omega) (by omega) (by omega) hT h0 rfl hc (hb.fr f1 (by decide) (by decide)) rfl hC
      exact this.step rfl rfl rfl (f1.mono (by decide) (by decide))
    · by_cases hS : isS (T.getD s 0) = true
      · have hw := t4 hlt hS
        obtain ⟨e1, e2, e3⟩ := ew_ok hlt hS
        have hne := cdw_ne e3
        rw [c4 hlt hS, x10_112n (by rw [hw]; exact hne.2.1), cantb2 (by rw [hw]; exact hne.2.2)]
        obtain ⟨r, g1, -, -⟩ := form_both (τ := σ) hT e2 (by omega) e3
        have e30 : X7_takeWord_30 (nI s) (nI (ew T s)) μ = some (mg μ [0] (up (up (mp μ [0]) 0 0 2) 0 1 (nI s))) := by
          unfold X7_takeWord_30
          rw [g1, bd_s, if_neg hst0]
          rfl
        have etw : X7_takeWord (nI s) (nI (ew T s)) μ = some (mg μ [0] (up (up (mp μ [0]) 0 0 2) 0 1 (nI s))) := by
          unfold X7_takeWord
          rcases hst with rfl | rfl
          · rw [if_pos (show μ 0 2 = 1 from h2), hnt rfl hlt hS, bd_s, if_pos rfl, e30]
          · rw [if_neg (show ¬ μ 0 2 = 1 by rw [h2]; decide), e30]
        rw [etw, bd_s]
        obtain ⟨m', rfl⟩ : ∃ z, m' = z + 1 := ⟨m' - 1, by omega⟩
        exact lres_bad (kd := 2) (s := s) (x7_flt (show ¬ (2 : Int32) = 0 by decide)) rfl rfl rfl rfl rfl FR.rf h15 (by omega) (by omega)
      · have hw := t3 hlt h59 hS
        rw [c3 hlt h59 hS, x10_112n (by rw [hw]; decide), cantb1 hw]
        exact lres_bad (kd := 1) (s := s) rfl rfl rfl rfl rfl rfl FR.rf h15 (by omega) (by omega)
  · have hsl : s = T.length := by omega
    have hw := t1 hsl
    rw [c1 hsl, x10_112n (by rw [hw]; decide), cantb2 (by rw [hw]; decide)]
    have hlen : μ 4 1 = nI s := by rw [hsl]; exact hT.2.1
    have e142 : X7_readInto_121 μ = some (mg μ [0] (up (up (mp μ [0]) 0 0 2) 0 1 (μ 4 1))) := by
      unfold X7_readInto_121
      rw [if_pos h0, if_neg hst0]
      rfl
    exact lres_bad (kd := 2) (s := s) e142 rfl rfl rfl hlen rfl FR.rf h15 (by omega) (by omega)
theorem x6_app {μ : Mem} {k : Nat} {v : Int32} (h : μ 0 2 = nI k) (hk : k < 4) : X6_append v μ = some (up (up (up μ 1 k v) 2 k 0) 0 2 (nI (k + 1))) := by
  unfold X6_append
  rw [h, if_neg (show ¬ (4 : Int32) ≤ nI k from nI_ge (b := 4) hk (by omega)), gd_i (vp_in_nI (by omega) (by omega)), nI_clamp (by omega)]
  simp only [lt]
  have e1 : up μ 1 k v 0 2 = nI k := h
  have e2 : ∀ x, up (up μ 1 k v) 2 k x 0 2 = nI k := fun _ => h
  rw [e1, gd_i (vp_in_nI (by omega) (by omega)), nI_clamp (by omega), e2, nI_1]
  rfl
theorem x6_last {μ : Mem} {k : Nat} (h : μ 0 2 = nI (k + 1)) (hk : k < 4) : X6_makeLastThrough μ = some (up μ 2 k 1) := by
  unfold X6_makeLastThrough
  rw [h, if_neg (nI_nle (by omega) (by omega)), i32_m1, gd_i (vp_in_nI (by omega) (by omega)), nI_clamp (by omega)]
  rfl
