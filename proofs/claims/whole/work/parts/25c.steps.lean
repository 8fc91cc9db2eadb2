/-! own words: pure part: levels: one token -/
def sk (T : List Nat) (p : Nat) : Nat := skE T (T.length - p) p
def ew (T : List Nat) (s : Nat) : Nat := smE T (T.length - (s + 1)) (s + 1)
theorem sk_ok {T : List Nat} {p : Nat} (hp : p ≤ T.length) : p ≤ sk T p ∧ sk T p ≤ T.length ∧ (sk T p < T.length → T.getD (sk T p) 0 ≠ 32 ∧ T.getD (sk T p) 0 ≠ 10) := by
  obtain ⟨a, b⟩ := skE_ge T (T.length - p) p
  have c := skE_end T (T.length - p) p
  refine ⟨a, by unfold sk; omega, fun h => ?_⟩
  have := c (by unfold sk at h; omega)
  constructor
  · intro z
    have : isB (T.getD (sk T p) 0) = true := isB_iff.mpr (Or.inl z)
    unfold sk at this
    simp_all
  · intro z
    have : isB (T.getD (sk T p) 0) = true := isB_iff.mpr (Or.inr z)
    unfold sk at this
    simp_all
theorem ew_ok {T : List Nat} {s : Nat} (hs : s < T.length) (h : isS (T.getD s 0) = true) : s < ew T s ∧ ew T s ≤ T.length ∧ ∀ j, s ≤ j → j < ew T s → isS (T.getD j 0) = true := by
  obtain ⟨a, b⟩ := smE_ge T (T.length - (s + 1)) (s + 1)
  have c := smE_in T (T.length - (s + 1)) (s + 1)
  refine ⟨by unfold ew; omega, by unfold ew; omega, fun j h1 h2 => ?_⟩
  rcases Nat.lt_or_ge s j with z | z
  · exact c j z h2
  · rw [show j = s by omega]
    exact h
theorem x7_we {T : List Nat} {μ : Mem} {a1 : Int32} (h : TXT T μ) : ∀ (d i m : Nat), i + d = T.length → d < m → X7_wordEnd_4 a1 μ m (nI i) = some (nI (smE T d i)) := by
  intro d
  induction d with
  | zero =>
    intro i m hi hm
    obtain ⟨m, rfl⟩ : ∃ z, m = z + 1 := ⟨m - 1, by omega⟩
    have := h.1
    unfold X7_wordEnd_4
    rw [h.2.1, if_pos (nI_le (by omega) (by omega))]
    rfl
  | succ d ih =>
    intro i m hi hm
    obtain ⟨m, rfl⟩ : ∃ z, m = z + 1 := ⟨m - 1, by omega⟩
    have h200 := h.1
    have hb := h.2.2.2 i (by omega)
    unfold X7_wordEnd_4 smE
    rw [h.2.1, if_neg (nI_ge (by omega) (by omega)), x8_byteAt h (by omega), bd_s, if_pos (show i < T.length by omega), x7_small _ hb, bd_s]
    by_cases hs : isS (T.getD i 0) = true
    · rw [if_pos hs, if_pos hs, if_neg (show ¬ (1 : Int32) = 0 by decide)]
      simp only [lt]
      rw [nI_1]
      exact ih (i + 1) m (by omega) (by omega)
    · rw [if_neg hs, if_neg hs, if_pos rfl]
theorem x7_wordEnd {T : List Nat} {μ : Mem} {s : Nat} (h : TXT T μ) (hs : s < T.length) : X7_wordEnd (nI s) μ = some (nI (ew T s)) := by
  have h200 := h.1
  have := x7_we (a1 := nI s) h (T.length - (s + 1)) (s + 1) FU (by omega) (by unfold FU; omega)
  unfold X7_wordEnd
  simp only [lt]
  rw [nI_1]
  exact this
theorem x7_skip {T : List Nat} {μ : Mem} (h : TXT T (mp μ [4, 5])) (h0 : μ 0 0 = 0) : ∀ (d p m : Nat), p + d = T.length → d < m → ∃ m2, m2 + (skE T d p - p) = m ∧ X7_readInto_22 m (nI p) μ = X7_readInto_22 m2 (nI (skE T d p)) μ := by
  intro d
  induction d with
  | zero => exact fun p m hp hm => ⟨m, by show m + (p - p) = m; omega, rfl⟩
  | succ d ih =>
    intro p m hp hm
    have h200 := h.1
    have hlen : μ 4 1 = nI T.length := h.2.1
    have hb := h.2.2.2 p (by omega)
    unfold skE
    by_cases hB : isB (T.getD p 0) = true
    · obtain ⟨m, rfl⟩ : ∃ z, m = z + 1 := ⟨m - 1, by omega⟩
      obtain ⟨m2, g1, g2⟩ := ih (p + 1) m (by omega) (by omega)
      have hge := (skE_ge T d (p + 1)).1
      rw [if_pos hB]
      refine ⟨m2, by omega, ?_⟩
      conv => lhs; unfold X7_readInto_22
      rw [hlen, if_neg (nI_ge (by omega) (by omega)), h0, if_pos rfl, x8_byteAt h (by omega), bd_s, if_pos (show p < T.length by omega)]
      simp only [lt]
      rw [nI_1]
      rcases isB_iff.mp hB with z | z
      · rw [if_pos (show nI (T.getD p 0) = 32 by rw [z]; rfl)]
        exact g2
      · rw [if_neg (show ¬ nI (T.getD p 0) = 32 by rw [z]; decide), if_pos (show nI (T.getD p 0) = 10 by rw [z]; rfl)]
        exact g2
    · rw [if_neg hB]
      exact ⟨m, by omega, rfl⟩
theorem x7_flt {m : Nat} {x : Int32} {μ : Mem} (h : ¬ μ 0 0 = 0) : X7_readInto_22 (m + 1) x μ = some μ := by
  have e : X7_readInto_121 μ = some μ := if_neg h
  unfold X7_readInto_22
  rw [if_neg h, e]
  split <;> rfl
/-- what one token does to the class -/
theorem x7_tok {T : List Nat} {μ : Mem} {p m : Nat} (h : TXT T (mp μ [4, 5])) (h0 : μ 0 0 = 0) (hp : p ≤ T.length) (hm : T.length - p < m) : ∃ m2, T.length - sk T p ≤ m2 ∧
    (sk T p = T.length → X7_readInto_22 m (nI p) μ = X7_readInto_121 μ) ∧
    (sk T p < T.length → T.getD (sk T p) 0 = 59 → X7_readInto_22 m (nI p) μ = bd (X7_takeSemicolon (nI (sk T p)) (mp μ [0])) fun r20 => X7_readInto_22 m2 (nI (sk T p + 1)) (mg μ [0] r20)) ∧
    (sk T p < T.length → T.getD (sk T p) 0 ≠ 59 → ¬ isS (T.getD (sk T p) 0) = true → X7_readInto_22 m (nI p) μ = some (mg μ [0] (up (up (mp μ [0]) 0 0 1) 0 1 (nI (sk T p))))) ∧
    (sk T p < T.length → isS (T.getD (sk T p) 0) = true → X7_readInto_22 m (nI p) μ = bd (X7_takeWord (nI (sk T p)) (nI (ew T (sk T p))) μ) fun r18 => X7_readInto_22 m2 (nI (ew T (sk T p))) r18) := by
  have h200 := h.1
  have hlen : μ 4 1 = nI T.length := h.2.1
  obtain ⟨m1, g1, g2⟩ := x7_skip h h0 (T.length - p) p m (by omega) hm
  change m1 + (sk T p - p) = m at g1
  change _ = X7_readInto_22 m1 (nI (sk T p)) μ at g2
  obtain ⟨k1, k2, k3⟩ := sk_ok hp
  obtain ⟨m2, rfl⟩ : ∃ z, m1 = z + 1 := ⟨m1 - 1, by omega⟩
  rw [g2]
  generalize sk T p = s at *
  refine ⟨m2, by omega, fun e => ?_, fun e e1 => ?_, fun e e1 e2 => ?_, fun e e1 => ?_⟩
  · unfold X7_readInto_22
    rw [hlen, if_pos (nI_le (by omega) (by omega))]
  all_goals
    obtain ⟨n32, n10⟩ := k3 e
    have hb := h.2.2.2 s e
    conv => lhs; unfold X7_readInto_22
    rw [hlen, if_neg (nI_ge e (by omega)), h0, if_pos rfl, x8_byteAt h (by omega), bd_s, if_pos e, if_neg (show ¬ nI (T.getD s 0) = 32 from fun z => n32 ((nI_eq (b := 32) (by omega) (by omega)).mp z)), if_neg (show ¬ nI (T.getD s 0) = 10 from fun z => n10 ((nI_eq (b := 10) (by omega) (by omega)).mp z))]
  · rw [if_pos (show nI (T.getD s 0) = 59 by rw [e1]; rfl)]
    simp only [lt]
    rw [nI_1]
  · obtain ⟨m2, rfl⟩ : ∃ z, m2 = z + 1 := ⟨m2 - 1, by omega⟩
    rw [if_neg (show ¬ nI (T.getD s 0) = 59 from fun z => e1 ((nI_eq (b := 59) (by omega) (by omega)).mp z)), x7_small _ hb, bd_s, if_neg e2, if_pos rfl]
    show X7_readInto_22 (m2 + 1) (nI s) (mg μ [0] (up (up (mp μ [0]) 0 0 1) 0 1 (nI s))) = _
    exact x7_flt (show ¬ (1 : Int32) = 0 by decide)
  · have n59 : T.getD s 0 ≠ 59 := fun z => by rw [z] at e1; revert e1; decide
    rw [if_neg (show ¬ nI (T.getD s 0) = 59 from fun z => n59 ((nI_eq (b := 59) (by omega) (by omega)).mp z)), x7_small _ hb, bd_s, if_pos e1, if_neg (show ¬ (1 : Int32) = 0 by decide), x7_wordEnd h e, bd_s]
    rfl
-- the reference
theorem x10_93 {T : List Nat} {s : Nat} (hT : T.length ≤ 200) (hB : ∀ i, i < T.length → T.getD i 0 < 256) : ∀ (d i m : Nat) (τ : Mem), i + d = T.length → s ≤ i → d < m → BTS T i τ → ∃ τ1, X10_next_93 m (nI (i - s)) τ (lN (WD (yW T s) (if i - s ≤ 7 then i - s else 7))) = some (τ1, cdw T s (smE T d i)) ∧ FR [] [4] τ τ1 ∧ BTS T (smE T d i) τ1 := by
  have fin93 : ∀ (i : Nat) (τ : Mem), i ≤ 200 → (if 7 < nI (i - s) then X10_next_153 τ (lN (WD (yW T s) (if i - s ≤ 7 then i - s else 7))) else if 2 ≤ nI (i - s) then some (τ, lN (WD (yW T s) (if i - s ≤ 7 then i - s else 7))) else X10_next_153 τ (lN (WD (yW T s) (if i - s ≤ 7 then i - s else 7)))) = some (τ, cdw T s i) := fun i τ hi => by
    by_cases h7 : i - s ≤ 7
    · rw [if_neg (show ¬ (7 : Int32) < nI (i - s) from nI_nlt (a := 7) (by omega) (by omega)), if_pos h7]
      by_cases h2 : 2 ≤ i - s
      · have e : cdw T s i = lN (WD (yW T s) (i - s)) := if_pos ⟨h2, h7⟩
        rw [if_pos (show (2 : Int32) ≤ nI (i - s) from nI_le (a := 2) h2 (by omega)), e]
      · have e : cdw T s i = 1 := if_neg (fun z => h2 z.1)
        rw [if_neg (show ¬ (2 : Int32) ≤ nI (i - s) from nI_ge (b := 2) (by omega) (by omega)), e]
        rfl
    · have e : cdw T s i = 1 := if_neg (fun z => h7 z.2)
      rw [if_pos (show (7 : Int32) < nI (i - s) from nI_lt (a := 7) (by omega) (by omega)), e]
      rfl
  intro d
  induction d with
  | zero =>
    intro i m τ hi hs hm h
    obtain ⟨m, rfl⟩ : ∃ z, m = z + 1 := ⟨m - 1, by omega⟩
    refine ⟨τ, ?_, FR.rf, h⟩
    unfold X10_next_93
    rw [x10_peek h hT hB (by omega), bd_s, if_neg (by omega), show X10_isSmall (-1) = some 0 from rfl, bd_s, if_pos rfl]
    exact fin93 i τ (by omega)
  | succ d ih =>
    intro i m τ hi hs hm h
    obtain ⟨m, rfl⟩ : ∃ z, m = z + 1 := ⟨m - 1, by omega⟩
    have hlt : i < T.length := by omega
    have hb := hB i hlt
    have hpk := x10_peek h hT hB (by omega)
    rw [if_pos hlt] at hpk
    unfold X10_next_93 smE
    rw [hpk, bd_s, x10_small _ hb, bd_s]
    by_cases hS : isS (T.getD i 0) = true
    · rw [if_pos hS, if_neg (show ¬ (1 : Int32) = 0 by decide), if_pos hS, bd_s]
      obtain ⟨τ1, g1, g2, g3⟩ := ih (i + 1) m (up τ 0 4 (τ 0 4 + 1)) (by omega) (by omega) (by omega) h.adv
      refine ⟨τ1, ?_, (FR.rf.fld (by decide)).tr g2, g3⟩
      unfold X10_next_126
      by_cases h7 : 7 ≤ i - s
      · rw [if_pos (show (7 : Int32) ≤ nI (i - s) from nI_le (a := 7) h7 (by omega))]
        simp only [lt]
        rw [nI_1, show i - s + 1 = i + 1 - s by omega]
        have e : (if i - s ≤ 7 then i - s else 7) = (if i + 1 - s ≤ 7 then i + 1 - s else 7) := by
          rw [if_neg (show ¬ i + 1 - s ≤ 7 by omega)]
          split <;> omega
        rw [e]
        exact g1
      · rw [if_neg (show ¬ (7 : Int32) ≤ nI (i - s) from nI_ge (b := 7) (by omega) (by omega))]
        simp only [lt]
        rw [nI_1, show i - s + 1 = i + 1 - s by omega, nI_l (by omega), if_pos (show i - s ≤ 7 by omega), lshl8_or hb]
        have e : WD (yW T s) (i - s) * 256 + T.getD i 0 = WD (yW T s) (if i + 1 - s ≤ 7 then i + 1 - s else 7) := by
          rw [if_pos (show i + 1 - s ≤ 7 by omega), show i + 1 - s = i - s + 1 by omega]
          show _ = WD (yW T s) (i - s) * 256 + T.getD (s + (i - s)) 0
          rw [show s + (i - s) = i by omega]
        rw [e]
        exact g1
    · rw [if_neg hS, if_pos rfl, if_neg hS]
      exact ⟨τ, fin93 i τ (by omega), FR.rf, h⟩
theorem BTS.set {T : List Nat} {p q : Nat} {τ : Mem} (h : BTS T p τ) : BTS T q (up τ 0 4 (nI q)) := ⟨h.1, rfl, h.2.2⟩
theorem x10_next0 {T : List Nat} {s : Nat} (hT : T.length ≤ 200) (hB : ∀ i, i < T.length → T.getD i 0 < 256) : ∀ (d p m : Nat) (τ : Mem) (w : Int64), p + d = T.length → d < m → BTS T p τ → ∃ τ1 m2, X10_next_0 m τ w = X10_next_0 (m2 + 1) τ1 w ∧ FR [] [4] τ τ1 ∧ BTS T (skE T d p) τ1 := by
  intro d
  induction d with
  | zero => exact fun p m τ w hp hm h => ⟨τ, m - 1, by rw [show m - 1 + 1 = m by omega], FR.rf, h⟩
  | succ d ih =>
    intro p m τ w hp hm h
    obtain ⟨m, rfl⟩ : ∃ z, m = z + 1 := ⟨m - 1, by omega⟩
    have hlt : p < T.length := by omega
    have hb := hB p hlt
    have hpk := x10_peek h hT hB (by omega)
    rw [if_pos hlt] at hpk
    unfold skE
    by_cases hS : isB (T.getD p 0) = true
    · obtain ⟨τ1, m2, g1, g2, g3⟩ := ih (p + 1) m (up τ 0 4 (τ 0 4 + 1)) w (by omega) (by omega) h.adv
      rw [if_pos hS]
      refine ⟨τ1, m2, ?_, (FR.rf.fld (by decide)).tr g2, g3⟩
      conv => lhs; unfold X10_next_0
      rw [hpk, bd_s, bd_s]
      rcases isB_iff.mp hS with z | z
      · rw [if_pos (show nI (T.getD p 0) = 32 by rw [z]; rfl)]
        exact g1
      · rw [if_neg (show ¬ nI (T.getD p 0) = 32 by rw [z]; decide), if_pos (show nI (T.getD p 0) = 10 by rw [z]; rfl)]
        exact g1
    · rw [if_neg hS]
      exact ⟨τ, m, rfl, FR.rf, h⟩
/-- what the reference's next token is -/
theorem x10_next {T : List Nat} {p : Nat} {τ : Mem} {w : Int64} (hT : T.length ≤ 200) (hB : ∀ i, i < T.length → T.getD i 0 < 256) (hp : p ≤ T.length) (h : BTS T p τ) : ∃ τ1 w1, X10_next τ w = some (τ1, w1) ∧ FR [] [4, 15] τ τ1 ∧ τ1 0 15 = nI (sk T p) ∧
    (sk T p = T.length → w1 = 0) ∧
    (sk T p < T.length → T.getD (sk T p) 0 = 59 → w1 = 59 ∧ BTS T (sk T p + 1) τ1) ∧
    (sk T p < T.length → T.getD (sk T p) 0 ≠ 59 → ¬ isS (T.getD (sk T p) 0) = true → w1 = -1) ∧
    (sk T p < T.length → isS (T.getD (sk T p) 0) = true → w1 = cdw T (sk T p) (ew T (sk T p)) ∧ BTS T (ew T (sk T p)) τ1) := by
  obtain ⟨k1, k2, k3⟩ := sk_ok hp
  obtain ⟨τ1, m2, g1, g2, g3⟩ := x10_next0 (s := 0) hT hB (T.length - p) p FU τ w (by omega) (by unfold FU; omega) h
  change BTS T (sk T p) τ1 at g3
  unfold X10_next
  rw [g1]
  clear g1
  generalize sk T p = s at *
  have hpk := x10_peek g3 hT hB k2
  have h15 : BTS T s (up τ1 0 15 (τ1 0 4)) := g3.fr (C := []) (K := [15]) (FR.rf.fld (by decide)) (by decide) (by decide)
  have f15 : FR [] [4, 15] τ (up τ1 0 15 (τ1 0 4)) := (g2.mono (by decide) (by decide)).fld (by decide)
  have e15 : up τ1 0 15 (τ1 0 4) 0 15 = nI s := g3.2.1
  have hpk2 := x10_peek h15 hT hB k2
  have n2 : X10_next_0 (m2 + 1) τ1 w = bd (X10_peek τ1) fun r15 => if r15 = 32 then X10_next_18 (X10_next_0 m2) τ1 w else bd (X10_peek τ1) fun r17 => if r17 = 10 then X10_next_18 (X10_next_0 m2) τ1 w else bd (X10_peek (up τ1 0 15 (τ1 0 4))) fun r21 => if 0 ≤ r21 then bd (X10_isSmall r21) fun r23 => if r23 = 0 then if r21 = 59 then X10_next_77 59 (up τ1 0 15 (τ1 0 4)) 0 else X10_next_77 (-1) (up τ1 0 15 (τ1 0 4)) 0 else X10_next_93 FU 0 (up τ1 0 15 (τ1 0 4)) 0 else some (up τ1 0 15 (τ1 0 4), 0) := rfl
  rw [n2, hpk, bd_s, bd_s]
  generalize up τ1 0 15 (τ1 0 4) = τ2 at *
  rw [hpk2]
  by_cases hlt : s < T.length
  · obtain ⟨n32, n10⟩ := k3 hlt
    have hb := hB s hlt
    rw [if_pos hlt, if_neg (show ¬ nI (T.getD s 0) = 32 from fun z => n32 ((nI_eq (b := 32) (by omega) (by omega)).mp z)), if_neg (show ¬ nI (T.getD s 0) = 10 from fun z => n10 ((nI_eq (b := 10) (by omega) (by omega)).mp z)), bd_s, if_pos (show (0 : Int32) ≤ nI (T.getD s 0) from nI_pos' (by omega)), x10_small _ hb, bd_s]
    by_cases hS : isS (T.getD s 0) = true
    · rw [if_pos hS, if_neg (show ¬ (1 : Int32) = 0 by decide)]
      obtain ⟨τ3, j1, j2, j3⟩ := x10_93 (s := s) hT hB (T.length - s) s FU τ2 (by omega) (Nat.le_refl _) (by unfold FU; omega) h15
      rw [Nat.sub_self] at j1
      have j1' : X10_next_93 FU 0 τ2 0 = some (τ3, cdw T s (smE T (T.length - s) s)) := j1
      have e1 : smE T (T.length - s) s = ew T s := by
        obtain ⟨d, hd⟩ : ∃ d, T.length - s = d + 1 := ⟨T.length - s - 1, by omega⟩
        unfold ew
        rw [hd, show T.length - (s + 1) = d by omega]
        exact if_pos hS
      rw [e1] at j1' j3
      rw [j1']
      have n59 : T.getD s 0 ≠ 59 := fun z => by rw [z] at hS; revert hS; decide
      exact ⟨τ3, _, rfl, f15.tr (j2.mono (by decide) (by decide)), (j2.2 15 (by decide)).trans e15, fun z => absurd z (by omega), fun _ z => absurd z n59, fun _ _ z => absurd hS z, fun _ _ => ⟨rfl, j3⟩⟩
    · rw [if_neg hS, if_pos rfl]
      by_cases h59 : T.getD s 0 = 59
      · rw [if_pos (show nI (T.getD s 0) = 59 by rw [h59]; rfl)]
        exact ⟨_, _, rfl, f15.fld (by decide), e15, fun z => absurd z (by omega), fun _ _ => ⟨rfl, h15.adv⟩, fun _ z => absurd h59 z, fun _ z => absurd z hS⟩
      · rw [if_neg (show ¬ nI (T.getD s 0) = 59 from fun z => h59 ((nI_eq (b := 59) (by omega) (by omega)).mp z))]
        exact ⟨_, _, rfl, f15.fld (by decide), e15, fun z => absurd z (by omega), fun _ z => absurd z h59, fun _ _ _ => rfl, fun _ z => absurd z hS⟩
  · rw [if_neg hlt, if_neg (show ¬ (-1 : Int32) = 32 by decide), if_neg (show ¬ (-1 : Int32) = 10 by decide), bd_s, if_neg (show ¬ (0 : Int32) ≤ -1 by decide)]
    exact ⟨τ2, 0, rfl, f15, e15, fun _ => rfl, fun z => absurd z hlt, fun z => absurd z hlt, fun z => absurd z hlt⟩
