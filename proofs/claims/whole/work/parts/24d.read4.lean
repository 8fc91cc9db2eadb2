/-! own words: pure part: a label read by the reference: numerals and letters -/
theorem tst_tab : ∀ f, f < 4 → ∀ b, b < 256 → X10_fitsForm (nI b) (nI f) = some (if fitN f b then 1 else 0) := by decide +kernel
theorem tst_m1 : ∀ f, f < 4 → X10_fitsForm (-1) (nI f) = some 0 := by decide +kernel
theorem tst_rw : ∀ b, b < 256 → (fitN 1 b = true → X10_romanWorth (nI b) = some (nI (rwt b))) ∧ (fitN 3 b = true → X10_romanWorth (nI b - 32) = some (nI (rwt (b - 32)))) := by decide +kernel
theorem x10_peek {T : List Nat} {p : Nat} {τ : Mem} (h : BTS T p τ) (hT : T.length ≤ 200) (hB : ∀ i, i < T.length → T.getD i 0 < 256) (hp : p ≤ T.length) : X10_peek τ = some (if p < T.length then nI (T.getD p 0) else -1) := by
  obtain ⟨h1, h2, h3⟩ := h
  unfold X10_peek
  rw [h1, h2]
  by_cases z : p < T.length
  · rw [if_neg (nI_ge z (by omega)), if_pos z, gd_i (vp_in_nI (by omega) (by omega)), nI_clamp (by omega), h3 p z, sb_and _ (hB p z)]
  · rw [if_neg z, if_pos (nI_le (by omega) (by omega))]
theorem BTS.adv {T : List Nat} {p : Nat} {τ : Mem} (h : BTS T p τ) : BTS T (p + 1) (up τ 0 4 (τ 0 4 + 1)) := by
  obtain ⟨h1, h2, h3⟩ := h
  refine ⟨h1, ?_, h3⟩
  show τ 0 4 + 1 = _
  rw [h2, nI_1]
def cap (x : Nat) : Nat := if x ≤ 100000 then x else 100000
theorem x10_131 {a1 x2 x4 : Int32} {k : Int32 → Int32 → Int32 → Mem → Option (Int32 × Mem)} {x : Nat} (hx : x < 2 ^ 31) {τ : Mem} : X10_readLabel_131 a1 k x2 (nI x) x4 τ = k x2 (nI (cap x)) x4 (up τ 0 4 (τ 0 4 + 1)) := by
  unfold X10_readLabel_131 cap
  by_cases h : x ≤ 100000
  · rw [if_pos h, if_pos (show nI x ≤ 100000 from nI_le (b := 100000) h (by omega))]
    rfl
  · rw [if_neg h, if_neg (show ¬ nI x ≤ 100000 from nI_ge (a := 100000) (by omega) hx)]
    rfl
def fin (T : List Nat) (f k i pw acc : Nat) : Nat := if f = 0 then vP T f 10 k i acc else if f = 2 then vP T f 26 k i acc else rV T f k i pw acc
theorem fit_lo : ∀ b, b < 256 → (fitN 0 b = true → 48 ≤ b) ∧ (fitN 2 b = true → 97 ≤ b) ∧ (fitN 3 b = true → 32 ≤ b) := by decide +kernel
theorem cap_le (x : Nat) : cap x ≤ 100000 := by
  unfold cap
  split <;> omega
theorem cap_mul (x d k : Nat) (hk : 1 ≤ k) : cap (cap x * k + d) = cap (x * k + d) := by
  have h1 : x ≤ x * k := Nat.le_mul_of_pos_right x hk
  have h2 : 100000 ≤ 100000 * k := Nat.le_mul_of_pos_right 100000 hk
  unfold cap
  by_cases h : x ≤ 100000
  · rw [if_pos h]
  · rw [if_neg h, if_neg (show ¬ x * k + d ≤ 100000 by omega)]
    split <;> omega
theorem cap_add (x d : Nat) : cap (cap x + d) = cap (x + d) := by
  unfold cap
  by_cases h : x ≤ 100000
  · rw [if_pos h]
  · rw [if_neg h, if_neg (show ¬ x + d ≤ 100000 by omega)]
    split <;> omega
theorem x10_100 {a1 x2 y0 : Int32} {k : Int32 → Int32 → Int32 → Mem → Option (Int32 × Mem)} {acc pw w : Nat} (hy : X10_romanWorth y0 = some (nI w)) (hw : w ≤ 1000) (hpw : pw ≤ 1000) (hp : pen pw w ≤ w) {τ : Mem} : X10_readLabel_100 a1 k x2 (nI (cap acc)) (nI pw) y0 τ = k x2 (nI (cap (acc + w - pen pw w))) (nI w) (up τ 0 4 (τ 0 4 + 1)) := by
  have hc := cap_le acc
  unfold X10_readLabel_100 X10_readLabel_125
  rw [hy, bd_s]
  unfold pen at hp ⊢
  by_cases h : w ≤ pw
  · rw [if_pos (nI_le h (by omega)), if_neg (show ¬ pw < w by omega)]
    simp only [lt]
    rw [nI_add, x10_131 (by omega), cap_add]
    rfl
  · rw [if_neg (nI_ge (by omega) (by omega)), if_pos (show pw < w by omega)]
    rw [if_pos (show pw < w by omega)] at hp
    have e2 : (2 : Int32) * nI pw = nI (2 * pw) := pk_mul 2 pw
    simp only [lt]
    rw [e2, pk_sub hp, nI_add, x10_131 (by omega), cap_add, show acc + (w - 2 * pw) = acc + w - 2 * pw by omega]
theorem x10_31 {T : List Nat} {f : Nat} {x2 : Int32} (hT : T.length ≤ 200) (hB : ∀ i, i < T.length → T.getD i 0 < 256) (hf : f < 4) : ∀ (d i m acc pw : Nat) (τ : Mem), i + d = T.length → d < m → BTS T i τ → pw ≤ 1000 → (∀ b, pen pw (rwt b) ≤ rwt b) → ∃ τ1, FR [] [4] τ τ1 ∧ BTS T (neE T f d i) τ1 ∧ X10_readLabel_31 (nI f) m x2 (nI (cap acc)) (nI pw) τ = X10_readLabel_160 (nI f) FU x2 (nI (cap (fin T f (neE T f d i - i) i pw acc))) 0 τ1 := by
  intro d
  induction d with
  | zero =>
    intro i m acc pw τ hi hm h hpw hp
    obtain ⟨m, rfl⟩ : ∃ z, m = z + 1 := ⟨m - 1, by omega⟩
    refine ⟨τ, FR.rf, h, ?_⟩
    unfold X10_readLabel_31
    rw [x10_peek h hT hB (by omega), bd_s, if_neg (by omega), tst_m1 f hf, bd_s, if_pos rfl]
    have e : neE T f 0 i - i = 0 := Nat.sub_self i
    rw [e]
    have e2 : fin T f 0 i pw acc = acc := by
      unfold fin
      split
      · rfl
      · split <;> rfl
    rw [e2]
  | succ d ih =>
    intro i m acc pw τ hi hm h hpw hp
    obtain ⟨m, rfl⟩ : ∃ z, m = z + 1 := ⟨m - 1, by omega⟩
    have hlt : i < T.length := by omega
    have hb := hB i hlt
    have hpk := x10_peek h hT hB (by omega)
    rw [if_pos hlt] at hpk
    unfold X10_readLabel_31
    rw [hpk, bd_s, tst_tab f hf _ hb, bd_s]
    have hc := cap_le acc
    by_cases hfit : fitN f (T.getD i 0) = true
    · have hne : neE T f (d + 1) i = neE T f d (i + 1) := if_pos hfit
      have hge := (neE_ge T f d (i + 1)).1
      have hadv := h.adv
      rw [if_pos hfit, if_neg (show ¬ (1 : Int32) = 0 by decide), bd_s, hne]
      obtain ⟨k, hk⟩ : ∃ k, neE T f d (i + 1) - i = k + 1 := ⟨neE T f d (i + 1) - i - 1, by omega⟩
      have hk' : neE T f d (i + 1) - (i + 1) = k := by omega
      have fr1 : FR [] [4] τ (up τ 0 4 (τ 0 4 + 1)) := FR.rf.fld (by decide)
      rw [hk]
      rcases (show f = 0 ∨ f = 1 ∨ f = 2 ∨ f = 3 by omega) with rfl | rfl | rfl | rfl
      · have hlo := (fit_lo _ hb).1 hfit
        obtain ⟨τ1, g1, g2, g3⟩ := ih (i + 1) m (acc * 10 + dvl 0 (T.getD i 0)) pw _ (by omega) (by omega) hadv hpw hp
        rw [hk'] at g3
        refine ⟨τ1, fr1.tr g1, g2, ?_⟩
        have e1 : (10 : Int32) * nI (cap acc) = nI (10 * cap acc) := pk_mul 10 _
        have e2 : nI (10 * cap acc + T.getD i 0) - 48 = nI (cap acc * 10 + dvl 0 (T.getD i 0)) := by
          have : nI (10 * cap acc + T.getD i 0) - 48 = nI (10 * cap acc + T.getD i 0 - 48) := pk_sub (b := 48) (by omega)
          rw [this]
          congr 1
          show _ = cap acc * 10 + (T.getD i 0 - 48)
          omega
        have hd : dvl 0 (T.getD i 0) ≤ 256 := by
          show T.getD i 0 - 48 ≤ 256
          omega
        rw [if_pos (show nI 0 = 0 from rfl)]
        simp only [lt]
        rw [e1, nI_add, e2, x10_131 (by omega), cap_mul _ _ _ (by omega)]
        exact g3
      · have hwb := (tst_rw _ hb).1 hfit
        obtain ⟨τ1, g1, g2, g3⟩ := ih (i + 1) m (acc + rwt (T.getD i 0) - pen pw (rwt (T.getD i 0))) (rwt (T.getD i 0)) _ (by omega) (by omega) hadv (rwt_1000 _) (fun b => pen_le _ _)
        rw [hk'] at g3
        refine ⟨τ1, fr1.tr g1, g2, ?_⟩
        rw [if_neg (show ¬ nI 1 = 0 by decide), if_neg (show ¬ nI 1 = 2 by decide), if_neg (show ¬ nI 1 = 3 by decide), x10_100 hwb (rwt_1000 _) hpw (hp _)]
        exact g3
      · have hlo := (fit_lo _ hb).2.1 hfit
        obtain ⟨τ1, g1, g2, g3⟩ := ih (i + 1) m (acc * 26 + dvl 2 (T.getD i 0)) pw _ (by omega) (by omega) hadv hpw hp
        rw [hk'] at g3
        refine ⟨τ1, fr1.tr g1, g2, ?_⟩
        have e1 : (26 : Int32) * nI (cap acc) = nI (26 * cap acc) := pk_mul 26 _
        have e2 : nI (26 * cap acc + T.getD i 0) - 96 = nI (cap acc * 26 + dvl 2 (T.getD i 0)) := by
          have : nI (26 * cap acc + T.getD i 0) - 96 = nI (26 * cap acc + T.getD i 0 - 96) := pk_sub (b := 96) (by omega)
          rw [this]
          congr 1
          show _ = cap acc * 26 + (T.getD i 0 - 96)
          omega
        have hd : dvl 2 (T.getD i 0) ≤ 256 := by
          show T.getD i 0 - 96 ≤ 256
          omega
        rw [if_neg (show ¬ nI 2 = 0 by decide), if_pos (show nI 2 = 2 from rfl)]
        simp only [lt]
        rw [e1, nI_add, e2, x10_131 (by omega), cap_mul _ _ _ (by omega)]
        exact g3
      · have hwb := (tst_rw _ hb).2 hfit
        obtain ⟨τ1, g1, g2, g3⟩ := ih (i + 1) m (acc + rwt (T.getD i 0 - 32) - pen pw (rwt (T.getD i 0 - 32))) (rwt (T.getD i 0 - 32)) _ (by omega) (by omega) hadv (rwt_1000 _) (fun b => pen_le _ _)
        rw [hk'] at g3
        refine ⟨τ1, fr1.tr g1, g2, ?_⟩
        rw [if_neg (show ¬ nI 3 = 0 by decide), if_neg (show ¬ nI 3 = 2 by decide), if_pos (show nI 3 = 3 from rfl), x10_100 hwb (rwt_1000 _) hpw (hp _)]
        exact g3
    · have hne : neE T f (d + 1) i = i := if_neg hfit
      refine ⟨τ, FR.rf, by rw [hne]; exact h, ?_⟩
      rw [if_neg hfit, if_pos rfl, hne, Nat.sub_self]
      have e2 : fin T f 0 i pw acc = acc := by
        unfold fin
        split
        · rfl
        · split <;> rfl
      rw [e2]
theorem x10_254 {T : List Nat} {a1 x2 x3 : Int32} {s : Nat} (hT : T.length ≤ 200) (hB : ∀ i, i < T.length → T.getD i 0 < 256) : ∀ (d i m : Nat) (τ : Mem), i + d = T.length → s ≤ i → d < m → BTS T i τ → HD τ (gS T s i) → ∃ τ1, FR [17] [4] τ τ1 ∧ BTS T (ceE T d i) τ1 ∧ HD τ1 (gS T s (ceE T d i)) ∧ X10_readLabel_254 a1 m x2 x3 (nI (i - s)) τ = X10_readLabel_300 a1 x2 x3 (nI (ceE T d i - s)) τ1 := by
  intro d
  induction d with
  | zero =>
    intro i m τ hi hs hm h hh
    obtain ⟨m, rfl⟩ : ∃ z, m = z + 1 := ⟨m - 1, by omega⟩
    refine ⟨τ, FR.rf, h, hh, ?_⟩
    unfold X10_readLabel_254
    rw [x10_peek h hT hB (by omega), bd_s, if_neg (by omega), show X10_isGreat (-1) = some 0 from rfl, bd_s, if_pos rfl]
    rfl
  | succ d ih =>
    intro i m τ hi hs hm h hh
    obtain ⟨m, rfl⟩ : ∃ z, m = z + 1 := ⟨m - 1, by omega⟩
    have hlt : i < T.length := by omega
    have hb := hB i hlt
    have hpk := x10_peek h hT hB (by omega)
    rw [if_pos hlt] at hpk
    unfold X10_readLabel_254
    rw [hpk, bd_s, x10_great hb, bd_s]
    by_cases hg : 65 ≤ T.getD i 0 ∧ T.getD i 0 ≤ 90
    · have hg' : isG (T.getD i 0) = true := by
        unfold isG
        rw [Bool.and_eq_true, decide_eq_true_eq, decide_eq_true_eq]
        exact hg
      have hne : ceE T (d + 1) i = ceE T d (i + 1) := if_pos hg'
      rw [if_pos hg, if_neg (show ¬ (1 : Int32) = 0 by decide), hne, bd_s]
      by_cases h4 : 4 ≤ i - s
      · have hh' : HD (up τ 0 4 (τ 0 4 + 1)) (gS T s (i + 1)) := HD.cong hh (fun j hj => by
          unfold gS
          rw [if_pos (by omega), if_pos (by omega)])
        obtain ⟨τ1, g1, g2, g3, g4⟩ := ih (i + 1) m _ (by omega) (by omega) (by omega) h.adv hh'
        refine ⟨τ1, (FR.rf.fld (by decide)).tr g1, g2, g3, ?_⟩
        rw [if_pos (show (4 : Int32) ≤ nI (i - s) from nI_le (a := 4) h4 (by omega))]
        unfold X10_readLabel_284
        simp only [lt]
        rw [nI_1, show i - s + 1 = i + 1 - s by omega]
        exact g4
      · have e64 : nI (T.getD i 0) - 64 = nI (T.getD i 0 - 64) := i32_sub64 (by omega)
        have hh' : HD (up (up τ 17 (i - s) (nI (T.getD i 0 - 64))) 0 4 (up τ 17 (i - s) (nI (T.getD i 0 - 64)) 0 4 + 1)) (gS T s (i + 1)) := HD.cong (HD_ud hh (i := i - s) (l := T.getD i 0 - 64) (by omega)) (fun j hj => by
          unfold gS
          by_cases z : j = i - s
          · rw [z, ud_s, if_pos (by omega), show s + (i - s) = i by omega]
          · rw [ud_n z]
            by_cases z2 : j < i - s
            · rw [if_pos z2, if_pos (by omega)]
            · rw [if_neg z2, if_neg (by omega)])
        have hadv : BTS T (i + 1) (up (up τ 17 (i - s) (nI (T.getD i 0 - 64))) 0 4 (up τ 17 (i - s) (nI (T.getD i 0 - 64)) 0 4 + 1)) := BTS.adv (p := i) h
        obtain ⟨τ1, g1, g2, g3, g4⟩ := ih (i + 1) m _ (by omega) (by omega) (by omega) hadv hh'
        refine ⟨τ1, (((FR.rf.cel (c := 17) (by decide) (by decide)).fld (by decide))).tr g1, g2, g3, ?_⟩
        rw [if_neg (show ¬ (4 : Int32) ≤ nI (i - s) from nI_ge (b := 4) (by omega) (by omega)), gd_i (vp_in_nI (by omega) (by omega)), nI_clamp (by omega), e64]
        unfold X10_readLabel_284
        simp only [lt]
        rw [nI_1, show i - s + 1 = i + 1 - s by omega]
        exact g4
    · have hg' : ¬ isG (T.getD i 0) = true := by
        unfold isG
        rw [Bool.and_eq_true, decide_eq_true_eq, decide_eq_true_eq]
        exact hg
      have hne : ceE T (d + 1) i = i := if_neg hg'
      rw [if_neg hg, if_pos rfl, hne]
      exact ⟨τ, FR.rf, h, hh, rfl⟩
