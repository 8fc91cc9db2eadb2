/-! own words: pure part: a label read by the class: what the reader holds then -/
theorem x4_fail {μ : Mem} {a1 a2 : Int32} : X4_failAt a1 a2 μ = some (up (up μ 0 2 a2) 0 3 a1) := rfl
/-- what stays in a reader's world: the tape -/
def ST (μ μ1 : Mem) : Prop := μ1 3 = μ 3 ∧ μ1 4 = μ 4
theorem x4_157 {μ : Mem} {p : Nat} {a3 : Int32} : ∃ μ1, X4_readAt_157 (nI p) a3 μ = some μ1 ∧ ST μ μ1 ∧ μ1 0 2 = nI 2 ∧ μ1 0 3 = nI p := ⟨_, rfl, ⟨rfl, rfl⟩, rfl, rfl⟩
theorem cA_ne {n : Nat} {g : Nat → Nat} (h : 1 ≤ n) (h9 : n ≤ 999) (hg : G26 g) : ¬ nI (cA n g) = 0 := nI_ne0 (by unfold cA; omega) (cA_lt (by omega) hg)
theorem x4_121 {T : List Nat} {μ : Mem} {f p e s q : Nat} (h : TXT T (mp μ [3, 4])) (hf : f < 4) (hpe : p < e) (hes : e ≤ s) (hsq : s ≤ q) (hq : q ≤ T.length) (h1 : μ 0 1 = nI q) (h2 : μ 0 2 = 0) (hfit : ∀ j, p ≤ j → j < e → fitN f (T.getD j 0) = true) (hg : ∀ j, s ≤ j → j < q → isG (T.getD j 0) = true) : ∃ μ1, X4_readAt_121 (nI p) (nI f) (nI e) (nI s) μ = some μ1 ∧ ST μ μ1 ∧ (GL T f p e s q → μ1 0 2 = 0 ∧ μ1 0 0 = nI (cA (VAL T f p e) (gS T s q)) ∧ μ1 0 1 = nI q) ∧ (¬ GL T f p e s q → μ1 0 2 = nI 2 ∧ μ1 0 3 = nI p) := by
  have h200 := h.1
  obtain ⟨v, n1, n2, n3, n4⟩ := x1_num h hf hpe (by omega) hfit
  have m1 := x4_meant h hq hsq h1 hg n4
  have u : ∀ r, X4_meant (nI s) (nI v) μ = some r → X4_readAt_121 (nI p) (nI f) (nI e) (nI s) μ = if r = 0 then X4_readAt_157 (nI p) (nI f) (up μ 0 0 r) else bd (X4_isAsWritten (nI p) (nI f) (up μ 0 0 r)) fun r7 => if r7.1 = 0 then X4_readAt_157 (nI p) (nI f) r7.2 else some r7.2 := fun r hr => by
    unfold X4_readAt_121
    rw [n1, bd_s, hr, bd_s]
    rfl
  by_cases hc : 1 ≤ v ∧ v ≤ 999 ∧ q - s ≤ 4
  · have hV : v = VAL T f p e := by
      rcases Nat.lt_or_ge 999 (VAL T f p e) with z | z
      · have := n3 z
        omega
      · exact n2 z
    obtain ⟨hc1, hc2, hc3⟩ := hc
    subst hV
    obtain ⟨g26, gc, gn⟩ := gS_ok hc3 hg
    rw [if_pos (show 1 ≤ VAL T f p e ∧ VAL T f p e ≤ 999 ∧ q - s ≤ 4 from ⟨hc1, hc2, hc3⟩)] at m1
    rw [u _ m1, if_neg (cA_ne hc1 hc2 g26)]
    obtain ⟨μ1, w1, w2⟩ := x1_write (T := []) (μ := mp (up (up μ 0 0 (nI (cA (VAL T f p e) (gS T s q)))) 1 1 0) [1, 2]) (f := f) ⟨hc1, hc2, g26, gc⟩ hf (TXT.nil rfl) (by simp)
    rw [List.nil_append] at w2
    have h' : TXT T (mp (mp (mg (up (up μ 0 0 (nI (cA (VAL T f p e) (gS T s q)))) 1 1 0) [1, 2] μ1) [3, 4, 1, 2]) [0, 1]) := h
    have w2' : TXT (wlab f (VAL T f p e) (gS T s q)) (mp (mp (mg (up (up μ 0 0 (nI (cA (VAL T f p e) (gS T s q)))) 1 1 0) [1, 2] μ1) [3, 4, 1, 2]) [2, 3]) := w2
    obtain ⟨r, p1, p2, p3⟩ := x8_part (p := p) (q := q) h' w2' hq (by omega)
    have ea : X4_isAsWritten (nI p) (nI f) (up μ 0 0 (nI (cA (VAL T f p e) (gS T s q)))) = some (r, mg (up (up μ 0 0 (nI (cA (VAL T f p e) (gS T s q)))) 1 1 0) [1, 2] μ1) := by
      unfold X4_isAsWritten
      simp only [lt]
      have e0 : up (up μ 0 0 (nI (cA (VAL T f p e) (gS T s q)))) 1 1 0 0 0 = nI (cA (VAL T f p e) (gS T s q)) := rfl
      have e1 : mg (up (up μ 0 0 (nI (cA (VAL T f p e) (gS T s q)))) 1 1 0) [1, 2] μ1 0 1 = nI q := h1
      rw [e0, w1, bd_s, e1, p1, bd_s]
      refine if_pos ?_
      by_cases z : SEG T p q (wlab f (VAL T f p e) (gS T s q))
      · exact Or.inr (p2 z)
      · exact Or.inl (p3 z)
    rw [ea, bd_s]
    by_cases z : SEG T p q (wlab f (VAL T f p e) (gS T s q))
    · rw [if_neg (show ¬ r = 0 by rw [p2 z]; decide)]
      exact ⟨_, rfl, ⟨rfl, rfl⟩, fun _ => ⟨h2, rfl, h1⟩, fun k => absurd ⟨hc1, hc2, hc3, z⟩ k⟩
    · rw [if_pos (show r = 0 from p3 z)]
      obtain ⟨μ2, f1, f2, f3, f4⟩ := x4_157 (μ := mg (up (up μ 0 0 (nI (cA (VAL T f p e) (gS T s q)))) 1 1 0) [1, 2] μ1) (p := p) (a3 := nI f)
      exact ⟨μ2, f1, f2, fun k => absurd k.2.2.2 z, fun _ => ⟨f3, f4⟩⟩
  · rw [if_neg hc] at m1
    rw [u _ m1, if_pos rfl]
    obtain ⟨μ2, f1, f2, f3, f4⟩ := x4_157 (μ := up μ 0 0 0) (p := p) (a3 := nI f)
    refine ⟨μ2, f1, f2, fun k => ?_, fun _ => ⟨f3, f4⟩⟩
    obtain ⟨k1, k2, k3, -⟩ := k
    have := n2 k2
    exact absurd (by rw [this]; exact ⟨k1, k2, k3⟩) hc
/-- what reading from p on gives: 0 good, 1 broken off, 2 no label -/
theorem x4_read {T : List Nat} {μ : Mem} {f p : Nat} (h : TXT T (mp μ [3, 4])) (hf : f < 4) (hp : p ≤ T.length) : ∃ μ1, X4_readAt (nI p) (nI f) μ = some μ1 ∧ ST μ μ1 ∧
    (eN T f p = p → μ1 0 2 = nI 1 ∧ μ1 0 3 = nI p) ∧
    (eN T f p ≠ p → (f ≠ 0 ∧ T.getD (eN T f p) 0 = 45 ∧ qS T f p = sS T f p) → μ1 0 2 = nI 1 ∧ μ1 0 3 = nI (sS T f p)) ∧
    (eN T f p ≠ p → ¬ (f ≠ 0 ∧ T.getD (eN T f p) 0 = 45 ∧ qS T f p = sS T f p) →
      (GL T f p (eN T f p) (sS T f p) (qS T f p) → μ1 0 2 = 0 ∧ μ1 0 0 = nI (cA (VAL T f p (eN T f p)) (gS T (sS T f p) (qS T f p))) ∧ μ1 0 1 = nI (qS T f p)) ∧
      (¬ GL T f p (eN T f p) (sS T f p) (qS T f p) → μ1 0 2 = nI 2 ∧ μ1 0 3 = nI p)) := by
  have h200 := h.1
  obtain ⟨n1, n2⟩ := neE_ge T f (T.length - p) p
  have hfit := neE_fit T f (T.length - p) p
  change p ≤ eN T f p at n1
  change eN T f p ≤ _ at n2
  change ∀ j, p ≤ j → j < eN T f p → _ at hfit
  generalize hμ0 : up (up (up μ 0 2 0) 0 3 (-1)) 0 0 0 = μ0
  have h0 : TXT T (mp μ0 [3, 4]) := by rw [← hμ0]; exact h
  have hst : ST μ μ0 := by rw [← hμ0]; exact ⟨rfl, rfl⟩
  have h02 : μ0 0 2 = 0 := by rw [← hμ0]; rfl
  have u : X4_readAt (nI p) (nI f) μ = bd (X4_numeralsEnd (nI p) (nI f) (mp μ0 [3, 4])) fun r23 => if r23 = nI p then bd (X4_failAt (nI p) 1 (mp μ0 [0, 1, 2])) fun r28 => lt (mg μ0 [0, 1, 2] r28) fun σ29 => some σ29 else if nI f = 0 then X4_readAt_55 (nI p) (nI f) r23 μ0 else bd (X8_byteAt r23 (mp μ0 [3, 4])) fun r26 => if r26 = 45 then X4_readAt_56 (nI p) (nI f) r23 1 μ0 else X4_readAt_55 (nI p) (nI f) r23 μ0 := by
    rw [← hμ0]
    rfl
  have ne' : X4_numeralsEnd (nI p) (nI f) (mp μ0 [3, 4]) = some (nI (eN T f p)) := x4_ne (a1 := nI p) h0 hf (T.length - p) p FU (by omega) (by unfold FU; omega)
  rw [u, ne', bd_s]
  clear u ne' hμ0
  by_cases he : eN T f p = p
  · rw [if_pos (by rw [he]), x4_fail, bd_s]
    exact ⟨_, rfl, hst, fun _ => ⟨rfl, rfl⟩, fun z => absurd he z, fun z => absurd he z⟩
  · rw [if_neg (fun z => he ((nI_eq (by omega) (by omega)).mp z))]
    have hge := ceE_ge T
    -- the last steps: letters from s on, with a dash ahead or none
    have k99 : ∀ (d : Nat) (s : Nat), eN T f p ≤ s → s ≤ T.length → d < 2 → (d = 1 ↔ f ≠ 0 ∧ T.getD (eN T f p) 0 = 45) → sS T f p = s → ∀ (q : Nat) (μq : Mem), ST μ μq → μq 0 2 = 0 → TXT T (mp μq [3, 4]) → s ≤ q → q ≤ T.length → qS T f p = q → μq 0 1 = nI q → (∀ j, s ≤ j → j < q → isG (T.getD j 0) = true) → ∃ μ1, X4_readAt_99 (nI p) (nI f) (nI (eN T f p)) (nI d) (nI s) μq = some μ1 ∧ ST μ μ1 ∧
        (eN T f p = p → μ1 0 2 = nI 1 ∧ μ1 0 3 = nI p) ∧
        (eN T f p ≠ p → (f ≠ 0 ∧ T.getD (eN T f p) 0 = 45 ∧ qS T f p = sS T f p) → μ1 0 2 = nI 1 ∧ μ1 0 3 = nI (sS T f p)) ∧
        (eN T f p ≠ p → ¬ (f ≠ 0 ∧ T.getD (eN T f p) 0 = 45 ∧ qS T f p = sS T f p) →
          (GL T f p (eN T f p) (sS T f p) (qS T f p) → μ1 0 2 = 0 ∧ μ1 0 0 = nI (cA (VAL T f p (eN T f p)) (gS T (sS T f p) (qS T f p))) ∧ μ1 0 1 = nI (qS T f p)) ∧
          (¬ GL T f p (eN T f p) (sS T f p) (qS T f p) → μ1 0 2 = nI 2 ∧ μ1 0 3 = nI p)) := by
      intro d s hs1 hs2 hd hd1 hss q μq t1 t2 t3 hsq hq hqq t4 t5
      rw [hss, hqq]
      have k121 := x4_121 t3 hf (show p < eN T f p by omega) hs1 hsq hq t4 t2 hfit t5
      unfold X4_readAt_99
      have go : ¬ (f ≠ 0 ∧ T.getD (eN T f p) 0 = 45 ∧ q = s) → ∃ μ1, X4_readAt_121 (nI p) (nI f) (nI (eN T f p)) (nI s) μq = some μ1 ∧ ST μ μ1 ∧
        (eN T f p = p → μ1 0 2 = nI 1 ∧ μ1 0 3 = nI p) ∧
        (eN T f p ≠ p → (f ≠ 0 ∧ T.getD (eN T f p) 0 = 45 ∧ q = s) → μ1 0 2 = nI 1 ∧ μ1 0 3 = nI s) ∧
        (eN T f p ≠ p → ¬ (f ≠ 0 ∧ T.getD (eN T f p) 0 = 45 ∧ q = s) →
          (GL T f p (eN T f p) s q → μ1 0 2 = 0 ∧ μ1 0 0 = nI (cA (VAL T f p (eN T f p)) (gS T s q)) ∧ μ1 0 1 = nI q) ∧
          (¬ GL T f p (eN T f p) s q → μ1 0 2 = nI 2 ∧ μ1 0 3 = nI p)) := fun hn => by
        obtain ⟨μ1, g1, g2, g3, g4⟩ := k121
        exact ⟨μ1, g1, ⟨g2.1.trans t1.1, g2.2.trans t1.2⟩, fun z => absurd z he, fun _ z => absurd z hn, fun _ _ => ⟨g3, g4⟩⟩
      rcases (show d = 0 ∨ d = 1 by omega) with rfl | rfl
      · rw [if_pos (show nI 0 = 0 from rfl)]
        exact go (fun z => absurd (hd1.mpr ⟨z.1, z.2.1⟩) (by decide))
      · rw [if_neg (show ¬ nI 1 = 0 by decide), t4]
        by_cases z : q = s
        · rw [if_pos (by rw [z]), x4_fail, bd_s]
          exact ⟨_, rfl, t1, fun k => absurd k he, fun _ _ => ⟨rfl, rfl⟩, fun _ k => absurd ⟨(hd1.mp rfl).1, (hd1.mp rfl).2, z⟩ k⟩
        · rw [if_neg (fun k => z ((nI_eq (by omega) (by omega)).mp k))]
          exact go (fun k => z k.2.2)
    have k89 : ∀ (d : Nat) (s : Nat), eN T f p ≤ s → s ≤ T.length → d < 2 → (d = 1 ↔ f ≠ 0 ∧ T.getD (eN T f p) 0 = 45) → sS T f p = s → (f = 0 ∨ T.getD (eN T f p) 0 = 45) → ∀ (μq : Mem), ST μ μq → μq 0 2 = 0 → TXT T (mp μq [3, 4]) → ∃ μ1, X4_readAt_89 (nI p) (nI f) (nI (eN T f p)) (nI d) (nI s) μq = some μ1 ∧ ST μ μ1 ∧
        (eN T f p = p → μ1 0 2 = nI 1 ∧ μ1 0 3 = nI p) ∧
        (eN T f p ≠ p → (f ≠ 0 ∧ T.getD (eN T f p) 0 = 45 ∧ qS T f p = sS T f p) → μ1 0 2 = nI 1 ∧ μ1 0 3 = nI (sS T f p)) ∧
        (eN T f p ≠ p → ¬ (f ≠ 0 ∧ T.getD (eN T f p) 0 = 45 ∧ qS T f p = sS T f p) →
          (GL T f p (eN T f p) (sS T f p) (qS T f p) → μ1 0 2 = 0 ∧ μ1 0 0 = nI (cA (VAL T f p (eN T f p)) (gS T (sS T f p) (qS T f p))) ∧ μ1 0 1 = nI (qS T f p)) ∧
          (¬ GL T f p (eN T f p) (sS T f p) (qS T f p) → μ1 0 2 = nI 2 ∧ μ1 0 3 = nI p)) := by
      intro d s hs1 hs2 hd hd1 hss hor μq t1 t2 t3
      have ce := x4_ce (a1 := nI s) t3 (T.length - s) s FU (by omega) (by unfold FU; omega)
      have ce' : X4_capitalsEnd (nI s) (mp μq [3, 4]) = some (nI (ceE T (T.length - s) s)) := ce
      obtain ⟨c1, c2⟩ := ceE_ge T (T.length - s) s
      have c3 := ceE_fit T (T.length - s) s
      have hqq : qS T f p = ceE T (T.length - s) s := by
        unfold qS
        rw [if_pos hor, hss]
      unfold X4_readAt_89
      rw [ce', bd_s]
      simp only [lt]
      exact k99 d s hs1 hs2 hd hd1 hss _ (up μq 0 1 (nI (ceE T (T.length - s) s))) t1 t2 t3 c1 (by omega) hqq rfl c3
    by_cases hf0 : f = 0
    · subst hf0
      have hss : sS T 0 p = eN T 0 p := if_neg (fun z => z.1 rfl)
      rw [if_pos (show nI 0 = 0 from rfl)]
      exact k89 0 (eN T 0 p) (Nat.le_refl _) (by omega) (by omega) ⟨fun z => absurd z (by decide), fun z => absurd rfl z.1⟩ hss (Or.inl rfl) (up μ0 0 1 (nI (eN T 0 p))) hst h02 h0
    · rw [if_neg (nI_ne0 (by omega) (by omega)), x8_byteAt h0 (by omega), bd_s]
      by_cases hd : T.getD (eN T f p) 0 = 45
      · have hlt : eN T f p < T.length := by
          rcases Nat.lt_or_ge (eN T f p) T.length with z | z
          · exact z
          · rw [getD_len T z] at hd
            exact absurd hd (by decide)
        have hss : sS T f p = eN T f p + 1 := if_pos ⟨hf0, hd⟩
        rw [if_pos hlt, if_pos (by rw [hd]; rfl)]
        have k := k89 1 (eN T f p + 1) (by omega) (by omega) (by omega) ⟨fun _ => ⟨hf0, hd⟩, fun _ => rfl⟩ hss (Or.inr hd) (up μ0 0 1 (nI (eN T f p + 1))) hst h02 h0
        have e56 : X4_readAt_56 (nI p) (nI f) (nI (eN T f p)) 1 μ0 = X4_readAt_89 (nI p) (nI f) (nI (eN T f p)) (nI 1) (nI (eN T f p + 1)) (up μ0 0 1 (nI (eN T f p + 1))) := by
          unfold X4_readAt_56 X4_readAt_72
          simp only [lt]
          rw [if_neg (show ¬ (1 : Int32) = 0 by decide), if_neg (show ¬ (1 : Int32) = 0 by decide), nI_1]
          rfl
        rw [e56]
        exact k
      · have hss : sS T f p = eN T f p := if_neg (fun z => hd z.2)
        have hqq : qS T f p = eN T f p := by
          unfold qS
          rw [if_neg (fun z => z.elim hf0 hd), hss]
        have h45 : ¬ (if eN T f p < T.length then nI (T.getD (eN T f p) 0) else -1) = 45 := by
          by_cases hlt : eN T f p < T.length
          · have hb := h.2.2.2 _ hlt
            rw [if_pos hlt]
            exact fun z => hd ((nI_eq (b := 45) (by omega) (by omega)).mp z)
          · rw [if_neg hlt]
            decide
        rw [if_neg h45]
        have k := k99 0 (eN T f p) (Nat.le_refl _) (by omega) (by omega) ⟨fun z => absurd z (by decide), fun z => absurd z.2 hd⟩ hss _ (up μ0 0 1 (nI (eN T f p))) hst h02 h0 (Nat.le_refl _) (by omega) hqq rfl (fun j h1 h2 => absurd h2 (by omega))
        have e55 : X4_readAt_55 (nI p) (nI f) (nI (eN T f p)) μ0 = X4_readAt_99 (nI p) (nI f) (nI (eN T f p)) (nI 0) (nI (eN T f p)) (up μ0 0 1 (nI (eN T f p))) := by
          unfold X4_readAt_55 X4_readAt_56 X4_readAt_72
          rw [if_pos rfl]
          show (if (0 : Int32) = 0 then (if nI f = 0 then X4_readAt_89 (nI p) (nI f) (nI (eN T f p)) 0 (nI (eN T f p)) (up μ0 0 1 (nI (eN T f p))) else X4_readAt_99 (nI p) (nI f) (nI (eN T f p)) (nI 0) (nI (eN T f p)) (up μ0 0 1 (nI (eN T f p)))) else X4_readAt_89 (nI p) (nI f) (nI (eN T f p)) 0 (nI (eN T f p)) (up μ0 0 1 (nI (eN T f p)))) = _
          rw [if_pos rfl, if_neg (nI_ne0 (by omega) (by omega))]
        rw [e55]
        exact k
