/-! own words: pure part: what class and reference hold -/
abbrev C4 : Type := Nat × Nat × Nat × Nat
abbrev A3 : Type := Nat × Nat × List C4
def TXT (T : List Nat) (μ : Mem) : Prop := T.length ≤ 200 ∧ μ 0 1 = nI T.length ∧ (∀ i, i < T.length → μ 1 i = nI (T.getD i 0)) ∧ ∀ i, i < T.length → T.getD i 0 < 256
def sb (t : Nat) : Int32 := if t < 128 then nI t else nI t - 256
def BTP (T : List Nat) (τ : Mem) : Prop := τ 0 2 = nI T.length ∧ ∀ i, i < T.length → τ 1 i = sb (T.getD i 0)
def BTS (T : List Nat) (p : Nat) (τ : Mem) : Prop := τ 0 3 = nI T.length ∧ τ 0 4 = nI p ∧ ∀ i, i < T.length → τ 1 i = sb (T.getD i 0)
def BOUT (O : List Nat) (τ : Mem) : Prop := O.length ≤ 100 ∧ τ 0 32 = nI O.length ∧ (∀ i, i < O.length → τ 18 i = nI (O.getD i 0)) ∧ ∀ i, i < O.length → O.getD i 0 < 128
def CLV (L : Nat) (fm th : Nat → Nat) (μ : Mem) : Prop := μ 0 2 = nI L ∧ ∀ k, k < L → μ 1 k = nI (fm k) ∧ μ 2 k = nI (th k)
def BLV (L : Nat) (fm th : Nat → Nat) (τ : Mem) : Prop := τ 0 9 = nI L ∧ ∀ k, k < L → τ 2 k = nI (fm k) ∧ τ 4 k = nI (th k)
def WLV (L : Nat) (fm th : Nat → Nat) : Prop := 1 ≤ L ∧ L ≤ 4 ∧ ∀ k, k < L → fm k < 4 ∧ th k < 2
def eU : Nat → Int32
  | 0 => -1
  | j + 1 => nI j
def cnt (st : Nat → Nat) : Nat → Nat
  | 0 => 0
  | n + 1 => cnt st n + st n
def CIT (n : Nat) (lv ur cm st od : Nat → Nat) (μ : Mem) : Prop := μ 0 5 = nI n ∧ μ 0 6 = nI (cnt st n) ∧ (∀ k, k < n → μ 1 k = nI (lv k) ∧ μ 2 k = eU (ur k) ∧ μ 3 k = nI (cm k) ∧ μ 4 k = nI (st k)) ∧ ∀ p, p < n → μ 5 p = nI (od p)
def BIT (n : Nat) (lv ur cm st od : Nat → Nat) (τ : Mem) : Prop := τ 0 21 = nI n ∧ (∀ k, k < n → τ 6 k = nI (lv k) ∧ τ 7 k = eU (ur k) ∧ τ 8 k = nI (cm k) ∧ τ 10 k = nI (st k)) ∧ ∀ p, p < n → τ 9 p = nI (od p)
/-- the items: levels, what they lie under, the order of the text: each behind what it lies under, and nothing of that one's level between -/
def WIT (L n : Nat) (lv ur st od : Nat → Nat) : Prop := n ≤ 80 ∧ (∀ k, k < n → lv k < L ∧ st k < 2 ∧ (ur k = 0 → lv k = 0) ∧ ∀ j, ur k = j + 1 → j < k ∧ lv k = lv j + 1) ∧
  (∀ p, p < n → od p < n) ∧ (∀ p q, p < n → q < n → od p = od q → p = q) ∧ (∀ k, k < n → ∃ p, p < n ∧ od p = k) ∧
  ∀ q, q < n → ∀ j, ur (od q) = j + 1 → ∃ p, p < q ∧ od p = j ∧ ∀ r, p < r → r ≤ q → lv j < lv (od r)
-- the history: the changes, the latest first; an item, a day, a label of the class, the same of the reference
def latA : List C4 → Nat → Nat
  | [], _ => 0
  | (k', _, x, _) :: H, k => if k' = k then x else latA H k
def rlA : List C4 → Nat → Int32 → Nat
  | [], _, _ => 0
  | (k', d, x, _) :: H, k, on => if k' = k ∧ nI d ≤ on then x else rlA H k on
def rlB : List C4 → Nat → Int32 → Nat
  | [], _, _ => 0
  | (k', d, _, y) :: H, k, on => if k' = k ∧ nI d ≤ on then y else rlB H k on
/-- what the class keeps of it: no gift of what an item has already -/
def cmpH : List C4 → List C4
  | [] => []
  | (k, d, x, y) :: H => if latA H k = x then cmpH H else (k, d, x, y) :: cmpH H
def lix : List C4 → Nat → Int32
  | [], _ => -1
  | (k', _, _, _) :: G, k => if k' = k then nI G.length else lix G k
def ENT : List C4 → Mem → Prop
  | [], _ => True
  | (k, d, x, _) :: G, μ => (k < 80 ∧ μ 1 G.length = nI k ∧ μ 2 G.length = nI d ∧ μ 3 G.length = nI x ∧ μ 4 G.length = lix G k) ∧ ENT G μ
def CHI (G : List C4) (R : Nat) (μ : Mem) : Prop := μ 0 5 = nI G.length ∧ μ 6 0 = nI R ∧ 256 ≤ R ∧ R ≤ 40960 ∧ G.length ≤ R ∧ ENT G μ ∧ ∀ k, k < 80 → μ 5 k = lix G k
def ENB : List C4 → Mem → Prop
  | [], _ => True
  | (k, d, _, y) :: H, τ => (τ 11 H.length = nI k ∧ τ 12 H.length = nI d ∧ τ 13 H.length = nI y) ∧ ENB H τ
def BHI (H : List C4) (τ : Mem) : Prop := τ 0 25 = nI H.length ∧ ENB H τ
def WH : List C4 → Nat → Prop
  | [], _ => True
  | (k, d, x, y) :: H, D => k < 80 ∧ d ≤ D ∧ LRN x y ∧ WH H d
-- the acts: kind as the reference has it, item, the history ahead of it; the latest first
def ckd (r : Nat) : Nat := if r = 0 then 1 else if r = 1 then 2 else 3
def aAt (A : List A3) (j : Nat) : A3 := A.getD j (0, 0, [])
def CAC (A : List A3) (μ : Mem) : Prop := ∃ q, q < 100 ∧ μ 0 3 = nI q ∧ μ 0 4 = nI A.length ∧ A.length ≤ 100 ∧ ∀ j, j < A.length → μ 1 ((q + 99 - j) % 100) = nI (ckd (aAt A j).1) ∧ μ 2 ((q + 99 - j) % 100) = nI (aAt A j).2.1 ∧ μ 3 ((q + 99 - j) % 100) = nI (cmpH (aAt A j).2.2).length
def BAC (A : List A3) (τ : Mem) : Prop := τ 0 29 = nI A.length ∧ ∀ j, j < A.length → τ 14 (A.length - 1 - j) = nI (aAt A j).1 ∧ τ 15 (A.length - 1 - j) = nI (aAt A j).2.1 ∧ τ 16 (A.length - 1 - j) = nI (aAt A j).2.2.length
def AO : List A3 → Nat → (Nat → Nat) → List C4 → Prop
  | [], _, _, _ => True
  | (r, i, Hs) :: A, n, st, H => i < n ∧ (∃ E, H = E ++ Hs) ∧ ((r = 0 ∧ i + 1 = n ∧ st i = 0 ∧ AO A (n - 1) st Hs) ∨ (r = 1 ∧ st i = 1 ∧ AO A n (ud st i 0) Hs) ∨ ((r = 2 ∨ r = 3) ∧ AO A n st Hs))
def fW : Nat → Nat := fun j => ([900, 500, 400, 100, 90, 50, 40, 10, 9, 5, 4, 1] : List Nat).getD j 0
def fG : Nat → Nat := fun j => ([57, 6, 56, 5, 35, 4, 34, 3, 13, 2, 12, 1] : List Nat).getD j 0
def BCO (τ : Mem) : Prop := ∀ k, k < 12 → τ 19 k = nI (fW k) ∧ τ 20 k = nI (fG k)
def KOK (R κ : Nat) : Prop := (R < 40960 ∧ κ ≤ 9 * R) ∨ (R = 40960 ∧ κ ≤ 532484)
def RC (T O : List Nat) (L : Nat) (fm th : Nat → Nat) (dy n : Nat) (lv ur cm st od : Nat → Nat) (H : List C4) (R : Nat) (A : List A3) (σ : Mem) : Prop :=
  TXT T (mp σ [1, 2]) ∧ TXT O (mp σ [3, 4]) ∧ CLV L fm th (mp σ [5, 6, 7]) ∧ CIT n lv ur cm st od (mp σ [15, 16, 17, 18, 19, 20]) ∧ CHI (cmpH H) R (mp σ [21, 22, 23, 24, 25, 26, 32]) ∧ CAC A (mp σ [27, 28, 29, 30]) ∧ σ 0 10 = nI dy
def RR (T O : List Nat) (L : Nat) (fm th : Nat → Nat) (dy n : Nat) (lv ur cm st od : Nat → Nat) (H : List C4) (A : List A3) (τ : Mem) : Prop :=
  BTP T τ ∧ BOUT O τ ∧ BLV L fm th τ ∧ BIT n lv ur cm st od τ ∧ BHI H τ ∧ BAC A τ ∧ τ 0 11 = nI dy ∧ BCO τ
def RS4 (σ τ : Mem) : Prop := σ 0 11 = τ 0 12 ∧ σ 0 12 = τ 0 13 ∧ σ 0 13 = τ 0 40 ∧ σ 0 14 = τ 0 41
def RW (L : Nat) (fm th : Nat → Nat) (dy n : Nat) (lv ur st od : Nat → Nat) (H : List C4) (R : Nat) (A : List A3) (i κ : Nat) : Prop :=
  WLV L fm th ∧ WIT L n lv ur st od ∧ WH H dy ∧ dy ≤ 9999 ∧ AO A n st H ∧ 6 * H.length ≤ 80 * i ∧ KOK R κ
def Rel0 : RelT := fun i σ τ _ κ => ∃ (T O : List Nat) (L : Nat) (fm th : Nat → Nat) (dy n : Nat) (lv ur cm st od : Nat → Nat) (H : List C4) (R : Nat) (A : List A3),
  RC T O L fm th dy n lv ur cm st od H R A σ ∧ RR T O L fm th dy n lv ur cm st od H A τ ∧ RS4 σ τ ∧ RW L fm th dy n lv ur st od H R A i κ
theorem RW.skip {L : Nat} {fm th : Nat → Nat} {dy n : Nat} {lv ur st od : Nat → Nat} {H : List C4} {R : Nat} {A : List A3} {i κ : Nat} (h : RW L fm th dy n lv ur st od H R A i κ) : RW L fm th dy n lv ur st od H R A (i + 6) κ := by
  obtain ⟨a, b, c, d, e, f, g⟩ := h
  exact ⟨a, b, c, d, e, by omega, g⟩
theorem pu_skip : PU_skip Rel0 := by
  intro i σ τ w κ h
  obtain ⟨T, O, L, fm, th, dy, n, lv, ur, cm, st, od, H, R, A, c, r, s4, hw⟩ := h
  exact ⟨T, O, L, fm, th, dy, n, lv, ur, cm, st, od, H, R, A, c, r, s4, hw.skip⟩
theorem pu_cap : PU_cap Rel0 := by
  intro i σ τ w κ h
  obtain ⟨T, O, L, fm, th, dy, n, lv, ur, cm, st, od, H, R, A, c, r, s4, hw⟩ := h
  obtain ⟨-, -, -, -, -, -, hk⟩ := hw
  rcases hk with ⟨h1, h2⟩ | ⟨h1, h2⟩ <;> omega
/-- all but some cells and some fields the same -/
def FR (C K : List Nat) (τ τ1 : Mem) : Prop := (∀ c, c ∉ C → c ≠ 0 → τ1 c = τ c) ∧ ∀ k, k ∉ K → τ1 0 k = τ 0 k
theorem FR.rf {C K : List Nat} {τ : Mem} : FR C K τ τ := ⟨fun _ _ _ => rfl, fun _ _ => rfl⟩
theorem FR.tr {C K : List Nat} {τ τ1 τ2 : Mem} (h : FR C K τ τ1) (h2 : FR C K τ1 τ2) : FR C K τ τ2 := ⟨fun c hc h0 => (h2.1 c hc h0).trans (h.1 c hc h0), fun k hk => (h2.2 k hk).trans (h.2 k hk)⟩
theorem FR.mono {C K C' K' : List Nat} {τ τ1 : Mem} (h : FR C K τ τ1) (hC : ∀ c ∈ C, c ∈ C') (hK : ∀ k ∈ K, k ∈ K') : FR C' K' τ τ1 := ⟨fun c hc h0 => h.1 c (fun z => hc (hC c z)) h0, fun k hk => h.2 k (fun z => hk (hK k z))⟩
theorem FR.fld {C K : List Nat} {τ τ1 : Mem} (h : FR C K τ τ1) {k : Nat} (hk : k ∈ K) {v : Int32} : FR C K τ (up τ1 0 k v) := ⟨fun c hc h0 => (upc_n _ _ h0).trans (h.1 c hc h0), fun j hj => by
  have e : up τ1 0 k v 0 j = τ1 0 j := by
    unfold up
    rw [upc_s]
    have hne : j ≠ k := fun z => hj (by rw [z]; exact hk)
    exact pk_un hne
  exact e.trans (h.2 j hj)⟩
theorem FR.cel {C K : List Nat} {τ τ1 : Mem} (h : FR C K τ τ1) {c j : Nat} (hc : c ∈ C) (h0 : c ≠ 0) {v : Int32} : FR C K τ (up τ1 c j v) := ⟨fun c' hc' h0' => (upc_n _ _ (fun z : c' = c => hc' (by rw [z]; exact hc))).trans (h.1 c' hc' h0'), fun k hk => by
  have e : up τ1 c j v 0 = τ1 0 := upc_n _ _ (Ne.symm h0)
  rw [e]
  exact h.2 k hk⟩
theorem BOUT.fr {C K : List Nat} {τ τ1 : Mem} {O : List Nat} (h : BOUT O τ) (f : FR C K τ τ1) (hC : 18 ∉ C) (hK : 32 ∉ K) : BOUT O τ1 := by
  obtain ⟨a, b, c, d⟩ := h
  exact ⟨a, (f.2 32 hK).trans b, fun i hi => by rw [f.1 18 hC (by omega)]; exact c i hi, d⟩
theorem BTP.fr {C K : List Nat} {τ τ1 : Mem} {T : List Nat} (h : BTP T τ) (f : FR C K τ τ1) (hC : 1 ∉ C) (hK : 2 ∉ K) : BTP T τ1 :=
  ⟨(f.2 2 hK).trans h.1, fun i hi => by rw [f.1 1 hC (by omega)]; exact h.2 i hi⟩
theorem BTS.fr {C K : List Nat} {τ τ1 : Mem} {T : List Nat} {p : Nat} (h : BTS T p τ) (f : FR C K τ τ1) (hC : 1 ∉ C) (hK : 3 ∉ K ∧ 4 ∉ K) : BTS T p τ1 :=
  ⟨(f.2 3 hK.1).trans h.1, (f.2 4 hK.2).trans h.2.1, fun i hi => by rw [f.1 1 hC (by omega)]; exact h.2.2 i hi⟩
theorem BLV.fr {C K : List Nat} {τ τ1 : Mem} {L : Nat} {fm th : Nat → Nat} (h : BLV L fm th τ) (f : FR C K τ τ1) (hC : 2 ∉ C ∧ 4 ∉ C) (hK : 9 ∉ K) : BLV L fm th τ1 :=
  ⟨(f.2 9 hK).trans h.1, fun k hk => by rw [f.1 2 hC.1 (by omega), f.1 4 hC.2 (by omega)]; exact h.2 k hk⟩
theorem BIT.fr {C K : List Nat} {τ τ1 : Mem} {n : Nat} {lv ur cm st od : Nat → Nat} (h : BIT n lv ur cm st od τ) (f : FR C K τ τ1) (hC : 6 ∉ C ∧ 7 ∉ C ∧ 8 ∉ C ∧ 9 ∉ C ∧ 10 ∉ C) (hK : 21 ∉ K) : BIT n lv ur cm st od τ1 := by
  obtain ⟨h6, h7, h8, h9, h10⟩ := hC
  exact ⟨(f.2 21 hK).trans h.1, fun k hk => by rw [f.1 6 h6 (by omega), f.1 7 h7 (by omega), f.1 8 h8 (by omega), f.1 10 h10 (by omega)]; exact h.2.1 k hk, fun p hp => by rw [f.1 9 h9 (by omega)]; exact h.2.2 p hp⟩
theorem ENB.eq {τ τ1 : Mem} (e1 : τ1 11 = τ 11) (e2 : τ1 12 = τ 12) (e3 : τ1 13 = τ 13) : ∀ {H : List C4}, ENB H τ → ENB H τ1 := by
  intro H
  induction H with
  | nil => exact fun _ => trivial
  | cons a H ih =>
    obtain ⟨k, d, x, y⟩ := a
    intro h
    refine ⟨?_, ih h.2⟩
    rw [e1, e2, e3]
    exact h.1
theorem ENT.eq {μ μ1 : Mem} (e1 : μ1 1 = μ 1) (e2 : μ1 2 = μ 2) (e3 : μ1 3 = μ 3) (e4 : μ1 4 = μ 4) : ∀ {G : List C4}, ENT G μ → ENT G μ1 := by
  intro G
  induction G with
  | nil => exact fun _ => trivial
  | cons a G ih =>
    obtain ⟨k, d, x, y⟩ := a
    intro h
    refine ⟨?_, ih h.2⟩
    rw [e1, e2, e3, e4]
    exact h.1
theorem CHI.eq {G : List C4} {R : Nat} {μ μ1 : Mem} (h : CHI G R μ) (e0 : μ1 0 5 = μ 0 5) (e1 : μ1 1 = μ 1) (e2 : μ1 2 = μ 2) (e3 : μ1 3 = μ 3) (e4 : μ1 4 = μ 4) (e5 : μ1 5 = μ 5) (e6 : μ1 6 0 = μ 6 0) : CHI G R μ1 := by
  obtain ⟨a, b, c, d, e, f, g⟩ := h
  exact ⟨e0.trans a, e6.trans b, c, d, e, f.eq e1 e2 e3 e4, fun k hk => by rw [e5]; exact g k hk⟩
theorem BHI.fr {C K : List Nat} {τ τ1 : Mem} {H : List C4} (h : BHI H τ) (f : FR C K τ τ1) (hC : 11 ∉ C ∧ 12 ∉ C ∧ 13 ∉ C) (hK : 25 ∉ K) : BHI H τ1 :=
  ⟨(f.2 25 hK).trans h.1, ENB.eq (f.1 11 hC.1 (by omega)) (f.1 12 hC.2.1 (by omega)) (f.1 13 hC.2.2 (by omega)) h.2⟩
theorem BAC.fr {C K : List Nat} {τ τ1 : Mem} {A : List A3} (h : BAC A τ) (f : FR C K τ τ1) (hC : 14 ∉ C ∧ 15 ∉ C ∧ 16 ∉ C) (hK : 29 ∉ K) : BAC A τ1 :=
  ⟨(f.2 29 hK).trans h.1, fun j hj => by rw [f.1 14 hC.1 (by omega), f.1 15 hC.2.1 (by omega), f.1 16 hC.2.2 (by omega)]; exact h.2 j hj⟩
theorem BCO.fr {C K : List Nat} {τ τ1 : Mem} (h : BCO τ) (f : FR C K τ τ1) (hC : 19 ∉ C ∧ 20 ∉ C) : BCO τ1 := fun k hk => by
  rw [f.1 19 hC.1 (by omega), f.1 20 hC.2 (by omega)]
  exact h k hk
theorem RR.fr {T O : List Nat} {L : Nat} {fm th : Nat → Nat} {dy n : Nat} {lv ur cm st od : Nat → Nat} {H : List C4} {A : List A3} {τ τ1 : Mem} {C K : List Nat} (h : RR T O L fm th dy n lv ur cm st od H A τ) (f : FR C K τ τ1)
    (hC : (1 ∉ C ∧ 18 ∉ C ∧ 2 ∉ C ∧ 4 ∉ C) ∧ (6 ∉ C ∧ 7 ∉ C ∧ 8 ∉ C ∧ 9 ∉ C ∧ 10 ∉ C) ∧ (11 ∉ C ∧ 12 ∉ C ∧ 13 ∉ C) ∧ (14 ∉ C ∧ 15 ∉ C ∧ 16 ∉ C) ∧ (19 ∉ C ∧ 20 ∉ C)) (hK : 2 ∉ K ∧ 32 ∉ K ∧ 9 ∉ K ∧ 21 ∉ K ∧ 25 ∉ K ∧ 29 ∉ K ∧ 11 ∉ K) : RR T O L fm th dy n lv ur cm st od H A τ1 := by
  obtain ⟨a, b, c, d, e, g, hd, hc⟩ := h
  obtain ⟨⟨c1, c18, c2, c4⟩, c5, c6, c7, c8⟩ := hC
  obtain ⟨k2, k32, k9, k21, k25, k29, k11⟩ := hK
  exact ⟨a.fr f c1 k2, b.fr f c18 k32, c.fr f ⟨c2, c4⟩ k9, d.fr f c5 k21, e.fr f c6 k25, g.fr f c7 k29, (f.2 11 k11).trans hd, hc.fr f c8⟩
/-- the reference's first act in every call: nothing is thrown -/
theorem fr0 {τ : Mem} {v : Int32} : FR [] [0] τ (up τ 0 0 v) := FR.rf.fld (by decide)
def Mem0 (τ : Mem) (v : Int32) : Mem := up τ 0 0 v
theorem RR.th {T O : List Nat} {L : Nat} {fm th : Nat → Nat} {dy n : Nat} {lv ur cm st od : Nat → Nat} {H : List C4} {A : List A3} {τ : Mem} {v : Int32} (h : RR T O L fm th dy n lv ur cm st od H A τ) : RR T O L fm th dy n lv ur cm st od H A (Mem0 τ v) := h.fr fr0 (by decide) (by decide)
