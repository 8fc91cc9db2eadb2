/-! own words: pure part: a label read; the class -/
def rwt (b : Nat) : Nat := if b = 67 then 100 else if b = 68 then 500 else if b = 73 then 1 else if b = 76 then 50 else if b = 77 then 1000 else if b = 86 then 5 else if b = 88 then 10 else 0
def fitN (f b : Nat) : Bool := if f = 0 then decide (48 ≤ b) && decide (b ≤ 57) else if f = 2 then decide (97 ≤ b) && decide (b ≤ 122) else if f = 3 then decide (0 < rwt (b - 32)) else decide (0 < rwt b)
def dvl (f b : Nat) : Nat := if f = 0 then b - 48 else if f = 2 then b - 96 else if f = 3 then rwt (b - 32) else rwt b
def neE (T : List Nat) (f : Nat) : Nat → Nat → Nat
  | 0, i => i
  | d + 1, i => if fitN f (T.getD i 0) then neE T f d (i + 1) else i
def isG (b : Nat) : Bool := decide (65 ≤ b) && decide (b ≤ 90)
def ceE (T : List Nat) : Nat → Nat → Nat
  | 0, i => i
  | d + 1, i => if isG (T.getD i 0) then ceE T d (i + 1) else i
def vP (T : List Nat) (f bs : Nat) : Nat → Nat → Nat → Nat
  | 0, _, acc => acc
  | d + 1, i, acc => vP T f bs d (i + 1) (acc * bs + dvl f (T.getD i 0))
def pen (b w : Nat) : Nat := if b < w then 2 * b else 0
def rV (T : List Nat) (f : Nat) : Nat → Nat → Nat → Nat → Nat
  | 0, _, _, acc => acc
  | d + 1, i, b, acc => rV T f d (i + 1) (dvl f (T.getD i 0)) (acc + dvl f (T.getD i 0) - pen b (dvl f (T.getD i 0)))
def VAL (T : List Nat) (f p e : Nat) : Nat := if f = 0 then vP T f 10 (e - p) p 0 else if f = 2 then vP T f 26 (e - p) p 0 else rV T f (e - p) p 0 0
def SEG (T : List Nat) (p q : Nat) (l : List Nat) : Prop := q - p = l.length ∧ ∀ i, i < l.length → T.getD (p + i) 0 = l.getD i 0
theorem fit_tab : ∀ f, f < 4 → ∀ b, b < 256 → X1_isNumeral (nI f) (nI b) = some (if fitN f b then 1 else 0) := by decide +kernel
theorem neE_ge (T : List Nat) (f : Nat) : ∀ d i, i ≤ neE T f d i ∧ neE T f d i ≤ i + d := by
  intro d
  induction d with
  | zero => exact fun i => ⟨Nat.le_refl _, Nat.le_refl _⟩
  | succ d ih =>
    intro i
    unfold neE
    split
    · have := ih (i + 1)
      omega
    · omega
theorem ceE_ge (T : List Nat) : ∀ d i, i ≤ ceE T d i ∧ ceE T d i ≤ i + d := by
  intro d
  induction d with
  | zero => exact fun i => ⟨Nat.le_refl _, Nat.le_refl _⟩
  | succ d ih =>
    intro i
    unfold ceE
    split
    · have := ih (i + 1)
      omega
    · omega
theorem neE_fit (T : List Nat) (f : Nat) : ∀ d i j, i ≤ j → j < neE T f d i → fitN f (T.getD j 0) = true := by
  intro d
  induction d with
  | zero => exact fun i j h1 h2 => absurd h2 (by show ¬ j < i; omega)
  | succ d ih =>
    intro i j h1 h2
    unfold neE at h2
    split at h2
    · rename_i h
      rcases Nat.lt_or_ge i j with z | z
      · exact ih (i + 1) j z h2
      · rw [show j = i by omega]
        exact h
    · omega
theorem ceE_fit (T : List Nat) : ∀ d i j, i ≤ j → j < ceE T d i → isG (T.getD j 0) = true := by
  intro d
  induction d with
  | zero => exact fun i j h1 h2 => absurd h2 (by show ¬ j < i; omega)
  | succ d ih =>
    intro i j h1 h2
    unfold ceE at h2
    split at h2
    · rename_i h
      rcases Nat.lt_or_ge i j with z | z
      · exact ih (i + 1) j z h2
      · rw [show j = i by omega]
        exact h
    · omega
theorem x4_ne {T : List Nat} {μ : Mem} {f : Nat} {a1 : Int32} (h : TXT T μ) (hf : f < 4) : ∀ (d i m : Nat), i + d = T.length → d < m → X4_numeralsEnd_2 a1 (nI f) μ m (nI i) = some (nI (neE T f d i)) := by
  intro d
  induction d with
  | zero =>
    intro i m hi hm
    obtain ⟨m, rfl⟩ : ∃ z, m = z + 1 := ⟨m - 1, by omega⟩
    have := h.1
    unfold X4_numeralsEnd_2
    rw [h.2.1, if_pos (nI_le (by omega) (by omega))]
    rfl
  | succ d ih =>
    intro i m hi hm
    obtain ⟨m, rfl⟩ : ∃ z, m = z + 1 := ⟨m - 1, by omega⟩
    have h200 := h.1
    have hb := h.2.2.2 i (by omega)
    unfold X4_numeralsEnd_2 neE
    rw [h.2.1, if_neg (nI_ge (by omega) (by omega)), x8_byteAt h (by omega), bd_s, if_pos (show i < T.length by omega), fit_tab f hf _ hb, bd_s]
    by_cases hfit : fitN f (T.getD i 0) = true
    · rw [if_pos hfit, if_pos hfit, if_neg (show ¬ (1 : Int32) = 0 by decide)]
      simp only [lt]
      rw [nI_1]
      exact ih (i + 1) m (by omega) (by omega)
    · rw [if_neg hfit, if_neg hfit, if_pos rfl]
theorem x4_ce {T : List Nat} {μ : Mem} {a1 : Int32} (h : TXT T μ) : ∀ (d i m : Nat), i + d = T.length → d < m → X4_capitalsEnd_2 a1 μ m (nI i) = some (nI (ceE T d i)) := by
  intro d
  induction d with
  | zero =>
    intro i m hi hm
    obtain ⟨m, rfl⟩ : ∃ z, m = z + 1 := ⟨m - 1, by omega⟩
    have := h.1
    unfold X4_capitalsEnd_2
    rw [h.2.1, if_pos (nI_le (by omega) (by omega))]
    rfl
  | succ d ih =>
    intro i m hi hm
    obtain ⟨m, rfl⟩ : ∃ z, m = z + 1 := ⟨m - 1, by omega⟩
    have h200 := h.1
    have hb := h.2.2.2 i (by omega)
    unfold X4_capitalsEnd_2 ceE isG
    rw [h.2.1, if_neg (nI_ge (by omega) (by omega)), x8_byteAt h (by omega), bd_s, bd_s, if_pos (show i < T.length by omega)]
    by_cases h1 : T.getD i 0 < 65
    · rw [if_pos (show nI (T.getD i 0) < 65 from nI_lt (b := 65) h1 (by omega)), if_neg (by rw [Bool.and_eq_true, decide_eq_true_eq, decide_eq_true_eq]; omega)]
    · rw [if_neg (show ¬ nI (T.getD i 0) < 65 from nI_nlt (b := 65) (by omega) (by omega))]
      by_cases h2 : 90 < T.getD i 0
      · rw [if_pos (show (90 : Int32) < nI (T.getD i 0) from nI_lt (a := 90) h2 (by omega)), if_neg (by rw [Bool.and_eq_true, decide_eq_true_eq, decide_eq_true_eq]; omega)]
      · rw [if_neg (show ¬ (90 : Int32) < nI (T.getD i 0) from nI_nlt (a := 90) (by omega) (by omega)), if_pos (by rw [Bool.and_eq_true, decide_eq_true_eq, decide_eq_true_eq]; omega)]
        simp only [lt]
        rw [nI_1]
        exact ih (i + 1) m (by omega) (by omega)
-- numbers
theorem vP_ge (T : List Nat) {f bs : Nat} (hbs : 1 ≤ bs) : ∀ d i acc, acc ≤ vP T f bs d i acc := by
  intro d
  induction d with
  | zero => exact fun _ _ => Nat.le_refl _
  | succ d ih =>
    intro i acc
    have := ih (i + 1) (acc * bs + dvl f (T.getD i 0))
    have h2 : acc ≤ acc * bs := Nat.le_mul_of_pos_right acc hbs
    unfold vP
    omega
theorem x1_places {T : List Nat} {μ : Mem} {f bs z : Nat} {a1 : Int32} (h : TXT T μ) (hbs : 1 ≤ bs ∧ bs ≤ 26) {e : Nat} (he : e ≤ T.length) (hz : ∀ i, i < e → z ≤ T.getD i 0 → dvl f (T.getD i 0) = T.getD i 0 - z) : ∀ (d i m acc : Nat), i + d = e → d < m → (∀ j, i ≤ j → j < e → z ≤ T.getD j 0) → acc < 100000 → ∃ v, X1_placesIn_6 a1 (nI e) (nI bs) (nI z) μ m (nI acc) (nI i) = some (nI v) ∧ (vP T f bs d i acc ≤ 999 → v = vP T f bs d i acc) ∧ (999 < vP T f bs d i acc → 999 < v) ∧ v < 2 ^ 31 := by
  have h200 := h.1
  intro d
  induction d with
  | zero =>
    intro i m acc hi hm hj ha
    obtain ⟨m, rfl⟩ : ∃ z, m = z + 1 := ⟨m - 1, by omega⟩
    refine ⟨acc, ?_, fun _ => rfl, fun h => h, by omega⟩
    unfold X1_placesIn_6
    rw [if_pos (nI_le (by omega) (by omega))]
  | succ d ih =>
    intro i m acc hi hm hj ha
    obtain ⟨m, rfl⟩ : ∃ z, m = z + 1 := ⟨m - 1, by omega⟩
    by_cases h9 : 999 < acc
    · have := vP_ge T (f := f) hbs.1 (d + 1) i acc
      refine ⟨acc, ?_, fun h => by omega, fun _ => h9, by omega⟩
      unfold X1_placesIn_6
      rw [if_neg (nI_ge (by omega) (by omega)), if_pos (show (999 : Int32) < nI acc from nI_lt (a := 999) h9 (by omega))]
    · have hb := h.2.2.2 i (by omega)
      have hzi := hj i (Nat.le_refl _) (by omega)
      have hd := hz i (by omega) hzi
      have h26 : acc * bs ≤ 999 * 26 := Nat.mul_le_mul (by omega) hbs.2
      obtain ⟨v, g1, g2, g3, g4⟩ := ih (i + 1) m (acc * bs + dvl f (T.getD i 0)) (by omega) (by omega) (fun j h1 h2 => hj j (by omega) h2) (by omega)
      refine ⟨v, ?_, g2, g3, g4⟩
      unfold X1_placesIn_6
      rw [if_neg (nI_ge (by omega) (by omega)), if_neg (show ¬ (999 : Int32) < nI acc from nI_nlt (a := 999) (by omega) (by omega)), x8_byteAt h (by omega), bd_s, if_pos (show i < T.length by omega), pk_mul, nI_add]
      simp only [lt]
      rw [pk_sub (show z ≤ acc * bs + T.getD i 0 by omega), nI_1, show acc * bs + T.getD i 0 - z = acc * bs + dvl f (T.getD i 0) by omega]
      exact g1
theorem rwt_tab : ∀ b, b < 256 → (X1_romanWorth (nI b - 0) = some (nI (rwt b)) ∧ X1_romanWorth (nI b - 32) = some (nI (rwt (b - 32)))) ∧ rwt b ≤ 1000 := by decide +kernel
theorem rwt_set (b : Nat) : rwt b = 0 ∨ rwt b = 1 ∨ rwt b = 5 ∨ rwt b = 10 ∨ rwt b = 50 ∨ rwt b = 100 ∨ rwt b = 500 ∨ rwt b = 1000 := by
  unfold rwt
  repeat' split
  all_goals omega
theorem pen_le (a b : Nat) : pen (rwt a) (rwt b) ≤ rwt b := by
  have h1 := rwt_set a
  have h2 := rwt_set b
  unfold pen
  split <;> omega
theorem i32_swap (x : Int32) {w v r : Nat} (h : x + nI w = nI r) (hv : 2 * w ≤ v) : x + (-nI w) + nI v = nI (r + (v - 2 * w)) := by
  have e : nI v = nI w + (nI w + nI (v - 2 * w)) := by
    rw [nI_add, nI_add]
    congr 1
    omega
  rw [e, ← nI_add r, ← h, Int32.add_assoc, ← Int32.add_assoc (-nI w) (nI w), Int32.add_left_neg, Int32.zero_add, ← Int32.add_assoc]
theorem x1_roman {T : List Nat} {μ : Mem} {f lift : Nat} {a1 : Int32} (h : TXT T μ) {e : Nat} (he : e ≤ T.length) (hw : ∀ b, b < 256 → X1_romanWorth (nI b - nI lift) = some (nI (dvl f b)) ∧ dvl f b ≤ 1000) (hp : ∀ b b', pen (dvl f b) (dvl f b') ≤ dvl f b') : ∀ (d i m acc : Nat) (x4 : Int32), i + (d + 1) = e → d + 1 < m → x4 + nI (dvl f (T.getD i 0)) = nI acc → X1_romanIn_6 a1 (nI e) (nI lift) μ m x4 (nI i) = some (nI (rV T f d (i + 1) (dvl f (T.getD i 0)) acc)) := by
  have h200 := h.1
  intro d
  induction d with
  | zero =>
    intro i m acc x4 hi hm hx
    obtain ⟨m, rfl⟩ : ∃ z, m = z + 2 := ⟨m - 2, by omega⟩
    have hb := h.2.2.2 i (by omega)
    obtain ⟨w1, w2⟩ := hw _ hb
    unfold X1_romanIn_6
    rw [if_neg (nI_ge (by omega) (by omega)), x8_byteAt h (by omega), bd_s, if_pos (show i < T.length by omega), w1, bd_s, nI_1, if_pos (nI_le (by omega) (by omega))]
    unfold X1_romanIn_50
    rw [if_pos (show (0 : Int32) ≤ nI (dvl f (T.getD i 0)) from nI_pos' (by omega))]
    simp only [lt]
    rw [hx, nI_1]
    unfold X1_romanIn_6
    rw [if_pos (nI_le (by omega) (by omega))]
    rfl
  | succ d ih =>
    intro i m acc x4 hi hm hx
    obtain ⟨m, rfl⟩ : ∃ z, m = z + 1 := ⟨m - 1, by omega⟩
    have hb := h.2.2.2 i (by omega)
    have hb1 := h.2.2.2 (i + 1) (by omega)
    obtain ⟨w1, w2⟩ := hw _ hb
    obtain ⟨w3, w4⟩ := hw _ hb1
    have hpn := hp (T.getD i 0) (T.getD (i + 1) 0)
    have hr : rV T f (d + 1) (i + 1) (dvl f (T.getD i 0)) acc = rV T f d (i + 1 + 1) (dvl f (T.getD (i + 1) 0)) (acc + dvl f (T.getD (i + 1) 0) - pen (dvl f (T.getD i 0)) (dvl f (T.getD (i + 1) 0))) := rfl
    unfold X1_romanIn_6
    rw [if_neg (nI_ge (by omega) (by omega)), x8_byteAt h (by omega), bd_s, if_pos (show i < T.length by omega), w1, bd_s, nI_1, if_neg (nI_ge (by omega) (by omega)), x8_byteAt h (by omega), bd_s, if_pos (show i + 1 < T.length by omega), w3, bd_s]
    unfold X1_romanIn_50
    simp only [lt]
    rw [nI_1, hr]
    unfold pen at hpn ⊢
    by_cases hlt : dvl f (T.getD i 0) < dvl f (T.getD (i + 1) 0)
    · rw [if_neg (nI_ge hlt (by omega))]
      rw [if_pos hlt] at hpn ⊢
      refine ih (i + 1) m _ _ (by omega) (by omega) ?_
      rw [i32_swap x4 hx hpn]
      congr 1
      omega
    · rw [if_pos (nI_le (by omega) (by omega))]
      rw [if_neg hlt]
      refine ih (i + 1) m _ _ (by omega) (by omega) ?_
      rw [hx, nI_add]
      rfl
theorem rV_le {T : List Nat} {f : Nat} (hw : ∀ b, dvl f b ≤ 1000) : ∀ d i b acc, rV T f d i b acc ≤ acc + 1000 * d := by
  intro d
  induction d with
  | zero => exact fun _ _ _ => Nat.le_refl _
  | succ d ih =>
    intro i b acc
    have h1 := ih (i + 1) (dvl f (T.getD i 0)) (acc + dvl f (T.getD i 0) - pen b (dvl f (T.getD i 0)))
    have h2 := hw (T.getD i 0)
    unfold rV
    omega
theorem rwt_1000 (b : Nat) : rwt b ≤ 1000 := by
  have := rwt_set b
  omega
/-- the number that numerals mean, as the class has it -/
theorem x1_num {T : List Nat} {μ : Mem} {f p e : Nat} (h : TXT T μ) (hf : f < 4) (hpe : p < e) (he : e ≤ T.length) (hfit : ∀ j, p ≤ j → j < e → fitN f (T.getD j 0) = true) : ∃ v, X1_numberIn (nI p) (nI e) (nI f) μ = some (nI v) ∧ (VAL T f p e ≤ 999 → v = VAL T f p e) ∧ (999 < VAL T f p e → 999 < v) ∧ v < 2 ^ 31 := by
  have h200 := h.1
  unfold X1_numberIn VAL
  have rom : ∀ lift, (∀ b, b < 256 → X1_romanWorth (nI b - nI lift) = some (nI (dvl f b)) ∧ dvl f b ≤ 1000) → (∀ b b', pen (dvl f b) (dvl f b') ≤ dvl f b') → (∀ b, dvl f b ≤ 1000) → ∃ v, X1_romanIn (nI p) (nI e) (nI lift) μ = some (nI v) ∧ (rV T f (e - p) p 0 0 ≤ 999 → v = rV T f (e - p) p 0 0) ∧ (999 < rV T f (e - p) p 0 0 → 999 < v) ∧ v < 2 ^ 31 := fun lift hw hp hw2 => by
    have e1 := x1_roman (f := f) (lift := lift) (a1 := nI p) h he hw hp (e - p - 1) p FU (dvl f (T.getD p 0)) 0 (by omega) (by unfold FU; omega) (Int32.zero_add _)
    have e2 : rV T f (e - p) p 0 0 = rV T f (e - p - 1) (p + 1) (dvl f (T.getD p 0)) (dvl f (T.getD p 0)) := by
      obtain ⟨d, hd⟩ : ∃ d, e - p = d + 1 := ⟨e - p - 1, by omega⟩
      rw [hd]
      show rV T f d (p + 1) (dvl f (T.getD p 0)) (0 + dvl f (T.getD p 0) - pen 0 (dvl f (T.getD p 0))) = _
      have : pen 0 (dvl f (T.getD p 0)) = 0 := by
        unfold pen
        split <;> rfl
      rw [this, Nat.zero_add]
      rfl
    have e3 := rV_le (T := T) hw2 (e - p) p 0 0
    refine ⟨rV T f (e - p) p 0 0, ?_, fun _ => rfl, fun h => h, by omega⟩
    unfold X1_romanIn
    rw [e2]
    exact e1
  rcases (show f = 0 ∨ f = 1 ∨ f = 2 ∨ f = 3 by omega) with rfl | rfl | rfl | rfl
  · obtain ⟨v, g1, g2⟩ := x1_places (f := 0) (bs := 10) (z := 48) (a1 := nI p) h ⟨by omega, by omega⟩ he (fun i _ _ => rfl) (e - p) p FU 0 (by omega) (by unfold FU; omega) (fun j h1 h2 => by
      have := hfit j h1 h2
      simp [fitN] at this
      simpa using this.1) (by omega)
    rw [if_neg (show ¬ nI 0 = 1 by decide), if_neg (show ¬ nI 0 = 2 by decide), if_neg (show ¬ nI 0 = 3 by decide), if_pos rfl]
    have g1' : X1_placesIn (nI p) (nI e) 10 48 μ = some (nI v) := g1
    rw [g1', bd_s]
    exact ⟨v, rfl, g2⟩
  · have := rom 0 (fun b hb => ⟨(rwt_tab b hb).1.1, rwt_1000 b⟩) (fun b b' => pen_le b b') rwt_1000
    rw [if_pos (show nI 1 = 1 from rfl), if_neg (by omega), if_neg (by omega)]
    obtain ⟨v, g1, g2⟩ := this
    have g1' : X1_romanIn (nI p) (nI e) 0 μ = some (nI v) := g1
    rw [g1', bd_s]
    exact ⟨v, rfl, g2⟩
  · obtain ⟨v, g1, g2⟩ := x1_places (f := 2) (bs := 26) (z := 96) (a1 := nI p) h ⟨by omega, by omega⟩ he (fun i _ _ => rfl) (e - p) p FU 0 (by omega) (by unfold FU; omega) (fun j h1 h2 => by
      have := hfit j h1 h2
      simp [fitN] at this
      have h97 : 97 ≤ T.getD j 0 := by simpa using this.1
      omega) (by omega)
    rw [if_neg (show ¬ nI 2 = 1 by decide), if_pos (show nI 2 = 2 from rfl), if_neg (by omega), if_pos rfl]
    have g1' : X1_placesIn (nI p) (nI e) 26 96 μ = some (nI v) := g1
    rw [g1', bd_s]
    exact ⟨v, rfl, g2⟩
  · have := rom 32 (fun b hb => ⟨(rwt_tab b hb).1.2, rwt_1000 _⟩) (fun b b' => pen_le (b - 32) (b' - 32)) (fun b => rwt_1000 _)
    rw [if_neg (show ¬ nI 3 = 1 by decide), if_neg (show ¬ nI 3 = 2 by decide), if_pos (show nI 3 = 3 from rfl), if_neg (by omega), if_neg (by omega)]
    obtain ⟨v, g1, g2⟩ := this
    have g1' : X1_romanIn (nI p) (nI e) 32 μ = some (nI v) := g1
    rw [g1', bd_s]
    exact ⟨v, rfl, g2⟩
