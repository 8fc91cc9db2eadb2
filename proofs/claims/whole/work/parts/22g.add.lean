/-! own words: pure part: add -/
theorem isU_false {n L : Nat} {lv ur cm st od : Nat → Nat} {τ : Mem} (h : BIT n lv ur cm st od τ) (hw : WIT L n lv ur st od) {b : Nat} (hb : b < n) {a1 : Int32} : ∀ (k m : Nat), k < n → k < m → lv k ≤ lv b → X10_isUnder_7 a1 (nI b) τ m (eU (ur k)) = some 0 := by
  have h80 := hw.1
  intro k
  induction k using Nat.strongRecOn with
  | ind k ih =>
    intro m hk hm hl
    obtain ⟨m, rfl⟩ : ∃ z, m = z + 1 := ⟨m - 1, by omega⟩
    obtain ⟨-, -, h0, hj⟩ := hw.2.1 k hk
    have m1 : ∀ k, k < 81 → ¬ (-1 : Int32) = nI k := by decide
    unfold X10_isUnder_7
    cases hu : ur k with
    | zero =>
      rw [show eU 0 = -1 from rfl, if_pos (by decide)]
      unfold X10_isUnder_26
      rw [if_neg (m1 b (by omega))]
    | succ j =>
      obtain ⟨h1, h2⟩ := hj j hu
      have hjb : j ≠ b := fun z => by rw [z] at h2; omega
      rw [show eU (j + 1) = nI j from rfl, if_neg (nI_pos (by omega)), if_neg (fun z => hjb ((nI_eq (by omega) (by omega)).mp z)), gd_i (vp_in_nI (by omega) (by omega)), nI_clamp (by omega)]
      simp only [lt]
      rw [(h.2.1 j (by omega)).2.1]
      exact ih j h1 m (by omega) (by omega) (by omega)
theorem isU_true {n L : Nat} {lv ur cm st od : Nat → Nat} {τ : Mem} (h : BIT n lv ur cm st od τ) (hw : WIT L n lv ur st od) {pb : Nat} (hpb : pb < n) {a1 : Int32} : ∀ (r m : Nat), pb < r → r < n → r < m → (∀ s, pb < s → s ≤ r → lv (od pb) < lv (od s)) → X10_isUnder_7 a1 (nI (od pb)) τ m (eU (ur (od r))) = some 1 := by
  have h80 := hw.1
  intro r
  induction r using Nat.strongRecOn with
  | ind r ih =>
    intro m hr hrn hm hs
    obtain ⟨m, rfl⟩ : ∃ z, m = z + 1 := ⟨m - 1, by omega⟩
    have ho := hw.2.2.1 r hrn
    have hob := hw.2.2.1 pb hpb
    obtain ⟨-, -, h0, hj⟩ := hw.2.1 _ ho
    have hsr := hs r hr (Nat.le_refl _)
    unfold X10_isUnder_7
    cases hu : ur (od r) with
    | zero =>
      have := h0 hu
      omega
    | succ j =>
      obtain ⟨h1, h2⟩ := hj j hu
      obtain ⟨P, hP1, hP2, hP3⟩ := hw.2.2.2.2.2 r hrn j hu
      rw [show eU (j + 1) = nI j from rfl, if_neg (nI_pos (by omega))]
      by_cases hPb : P = pb
      · rw [if_pos (by rw [← hP2, hPb])]
        unfold X10_isUnder_26
        rw [if_pos (by rw [← hP2, hPb])]
      · have hgt : pb < P := by
          rcases Nat.lt_or_ge pb P with z | z
          · exact z
          · have := hP3 pb (by omega) (by omega)
            omega
        have hjb : j ≠ od pb := fun z => hPb (hw.2.2.2.1 P pb (by omega) hpb (hP2.trans z))
        rw [if_neg (fun z => hjb ((nI_eq (by omega) (by omega)).mp z)), gd_i (vp_in_nI (by omega) (by omega)), nI_clamp (by omega)]
        simp only [lt]
        rw [(h.2.1 j (by omega)).2.1, ← hP2]
        exact ih P hP1 m hgt (by omega) (by omega) (fun s hs1 hs2 => hs s hs1 (by omega))
/-- the run behind an item, of all that lie under it -/
theorem run_ex {n L : Nat} {lv ur cm st od : Nat → Nat} {μ τ : Mem} (c4 : CIT n lv ur cm st od μ) (b4 : BIT n lv ur cm st od τ) (hw : WIT L n lv ur st od) {pb : Nat} (hpb : pb < n) {a1 x3 : Int32} : ∀ (d q m m' : Nat), q + d = n → d < m → d < m' → pb < q → (∀ s, pb < s → s < q → lv (od pb) < lv (od s)) → ∃ to, q ≤ to ∧ to ≤ n ∧ X3_placeBehind_8 (nI (od pb)) μ m (nI q) = some (nI to) ∧ X10_add_134 a1 (nI (od pb)) m' x3 (nI q) τ = X10_add_164 a1 (nI (od pb)) x3 (nI to) τ ∧ (∀ s, pb < s → s < to → lv (od pb) < lv (od s)) ∧ (to < n → lv (od to) ≤ lv (od pb)) := by
  have h80 := hw.1
  have hob := hw.2.2.1 pb hpb
  intro d
  induction d with
  | zero =>
    intro q m m' hq hm hm' hpq hs
    obtain ⟨m, rfl⟩ : ∃ z, m = z + 1 := ⟨m - 1, by omega⟩
    obtain ⟨m', rfl⟩ : ∃ z, m' = z + 1 := ⟨m' - 1, by omega⟩
    refine ⟨q, Nat.le_refl _, by omega, ?_, ?_, hs, fun z => by omega⟩
    · unfold X3_placeBehind_8
      rw [c4.1, if_pos (nI_le (by omega) (by omega))]
    · unfold X10_add_134
      rw [b4.1, if_pos (nI_le (by omega) (by omega))]
  | succ d ih =>
    intro q m m' hq hm hm' hpq hs
    obtain ⟨m, rfl⟩ : ∃ z, m = z + 1 := ⟨m - 1, by omega⟩
    obtain ⟨m', rfl⟩ : ∃ z, m' = z + 1 := ⟨m' - 1, by omega⟩
    have ho := hw.2.2.1 q (by omega)
    have e1 := (c4.2.2.1 _ ho).1
    have e2 := (c4.2.2.1 _ hob).1
    have hl1 := (hw.2.1 _ ho).1
    have hl2 := (hw.2.1 _ hob).1
    have u3 : X3_placeBehind_8 (nI (od pb)) μ (m + 1) (nI q) = if nI (lv (od q)) ≤ nI (lv (od pb)) then some (nI q) else X3_placeBehind_8 (nI (od pb)) μ m (nI (q + 1)) := by
      conv => lhs; unfold X3_placeBehind_8
      rw [c4.1, if_neg (nI_ge (by omega) (by omega)), gd_i (vp_in_nI (by omega) (by omega)), nI_clamp (by omega), c4.2.2.2 q (by omega), gd_i (vp_in_nI (by omega) (by omega)), gd_i (vp_in_nI (by omega) (by omega)), nI_clamp (by omega), nI_clamp (by omega), e1, e2]
      simp only [lt]
      rw [nI_1]
    have u10 : ∀ v : Int32, X10_isUnder_7 (nI (od q)) (nI (od pb)) τ FU (eU (ur (od q))) = some v → X10_add_134 a1 (nI (od pb)) (m' + 1) x3 (nI q) τ = if v = 0 then X10_add_164 a1 (nI (od pb)) x3 (nI q) τ else X10_add_134 a1 (nI (od pb)) m' x3 (nI (q + 1)) τ := fun v hv => by
      conv => lhs; unfold X10_add_134
      rw [b4.1, if_neg (nI_ge (by omega) (by omega)), gd_i (vp_in_nI (by omega) (by omega)), nI_clamp (by omega), b4.2.2 q (by omega)]
      unfold X10_isUnder
      rw [gd_i (vp_in_nI (by omega) (by omega)), nI_clamp (by omega)]
      simp only [lt]
      rw [(b4.2.1 _ ho).2.1, hv, bd_s, nI_1]
    by_cases hle : lv (od q) ≤ lv (od pb)
    · refine ⟨q, Nat.le_refl _, by omega, ?_, ?_, hs, fun _ => hle⟩
      · rw [u3, if_pos]
        have hL : lv (od pb) < 2 ^ 31 := by
          have := (hw.2.1 _ hob).2.2
          rcases Nat.lt_or_ge (lv (od pb)) (2 ^ 31) with z | z
          · exact z
          · exfalso
            have key : ∀ k, k < n → lv k ≤ k := by
              intro k
              induction k using Nat.strongRecOn with
              | ind k ih =>
                intro hk
                obtain ⟨-, -, h0, hj⟩ := hw.2.1 k hk
                cases hu : ur k with
                | zero => rw [h0 hu]; omega
                | succ j =>
                  obtain ⟨g1, g2⟩ := hj j hu
                  have := ih j g1 (by omega)
                  omega
            have := key _ hob
            omega
        exact nI_le hle hL
      · rw [u10 0 (isU_false b4 hw hob (od q) FU ho (by unfold FU; omega) hle), if_pos rfl]
    · have hs' : ∀ s, pb < s → s < q + 1 → lv (od pb) < lv (od s) := fun s h1 h2 => by
        rcases Nat.lt_or_ge s q with z | z
        · exact hs s h1 z
        · rw [show s = q by omega]
          omega
      obtain ⟨to, t1, t2, t3, t4, t5, t6⟩ := ih (q + 1) m m' (by omega) (by omega) (by omega) (by omega) hs'
      have hLq : lv (od q) < 2 ^ 31 := by
        have key : ∀ k, k < n → lv k ≤ k := by
          intro k
          induction k using Nat.strongRecOn with
          | ind k ih =>
            intro hk
            obtain ⟨-, -, h0, hj⟩ := hw.2.1 k hk
            cases hu : ur k with
            | zero => rw [h0 hu]; omega
            | succ j =>
              obtain ⟨g1, g2⟩ := hj j hu
              have := ih j g1 (by omega)
              omega
        have := key _ ho
        omega
      refine ⟨to, by omega, t2, ?_, ?_, t5, t6⟩
      · rw [u3, if_neg (nI_ge (by omega) hLq)]
        exact t3
      · rw [u10 1 (isU_true b4 hw hpb q FU hpq (by omega) (by unfold FU; omega) (fun s h1 h2 => hs' s h1 (by omega))), if_neg (show ¬ (1 : Int32) = 0 by decide)]
        exact t4
/-- the rest of the reference's add, once both labels are found -/
def ADF (a1 a2 x3 x4 x5 x6 : Int32) (τ : Mem) : Option (Int32 × Mem) := if x6 = 0 then
          if (x5 / 531441) = 999 then
            X10_add_287 a1 a2 x3 x4 0 τ
          else
            X10_add_287 a1 a2 x3 x4 (((x5 / 531441) + 1) * 531441) τ
        else
          X10_add_295 a1 a2 FU x3 x4 x5 x6 0 0 τ
theorem x10_173 {n L : Nat} {lv ur cm st od fm th : Nat → Nat} {H : List C4} {dy : Nat} {τ : Mem} {a1 a2 : Int32} (h : BIT n lv ur cm st od τ) (hl : BLV L fm th τ) (hwl : WLV L fm th) (hw : WIT L n lv ur st od) (b5 : BHI H τ) (b7 : τ 0 11 = nI dy) (wh : WH H dy) (hdy : dy ≤ 9999) (hHl : H.length ≤ 50000) {l u to : Nat} (hn : n < 80) (e3 : τ 6 n = nI l) (e4 : τ 7 n = eU u) (hlL : l < L) (hu : u ≤ 80) (hto : to ≤ n) :
    X10_add_173 a1 a2 FU (nI n) (nI to) 0 0 0 τ = ADF a1 a2 (nI n) (nI to) (nI (ahB H dy lv ur od l (th l) u to)) (nI (frB H dy lv ur od l (th l) u (n - to) to)) τ := by
  have h80 := hw.1
  have step : ∀ (j m : Nat) (x5 x6 : Int32), j < n → X10_add_173 a1 a2 (m + 1) (nI n) (nI to) x5 x6 (nI j) τ = if (lv (od j) = l ∧ (th l ≠ 0 ∨ ur (od j) = u)) ∧ rlB H (od j) (nI dy) ≠ 0 then (if nI to ≤ nI j then (if x6 = 0 then X10_add_173 a1 a2 m (nI n) (nI to) x5 (nI (rlB H (od j) (nI dy))) (nI (j + 1)) τ else X10_add_173 a1 a2 m (nI n) (nI to) x5 x6 (nI (j + 1)) τ) else X10_add_173 a1 a2 m (nI n) (nI to) (nI (rlB H (od j) (nI dy))) x6 (nI (j + 1)) τ) else X10_add_173 a1 a2 m (nI n) (nI to) x5 x6 (nI (j + 1)) τ := fun j m x5 x6 hj => by
    have ho := hw.2.2.1 j hj
    have hlab := x10_labelOf b5 wh.k80 hHl (k := od j) (by omega) (nI dy)
    have hlb := ((lat_lt (k := od j) (show dy < 2 ^ 31 by omega) wh).b).2
    conv => lhs; unfold X10_add_173
    rw [h.1, if_neg (nI_ge (by omega) (by omega)), gd_i (vp_in_nI (by omega) (by omega)), nI_clamp (by omega), h.2.2 j hj, x10_row2 h hl hwl hw ho hn e3 e4 hlL hu, bd_s, gd_i (vp_in_nI (by omega) (by omega)), b7, hlab, bd_s]
    simp only [lt]
    rw [nI_1]
    by_cases h1 : lv (od j) = l ∧ (th l ≠ 0 ∨ ur (od j) = u)
    · rw [if_pos h1, if_neg (show ¬ (1 : Int32) = 0 by decide)]
      by_cases h2 : rlB H (od j) (nI dy) = 0
      · rw [if_pos (show nI (rlB H (od j) (nI dy)) = 0 by rw [h2]; rfl), if_neg (fun z => z.2 h2)]
      · rw [if_neg (nI_ne0 (by omega) (by omega)), if_pos (show (lv (od j) = l ∧ (th l ≠ 0 ∨ ur (od j) = u)) ∧ rlB H (od j) (nI dy) ≠ 0 from ⟨h1, h2⟩)]
    · rw [if_neg h1, if_pos rfl, if_neg (fun z => h1 z.1)]
  -- behind the place: with the first one found, nothing changes
  have p3 : ∀ (d j m : Nat) (x5 x6 : Int32), j + d = n → d < m → to ≤ j → ¬ x6 = 0 → X10_add_173 a1 a2 m (nI n) (nI to) x5 x6 (nI j) τ = ADF a1 a2 (nI n) (nI to) x5 x6 τ := by
    intro d
    induction d with
    | zero =>
      intro j m x5 x6 hj hm hjt hx
      obtain ⟨m, rfl⟩ : ∃ z, m = z + 1 := ⟨m - 1, by omega⟩
      unfold X10_add_173
      rw [h.1, if_pos (nI_le (by omega) (by omega))]
      rfl
    | succ d ih =>
      intro j m x5 x6 hj hm hjt hx
      obtain ⟨m, rfl⟩ : ∃ z, m = z + 1 := ⟨m - 1, by omega⟩
      rw [step j m x5 x6 (by omega), if_pos (nI_le hjt (by omega)), if_neg hx, ih (j + 1) m x5 x6 (by omega) (by omega) (by omega) hx]
      split <;> rfl
  have p2 : ∀ (d j m : Nat) (x5 : Int32), j + d = n → d < m → to ≤ j → X10_add_173 a1 a2 m (nI n) (nI to) x5 0 (nI j) τ = ADF a1 a2 (nI n) (nI to) x5 (nI (frB H dy lv ur od l (th l) u d j)) τ := by
    intro d
    induction d with
    | zero =>
      intro j m x5 hj hm hjt
      obtain ⟨m, rfl⟩ : ∃ z, m = z + 1 := ⟨m - 1, by omega⟩
      unfold X10_add_173
      rw [h.1, if_pos (nI_le (by omega) (by omega))]
      rfl
    | succ d ih =>
      intro j m x5 hj hm hjt
      obtain ⟨m, rfl⟩ : ∃ z, m = z + 1 := ⟨m - 1, by omega⟩
      have hlb := ((lat_lt (k := od j) (show dy < 2 ^ 31 by omega) wh).b).2
      have e5 : frB H dy lv ur od l (th l) u (d + 1) j = if (lv (od j) = l ∧ (th l ≠ 0 ∨ ur (od j) = u)) ∧ rlB H (od j) (nI dy) ≠ 0 then rlB H (od j) (nI dy) else frB H dy lv ur od l (th l) u d (j + 1) := rfl
      rw [step j m x5 0 (by omega), e5]
      by_cases h1 : (lv (od j) = l ∧ (th l ≠ 0 ∨ ur (od j) = u)) ∧ rlB H (od j) (nI dy) ≠ 0
      · rw [if_pos h1, if_pos h1, if_pos (nI_le hjt (by omega)), if_pos rfl]
        exact p3 d (j + 1) m x5 _ (by omega) (by omega) (by omega) (nI_ne0 (by omega) (by omega))
      · rw [if_neg h1, if_neg h1]
        exact ih (j + 1) m x5 (by omega) (by omega) (by omega)
  have p1 : ∀ (d j m : Nat), j + d = to → X10_add_173 a1 a2 (m + d) (nI n) (nI to) (nI (ahB H dy lv ur od l (th l) u j)) 0 (nI j) τ = X10_add_173 a1 a2 m (nI n) (nI to) (nI (ahB H dy lv ur od l (th l) u to)) 0 (nI to) τ := by
    intro d
    induction d with
    | zero =>
      intro j m hj
      obtain rfl : j = to := by omega
      rfl
    | succ d ih =>
      intro j m hj
      have hi := ih (j + 1) m (by omega)
      have e5 : ahB H dy lv ur od l (th l) u (j + 1) = if (lv (od j) = l ∧ (th l ≠ 0 ∨ ur (od j) = u)) ∧ rlB H (od j) (nI dy) ≠ 0 then rlB H (od j) (nI dy) else ahB H dy lv ur od l (th l) u j := rfl
      rw [show m + (d + 1) = m + d + 1 from rfl, step j (m + d) _ 0 (by omega), if_neg (nI_ge (by omega) (by omega))]
      rw [e5] at hi
      by_cases h1 : (lv (od j) = l ∧ (th l ≠ 0 ∨ ur (od j) = u)) ∧ rlB H (od j) (nI dy) ≠ 0
      · rw [if_pos h1] at hi ⊢
        exact hi
      · rw [if_neg h1] at hi ⊢
        exact hi
  obtain ⟨mf, hmf⟩ : ∃ mf, FU = mf + to ∧ n < mf := ⟨FU - to, by unfold FU; omega, by unfold FU; omega⟩
  have e1 := p1 to 0 mf (by omega)
  rw [← hmf.1] at e1
  exact e1.trans (p2 (n - to) to mf _ (by omega) (by omega) (Nat.le_refl _))
def inO (od : Nat → Nat) (to n : Nat) : Nat → Nat := fun j => if j < to then od j else if j = to then n else od (j - 1)
def psI (to q : Nat) : Nat := if q < to then q else q - 1
theorem inO_t {od : Nat → Nat} {to n : Nat} : inO od to n to = n := by
  unfold inO
  rw [if_neg (by omega), if_pos rfl]
theorem inO_ps {od : Nat → Nat} {to n q : Nat} (h : q ≠ to) : inO od to n q = od (psI to q) := by
  unfold inO psI
  by_cases h1 : q < to
  · rw [if_pos h1, if_pos h1]
  · rw [if_neg h1, if_neg h, if_neg h1]
theorem WIT.ins {L n : Nat} {lv ur st od : Nat → Nat} (h : WIT L n lv ur st od) (hn : n < 80) {to l u : Nat} (hto : to ≤ n) (hl : l < L) (hu0 : u = 0 → l = 0) (huj : ∀ j, u = j + 1 → j < n ∧ l = lv j + 1)
    (s1 : ∀ j, u = j + 1 → ∃ P, P < to ∧ od P = j ∧ ∀ r, P < r → r < to → lv j < lv (od r)) (s2 : ∀ q, to ≤ q → q < n → ∀ j, ur (od q) = j + 1 → ∀ P, P < to → od P = j → (∀ r, P < r → r ≤ q → lv j < lv (od r)) → lv j < l) : WIT L (n + 1) (ud lv n l) (ud ur n u) (ud st n 0) (inO od to n) := by
  obtain ⟨h80, hit, ho, hinj, hsur, hpre⟩ := h
  have hps : ∀ q, q < n + 1 → q ≠ to → psI to q < n := fun q hq hqt => by
    unfold psI
    split <;> omega
  have pinj : ∀ q q', q ≠ to → q' ≠ to → psI to q = psI to q' → q = q' := fun q q' h1 h2 e => by
    unfold psI at e
    split at e <;> split at e <;> omega
  have hback : ∀ q, q < n → ∃ q', q' < n + 1 ∧ q' ≠ to ∧ psI to q' = q := fun q hq => by
    by_cases h1 : q < to
    · exact ⟨q, by omega, by omega, if_pos h1⟩
    · refine ⟨q + 1, by omega, by omega, ?_⟩
      unfold psI
      rw [if_neg (by omega)]
      omega
  have plt : ∀ q q', q ≠ to → q' ≠ to → (psI to q < psI to q' ↔ q < q') := fun q q' h1 h2 => by
    unfold psI
    split <;> split <;> omega
  have lvn : ∀ k, k < n → ud lv n l k = lv k := fun k hk => ud_n (by omega)
  refine ⟨by omega, fun k hk => ?_, fun q hq => ?_, fun q q' hq hq' e => ?_, fun k hk => ?_, fun q hq j hj => ?_⟩
  · by_cases hkn : k = n
    · subst hkn
      rw [ud_s, ud_s, ud_s]
      refine ⟨hl, by omega, hu0, fun j hj => ?_⟩
      obtain ⟨a, b⟩ := huj j hj
      exact ⟨a, by rw [lvn j a]; exact b⟩
    · rw [ud_n hkn, ud_n hkn, ud_n hkn]
      obtain ⟨a, b, c, d⟩ := hit k (by omega)
      refine ⟨a, b, c, fun j hj => ?_⟩
      obtain ⟨e1, e2⟩ := d j hj
      exact ⟨e1, by rw [lvn j (by omega)]; exact e2⟩
  · by_cases hqt : q = to
    · rw [hqt, inO_t]
      omega
    · rw [inO_ps hqt]
      have := ho _ (hps q hq hqt)
      omega
  · by_cases hqt : q = to
    · by_cases hqt' : q' = to
      · rw [hqt, hqt']
      · rw [hqt, inO_t, inO_ps hqt'] at e
        have := ho _ (hps q' hq' hqt')
        omega
    · by_cases hqt' : q' = to
      · rw [hqt', inO_t, inO_ps hqt] at e
        have := ho _ (hps q hq hqt)
        omega
      · rw [inO_ps hqt, inO_ps hqt'] at e
        exact pinj q q' hqt hqt' (hinj _ _ (hps q hq hqt) (hps q' hq' hqt') e)
  · by_cases hkn : k = n
    · exact ⟨to, by omega, by rw [inO_t, hkn]⟩
    · obtain ⟨q, hq, e⟩ := hsur k (by omega)
      obtain ⟨q', h1, h2, h3⟩ := hback q hq
      exact ⟨q', h1, by rw [inO_ps h2, h3, e]⟩
  · by_cases hqt : q = to
    · subst hqt
      rw [inO_t, ud_s] at hj
      obtain ⟨P, hP1, hP2, hP3⟩ := s1 j hj
      have hjn := (huj j hj).1
      refine ⟨P, hP1, by unfold inO; rw [if_pos hP1]; exact hP2, fun r hr1 hr2 => ?_⟩
      rw [lvn j hjn]
      rcases Nat.lt_or_ge r q with z | z
      · have e : inO od q n r = od r := if_pos z
        rw [e, lvn _ (ho r (by omega))]
        exact hP3 r hr1 z
      · rw [show r = q by omega, inO_t, ud_s]
        have := (huj j hj).2
        omega
    · rw [inO_ps hqt] at hj
      have hk := ho _ (hps q hq hqt)
      rw [ud_n (by omega)] at hj
      obtain ⟨P, hP1, hP2, hP3⟩ := hpre _ (hps q hq hqt) j hj
      have hjn := ((hit _ hk).2.2.2 j hj).1
      obtain ⟨P', g1, g2, g3⟩ := hback P (by have := hps q hq hqt; omega)
      refine ⟨P', (plt _ _ g2 hqt).mp (by rw [g3]; exact hP1), by rw [inO_ps g2, g3]; exact hP2, fun r hr1 hr2 => ?_⟩
      rw [lvn j (by omega)]
      by_cases hrt : r = to
      · subst hrt
        rw [inO_t, ud_s]
        have hPt : P < r := by
          rw [← g3]
          unfold psI
          split <;> omega
        have hqr : r ≤ psI r q := by
          unfold psI
          split <;> omega
        exact s2 _ hqr (hps q hq hqt) j hj P hPt hP2 hP3
      · rw [inO_ps hrt, lvn _ (ho _ (by have := hps r (by omega) hrt; exact this))]
        refine hP3 _ (by rw [← g3]; exact (plt _ _ g2 hrt).mpr hr1) ?_
        rcases Nat.lt_or_ge r q with z | z
        · exact Nat.le_of_lt ((plt _ _ hrt hqt).mpr z)
        · rw [show r = q by omega]
          exact Nat.le_refl _
theorem AO_cong : ∀ (A : List A3) (n : Nat) (st st' : Nat → Nat) (H : List C4), (∀ k, k < n → st k = st' k) → AO A n st H → AO A n st' H := by
  intro A
  induction A with
  | nil => exact fun _ _ _ _ _ _ => trivial
  | cons a A ih =>
    obtain ⟨r, i, Hs⟩ := a
    intro n st st' H e h
    obtain ⟨h1, h2, h3⟩ := h
    refine ⟨h1, h2, ?_⟩
    rcases h3 with ⟨a, b, c, d⟩ | ⟨a, b, c⟩ | ⟨a, b⟩
    · exact Or.inl ⟨a, b, by rw [← e i h1]; exact c, ih _ _ _ _ (fun k hk => e k (by omega)) d⟩
    · refine Or.inr (Or.inl ⟨a, by rw [← e i h1]; exact b, ih _ _ _ _ (fun k hk => ?_) c⟩)
      unfold ud
      split
      · rfl
      · exact e k hk
    · exact Or.inr (Or.inr ⟨a, ih _ _ _ _ e b⟩)
theorem cnt_hi {st : Nat → Nat} {n v : Nat} : cnt (ud st n v) n = cnt st n := by
  have := cnt_ud (st := st) (k := n) (v := v) n
  rw [if_neg (by omega), if_neg (by omega)] at this
  omega
theorem x3_ins {n L : Nat} {lv ur cm st od : Nat → Nat} {μ : Mem} (h : CIT n lv ur cm st od μ) (hn : n < 80) {to l u dy : Nat} (hto : to ≤ n) : ∃ μ1, X3_insert (nI to) (nI l) (eU u) (nI dy) μ = some μ1 ∧ CIT (n + 1) (ud lv n l) (ud ur n u) (ud cm n dy) (ud st n 0) (inO od to n) μ1 := by
  obtain ⟨h1, h2, h3, h4⟩ := h
  have e1 : nI n - nI to = nI (n - to) := pk_sub hto
  refine ⟨up (up (up (up (up (up (upc μ 5 (va_cpy (μ 5) (μ 5) to (to + 1) (n - to))) 5 to (nI n)) 1 n (nI l)) 2 n (eU u)) 3 n (nI dy)) 4 n 0) 0 5 (nI (n + 1)), ?_, rfl, ?_, fun k hk => ?_, fun q hq => ?_⟩
  · unfold X3_insert
    rw [h1, if_neg (show ¬ (80 : Int32) ≤ nI n from nI_ge (b := 80) hn (by omega)), if_neg (nI_pos (by omega)), if_pos (nI_le hto (by omega)), e1, nI_1]
    unfold gp
    rw [nI_clamp (by omega), nI_clamp (by omega), nI_clamp (by omega), if_pos ⟨⟨nI_pos (by omega), nI_pos (by omega), nI_pos (by omega)⟩, by omega, by omega⟩]
    show gd (nI to) 80 (gd (μ 0 5) 80 (gd (μ 0 5) 80 (gd (μ 0 5) 80 (gd (μ 0 5) 80 (some (up (up (up (up (up (up (upc μ 5 (va_cpy (μ 5) (μ 5) to (to + 1) (n - to))) 5 to (μ 0 5)) 1 (Int32.toNatClampNeg (μ 0 5)) (nI l)) 2 (Int32.toNatClampNeg (μ 0 5)) (eU u)) 3 (Int32.toNatClampNeg (μ 0 5)) (nI dy)) 4 (Int32.toNatClampNeg (μ 0 5)) 0) 0 5 (μ 0 5 + 1))))))) = _
    rw [h1, gd_i (vp_in_nI (by omega) (by omega)), gd_i (vp_in_nI (by omega) (by omega)), gd_i (vp_in_nI (by omega) (by omega)), gd_i (vp_in_nI (by omega) (by omega)), gd_i (vp_in_nI (by omega) (by omega)), nI_clamp (by omega), nI_1]
  · show μ 0 6 = nI (cnt (ud st n 0) n + ud st n 0 n)
    rw [cnt_hi, ud_s, h2]
    rfl
  · show upd (μ 1) n (nI l) k = _ ∧ upd (μ 2) n (eU u) k = _ ∧ upd (μ 3) n (nI dy) k = _ ∧ upd (μ 4) n 0 k = _
    by_cases hkn : k = n
    · rw [hkn, pk_us, pk_us, pk_us, pk_us, ud_s, ud_s, ud_s, ud_s]
      exact ⟨rfl, rfl, rfl, rfl⟩
    · rw [pk_un hkn, pk_un hkn, pk_un hkn, pk_un hkn, ud_n hkn, ud_n hkn, ud_n hkn, ud_n hkn]
      exact h3 k (by omega)
  · show upd (va_cpy (μ 5) (μ 5) to (to + 1) (n - to)) to (nI n) q = _
    unfold inO
    by_cases hqt : q = to
    · rw [hqt, pk_us, if_neg (by omega), if_pos rfl]
    · rw [pk_un hqt]
      by_cases hq1 : q < to
      · rw [if_pos hq1, pk_cpy_out (by omega)]
        exact h4 q (by omega)
      · rw [if_neg hq1, if_neg hqt, pk_cpy_in (by omega) (by omega), show to + (q - (to + 1)) = q - 1 by omega]
        exact h4 (q - 1) (by omega)
theorem x10_352 {n to : Nat} {f : Nat → Int32} {x7 a1 a2 : Int32} {τ0 : Mem} (hn : n < 80) (hto : to ≤ n) : ∀ (d x m : Nat) (τ : Mem), to + d = x → d < m → x ≤ n → (∀ j, τ 9 j = if x < j ∧ j ≤ n then f (j - 1) else f j) → FR [9] [] τ0 τ → ∃ τ1, X10_add_352 a1 a2 m (nI n) (nI to) x7 (nI x) τ = (bd (X10_change (nI n) x7 (up (up (up (up τ1 9 to (nI n)) 10 n 0) 8 n (τ1 0 11)) 0 21 (τ1 0 21 + 1))) fun r9 => some (nI n, r9)) ∧ (∀ j, τ1 9 j = if to < j ∧ j ≤ n then f (j - 1) else f j) ∧ FR [9] [] τ0 τ1 := by
  intro d
  induction d with
  | zero =>
    intro x m τ hx hm hxn hf hF
    obtain ⟨m, rfl⟩ : ∃ z, m = z + 1 := ⟨m - 1, by omega⟩
    obtain rfl : x = to := by omega
    refine ⟨τ, ?_, hf, hF⟩
    unfold X10_add_352
    rw [if_pos (nI_le (by omega) (by omega)), gd_i (vp_in_nI (by omega) (by omega))]
    simp only [lt]
    rw [gd_i (vp_in_nI (by omega) (by omega)), gd_i (vp_in_nI (by omega) (by omega)), nI_clamp (by omega), nI_clamp (by omega)]
    rfl
  | succ d ih =>
    intro x m τ hx hm hxn hf hF
    obtain ⟨m, rfl⟩ : ∃ z, m = z + 1 := ⟨m - 1, by omega⟩
    obtain ⟨y, rfl⟩ : ∃ y, x = y + 1 := ⟨x - 1, by omega⟩
    have e0 : X10_add_352 a1 a2 (m + 1) (nI n) (nI to) x7 (nI (y + 1)) τ = X10_add_352 a1 a2 m (nI n) (nI to) x7 (nI y) (up τ 9 (y + 1) (τ 9 y)) := by
      conv => lhs; unfold X10_add_352
      rw [if_neg (nI_ge (by omega) (by omega)), nI_pred, gd_i (vp_in_nI (by omega) (by omega)), gd_i (vp_in_nI (by omega) (by omega)), nI_clamp (by omega), nI_clamp (by omega)]
      simp only [lt]
      rw [i32_dec]
    rw [e0]
    refine ih y m _ (by omega) (by omega) (by omega) (fun j => ?_) (hF.cel (by decide) (by decide))
    show upd (τ 9) (y + 1) (τ 9 y) j = _
    by_cases hj : j = y + 1
    · rw [hj, pk_us, hf y, if_neg (by omega), if_pos (by omega)]
      rfl
    · rw [pk_un hj, hf j]
      by_cases h2 : y + 1 < j ∧ j ≤ n
      · rw [if_pos h2, if_pos (by omega)]
      · rw [if_neg h2, if_neg (by omega)]
