/-! own words: what is left to show of class and reference; the law, case by case -/
def PU_feed (Rel : RelT) : Prop := ∀ (i : Nat) (σ τ : Mem) (w : Int64) (κ : Nat) (a1 a2 a3 a4 a5 : Int32), i + 6 ≤ 3072 → Rel i σ τ w κ → ∃ (r : Int32) (σ1 : Mem) (τ1 : Mem), X9_feed a1 a2 a3 a4 a5 σ = some (r, σ1) ∧ X10_feed a1 a2 a3 a4 a5 τ = some (r, τ1) ∧ Rel (i + 6) σ1 τ1 w κ
def PU_end (Rel : RelT) : Prop := ∀ (i : Nat) (σ τ : Mem) (w : Int64) (κ : Nat) (a1 : Int32), i + 6 ≤ 3072 → Rel i σ τ w κ → ∃ (r : Int32) (σ1 : Mem) (τ1 : Mem), X9_end a1 σ = some (r, σ1) ∧ X10_end a1 τ = some (r, τ1) ∧ Rel (i + 6) σ1 τ1 w κ
def PU_levels (Rel : RelT) : Prop := ∀ (i : Nat) (σ τ : Mem) (w : Int64) (κ : Nat), i + 6 ≤ 3072 → Rel i σ τ w κ → ∃ (r : Int32) (σ1 : Mem) (τ1 : Mem) (w1 : Int64), X9_levels σ = some (r, σ1) ∧ X10_levels τ w = some (r, τ1, w1) ∧ Rel (i + 6) σ1 τ1 w1 κ
def PU_fault (Rel : RelT) : Prop := ∀ (i : Nat) (σ τ : Mem) (w : Int64) (κ : Nat), i + 6 ≤ 3072 → Rel i σ τ w κ → ∃ (r : Int32) (τ1 : Mem), X9_fault σ = some r ∧ X10_fault τ = some (r, τ1) ∧ Rel (i + 6) σ τ1 w κ
def PU_add (Rel : RelT) : Prop := ∀ (i : Nat) (σ τ : Mem) (w : Int64) (κ : Nat) (a1 a2 : Int32), i + 6 ≤ 3072 → Rel i σ τ w κ → ∃ (r : Int32) (σ1 : Mem) (κ1 : Nat) (τ1 : Mem), X9_add a1 a2 σ = some ((r, σ1), κ1) ∧ X10_add a1 a2 τ = some (r, τ1) ∧ Rel (i + 6) σ1 τ1 w (κ + κ1)
def PU_strike (Rel : RelT) : Prop := ∀ (i : Nat) (σ τ : Mem) (w : Int64) (κ : Nat) (a1 : Int32), i + 6 ≤ 3072 → Rel i σ τ w κ → ∃ (r : Int32) (σ1 : Mem) (τ1 : Mem), X9_strike a1 σ = some (r, σ1) ∧ X10_strike a1 τ = some (r, τ1) ∧ Rel (i + 6) σ1 τ1 w κ
def PU_renumber (Rel : RelT) : Prop := ∀ (i : Nat) (σ τ : Mem) (w : Int64) (κ : Nat) (a1 : Int32), i + 6 ≤ 3072 → Rel i σ τ w κ → ∃ (r : Int32) (σ1 : Mem) (κ1 : Nat) (τ1 : Mem), X9_renumber a1 σ = some ((r, σ1), κ1) ∧ X10_renumber a1 τ = some (r, τ1) ∧ Rel (i + 6) σ1 τ1 w (κ + κ1)
def PU_error (Rel : RelT) : Prop := ∀ (i : Nat) (σ τ : Mem) (w : Int64) (κ : Nat) (a1 a2 a3 : Int32), i + 6 ≤ 3072 → Rel i σ τ w κ → ∃ (r : Int32) (σ1 : Mem) (κ1 : Nat) (τ1 : Mem), X9_error a1 a2 a3 σ = some ((r, σ1), κ1) ∧ X10_error a1 a2 a3 τ = some (r, τ1) ∧ Rel (i + 6) σ1 τ1 w (κ + κ1)
def PU_undo (Rel : RelT) : Prop := ∀ (i : Nat) (σ τ : Mem) (w : Int64) (κ : Nat), i + 6 ≤ 3072 → Rel i σ τ w κ → ∃ (r : Int32) (σ1 : Mem) (τ1 : Mem), X9_undo σ = some (r, σ1) ∧ X10_undo τ = some (r, τ1) ∧ Rel (i + 6) σ1 τ1 w κ
def PU_wait (Rel : RelT) : Prop := ∀ (i : Nat) (σ τ : Mem) (w : Int64) (κ : Nat) (a1 : Int32), i + 6 ≤ 3072 → Rel i σ τ w κ → ∃ (r : Int32) (σ1 : Mem) (τ1 : Mem), X9_wait a1 σ = some (r, σ1) ∧ X10_wait a1 τ = some (r, τ1) ∧ Rel (i + 6) σ1 τ1 w κ
def PU_about (Rel : RelT) : Prop := ∀ (i : Nat) (σ τ : Mem) (w : Int64) (κ : Nat) (a1 a2 : Int32), i + 6 ≤ 3072 → Rel i σ τ w κ → ∃ (res : Option Int32) (b : Int32) (τ1 : Mem), X9_about a1 a2 σ = some res ∧ X10_about a1 a2 τ = some (b, τ1) ∧ X10_thrown τ1 = some (rL res) ∧ (∀ v, res = some v → v = b) ∧ Rel (i + 6) σ τ1 w κ
def PU_label (Rel : RelT) : Prop := ∀ (i : Nat) (σ τ : Mem) (w : Int64) (κ : Nat) (a1 a2 : Int32), i + 6 ≤ 3072 → Rel i σ τ w κ → ∃ (r : Int32) (σ1 : Mem) (τ1 : Mem), X9_label a1 a2 σ = some (r, σ1) ∧ X10_label a1 a2 τ = some (r, τ1) ∧ Rel (i + 6) σ1 τ1 w κ
def PU_cited (Rel : RelT) : Prop := ∀ (i : Nat) (σ τ : Mem) (w : Int64) (κ : Nat) (a1 a2 : Int32), i + 6 ≤ 3072 → Rel i σ τ w κ → ∃ (r : Int32) (σ1 : Mem) (τ1 : Mem), X9_cited a1 a2 σ = some (r, σ1) ∧ X10_cited a1 a2 τ = some (r, τ1) ∧ Rel (i + 6) σ1 τ1 w κ
def PU_octet (Rel : RelT) : Prop := ∀ (i : Nat) (σ τ : Mem) (w : Int64) (κ : Nat) (a1 : Int32), i + 6 ≤ 3072 → Rel i σ τ w κ → ∃ (res : Option Int32) (b : Int32) (τ1 : Mem), X9_octet a1 σ = some res ∧ X10_octet a1 τ = some (b, τ1) ∧ X10_thrown τ1 = some (rL res) ∧ (∀ v, res = some v → v = b) ∧ Rel (i + 6) σ τ1 w κ
def PU_cite (Rel : RelT) : Prop := ∀ (i : Nat) (σ τ : Mem) (w : Int64) (κ : Nat) (a1 : Int32), i + 6 ≤ 3072 → Rel i σ τ w κ → ∃ (r : Int32) (σ1 : Mem) (τ1 : Mem), X9_cite a1 σ = some (r, σ1) ∧ X10_cite a1 τ = some (r, τ1) ∧ Rel (i + 6) σ1 τ1 w κ
def PU_place (Rel : RelT) : Prop := ∀ (i : Nat) (σ τ : Mem) (w : Int64) (κ : Nat), i + 6 ≤ 3072 → Rel i σ τ w κ → ∃ (r : Int32) (τ1 : Mem), X9_place σ = some r ∧ X10_place τ = some (r, τ1) ∧ Rel (i + 6) σ τ1 w κ
def PU_bearers (Rel : RelT) : Prop := ∀ (i : Nat) (σ τ : Mem) (w : Int64) (κ : Nat), i + 6 ≤ 3072 → Rel i σ τ w κ → ∃ (r : Int32) (τ1 : Mem), X9_bearers σ = some r ∧ X10_bearers τ = some (r, τ1) ∧ Rel (i + 6) σ τ1 w κ
def PU_read (Rel : RelT) : Prop := ∀ (i : Nat) (σ τ : Mem) (w : Int64) (κ : Nat) (a1 : Int32), i + 6 ≤ 3072 → Rel i σ τ w κ → ∃ (r : Int32) (σ1 : Mem) (τ1 : Mem), X9_read a1 σ = some (r, σ1) ∧ X10_read a1 τ = some (r, τ1) ∧ Rel (i + 6) σ1 τ1 w κ
def PU_suffix (Rel : RelT) : Prop := ∀ (i : Nat) (σ τ : Mem) (w : Int64) (κ : Nat), i + 6 ≤ 3072 → Rel i σ τ w κ → ∃ (r : Int32) (τ1 : Mem), X9_suffix σ = some r ∧ X10_suffix τ = some (r, τ1) ∧ Rel (i + 6) σ τ1 w κ
def PU_clash (Rel : RelT) : Prop := ∀ (i : Nat) (σ τ : Mem) (w : Int64) (κ : Nat), i + 6 ≤ 3072 → Rel i σ τ w κ → ∃ (r : Int32) (τ1 : Mem), X9_clash σ = some r ∧ X10_clash τ = some (r, τ1) ∧ Rel (i + 6) σ τ1 w κ
def PU_at (Rel : RelT) : Prop := ∀ (i : Nat) (σ τ : Mem) (w : Int64) (κ : Nat) (a1 : Int32), i + 6 ≤ 3072 → Rel i σ τ w κ → ∃ (r : Int32) (τ1 : Mem), X9_at a1 σ = some r ∧ X10_at a1 τ = some (r, τ1) ∧ Rel (i + 6) σ τ1 w κ
def PU_count (Rel : RelT) : Prop := ∀ (i : Nat) (σ τ : Mem) (w : Int64) (κ : Nat) (a1 : Int32), i + 6 ≤ 3072 → Rel i σ τ w κ → ∃ (r : Int32) (τ1 : Mem), X9_count a1 σ = some r ∧ X10_count a1 τ = some (r, τ1) ∧ Rel (i + 6) σ τ1 w κ
def PU_cap (Rel : RelT) : Prop := ∀ (i : Nat) (σ τ : Mem) (w : Int64) (κ : Nat), Rel i σ τ w κ → κ ≤ 540000
def PU_skip (Rel : RelT) : Prop := ∀ (i : Nat) (σ τ : Mem) (w : Int64) (κ : Nat), Rel i σ τ w κ → Rel (i + 6) σ τ w κ
def PU (Rel : RelT) : Prop := Rel 0 mX9_0 mX10_0 0 0 ∧ PU_cap Rel ∧ PU_skip Rel ∧ PU_feed Rel ∧ PU_end Rel ∧ PU_levels Rel ∧ PU_fault Rel ∧ PU_add Rel ∧ PU_strike Rel ∧ PU_renumber Rel ∧ PU_error Rel ∧ PU_undo Rel ∧ PU_wait Rel ∧ PU_about Rel ∧ PU_label Rel ∧ PU_cited Rel ∧ PU_octet Rel ∧ PU_cite Rel ∧ PU_place Rel ∧ PU_bearers Rel ∧ PU_read Rel ∧ PU_suffix Rel ∧ PU_clash Rel ∧ PU_at Rel ∧ PU_count Rel
set_option maxHeartbeats 2000000 in
set_option maxRecDepth 40000 in
theorem law_feed {Rel : RelT} (hU : PU_feed Rel) {hC : PU_cap Rel} {p : Program} {l : Launch} {e : Env} {s : State} {m : MethodId} {below : List Frame} {meth : Method} {c : Code} {b L : Nat} {xs : Nat → Int32} {D : va_G} {cI cZ cB cL : ClassId} {K : Nat → Nat} (C0 : LC p l s m meth c b L xs D cI cZ cB cL K)
    {ada adb : Nat → Nat} {o i : Nat} {σ τ : Mem} {w : Int64} {κ : Nat} {f : Nat → Int64} {H : Heap} {locs : List Loc} {ls : Array Slot} {Q : State → Prop} (hI : LI D (fun q => s.heap.size ≤ q) (wdX9 cI cZ cB ada σ) (wdX10 cI cZ cB adb w τ) (rLx cL o f) H) (hS : va_S (fun q => s.heap.size ≤ q) s.heap H locs) (hl : lv_has ls 7 [(4, .int (nI i)), (0, .ref b), (1, .ref (ada 0)), (2, .ref (adb 0)), (3, .ref o)]) (hi : i + 6 ≤ L) (hR : Rel i σ τ w κ)
    (kk : ∀ (ada1 : Nat → Nat) (σ1 τ1 : Mem) (w1 : Int64) (κ1 : Nat) (f1 : Nat → Int64) (H1 : Heap) (locs1 : List Loc) (ls1 : Array Slot), ada1 0 = ada 0 → LI D (fun q => s.heap.size ≤ q) (wdX9 cI cZ cB ada1 σ1) (wdX10 cI cZ cB adb w1 τ1) (rLx cL o f1) H1 → va_S (fun q => s.heap.size ≤ q) s.heap H1 locs1 → lv_has ls1 7 [(4, .int (nI i)), (0, .ref b), (1, .ref (ada 0)), (2, .ref (adb 0)), (3, .ref o)] → Rel (i + 6) σ1 τ1 w1 κ1 → W p l e room_1 s m #[Value.ref b] below meth c H1 locs1 (56 + κ1 + (i + 6)) (498668 + κ1 + (i + 6)) Q (F0 m 792 ls1 [])) :
    W p l e room_1 s m #[Value.ref b] below meth c H locs (56 + κ + i) (498668 + κ + i) Q (F0 m 144 ls []) := by
  obtain ⟨⟨hx, hb, hml, hown, hts⟩, hfl, hX, hbl, hL, hK4, hGX, hGZ⟩ := C0
  have hK := hK4.sub (tys' := tyA cI cZ cB) [0, 1, 2] rfl
  have hA : ∀ q : Nat, s.heap.size ≤ q → (fun q => s.heap.size ≤ q) q := fun _ h => h
  have hbA : ¬ (fun q => s.heap.size ≤ q) b := Nat.not_le_of_lt hbl
  have hcap := hC _ _ _ _ _ hR
  obtain ⟨r, σ1, τ1, e9, e10, hR1⟩ := hU i σ τ w κ (xs (i + 1)) (xs (i + 2)) (xs (i + 3)) (xs (i + 4)) (xs (i + 5)) (by omega) hR
  have hcap1 := hC _ _ _ _ _ hR1
  refine lv_aload_n hx hb dL_law_144 rfl (lv_at hl 2 rfl) ?_
  refine la_arg (j0 := 1) (j4 := 0) 1 hx hb hX hbl hbA hS hl rfl rfl (by decide) (by omega) hL dL_law_145 dL_law_146 dL_law_148 dL_law_149 dL_law_150 ?_
  refine la_arg (j0 := 1) (j4 := 0) 2 hx hb hX hbl hbA hS hl rfl rfl (by decide) (by omega) hL dL_law_151 dL_law_152 dL_law_154 dL_law_155 dL_law_156 ?_
  refine la_arg (j0 := 1) (j4 := 0) 3 hx hb hX hbl hbA hS hl rfl rfl (by decide) (by omega) hL dL_law_157 dL_law_158 dL_law_160 dL_law_161 dL_law_162 ?_
  refine la_arg (j0 := 1) (j4 := 0) 4 hx hb hX hbl hbA hS hl rfl rfl (by decide) (by omega) hL dL_law_163 dL_law_164 dL_law_166 dL_law_167 dL_law_168 ?_
  refine la_arg (j0 := 1) (j4 := 0) 5 hx hb hX hbl hbA hS hl rfl rfl (by decide) (by omega) hL dL_law_169 dL_law_170 dL_law_172 dL_law_173 dL_law_174 ?_
  refine la_V (rest := []) ⟨hx, hb, hml, hown, hts⟩ (mX9_feed l D cI cZ cB ada σ H.size (xs (i + 1)) (xs (i + 2)) (xs (i + 3)) (xs (i + 4)) (xs (i + 5)) (r, σ1) e9) (cwV 5 hts gW_X9_feed rfl rfl rfl (by decide +kernel) ⟨Nat.le_of_ble_eq_true rfl, Nat.le_of_ble_eq_true rfl⟩) hK hI hS hA rfl (ci := 7) (q0 := 0) rfl rfl rfl rfl hl.1 rfl (Nat.le_of_ble_eq_true rfl) dL_law_175 ⟨by show _ ≤ 601024; omega, by show _ ≤ 7293034; omega⟩ (fun H locs hI hS => ?_)
  refine lv_aload_n hx hb dL_law_178 rfl (lv_at hl 3 rfl) ?_
  refine la_arg (j0 := 1) (j4 := 0) 1 hx hb hX hbl hbA hS hl rfl rfl (by decide) (by omega) hL dL_law_179 dL_law_180 dL_law_182 dL_law_183 dL_law_184 ?_
  refine la_arg (j0 := 1) (j4 := 0) 2 hx hb hX hbl hbA hS hl rfl rfl (by decide) (by omega) hL dL_law_185 dL_law_186 dL_law_188 dL_law_189 dL_law_190 ?_
  refine la_arg (j0 := 1) (j4 := 0) 3 hx hb hX hbl hbA hS hl rfl rfl (by decide) (by omega) hL dL_law_191 dL_law_192 dL_law_194 dL_law_195 dL_law_196 ?_
  refine la_arg (j0 := 1) (j4 := 0) 4 hx hb hX hbl hbA hS hl rfl rfl (by decide) (by omega) hL dL_law_197 dL_law_198 dL_law_200 dL_law_201 dL_law_202 ?_
  refine la_arg (j0 := 1) (j4 := 0) 5 hx hb hX hbl hbA hS hl rfl rfl (by decide) (by omega) hL dL_law_203 dL_law_204 dL_law_206 dL_law_207 dL_law_208 ?_
  refine la_V (rest := [.int r]) ⟨hx, hb, hml, hown, hts⟩ (mX10_feed l D cI cZ cB adb w τ H.size (xs (i + 1)) (xs (i + 2)) (xs (i + 3)) (xs (i + 4)) (xs (i + 5)) (r, τ1) e10) (cwV 5 hts gW_X10_feed rfl rfl rfl (by decide +kernel) ⟨Nat.le_of_ble_eq_true rfl, Nat.le_of_ble_eq_true rfl⟩) hK hI.swap hS hA rfl (ci := 8) (q0 := 0) rfl rfl rfl rfl hl.1 rfl (Nat.le_of_ble_eq_true rfl) dL_law_209 ⟨by show _ ≤ 601024; omega, by show _ ≤ 7293034; omega⟩ (fun H locs hI hS => ?_)
  have hI := hI.swap
  refine lv_icmp_eq (tgt := 792) hx hb dL_law_212 (by decide) (fun _ => ?_) (fun hne => absurd rfl hne)
  exact W.widen (by omega) (by omega) (kk ada σ1 τ1 w κ f H locs ls rfl hI hS hl hR1)
set_option maxHeartbeats 2000000 in
set_option maxRecDepth 40000 in
theorem law_end {Rel : RelT} (hU : PU_end Rel) {hC : PU_cap Rel} {p : Program} {l : Launch} {e : Env} {s : State} {m : MethodId} {below : List Frame} {meth : Method} {c : Code} {b L : Nat} {xs : Nat → Int32} {D : va_G} {cI cZ cB cL : ClassId} {K : Nat → Nat} (C0 : LC p l s m meth c b L xs D cI cZ cB cL K)
    {ada adb : Nat → Nat} {o i : Nat} {σ τ : Mem} {w : Int64} {κ : Nat} {f : Nat → Int64} {H : Heap} {locs : List Loc} {ls : Array Slot} {Q : State → Prop} (hI : LI D (fun q => s.heap.size ≤ q) (wdX9 cI cZ cB ada σ) (wdX10 cI cZ cB adb w τ) (rLx cL o f) H) (hS : va_S (fun q => s.heap.size ≤ q) s.heap H locs) (hl : lv_has ls 7 [(4, .int (nI i)), (0, .ref b), (1, .ref (ada 0)), (2, .ref (adb 0)), (3, .ref o)]) (hi : i + 6 ≤ L) (hR : Rel i σ τ w κ)
    (kk : ∀ (ada1 : Nat → Nat) (σ1 τ1 : Mem) (w1 : Int64) (κ1 : Nat) (f1 : Nat → Int64) (H1 : Heap) (locs1 : List Loc) (ls1 : Array Slot), ada1 0 = ada 0 → LI D (fun q => s.heap.size ≤ q) (wdX9 cI cZ cB ada1 σ1) (wdX10 cI cZ cB adb w1 τ1) (rLx cL o f1) H1 → va_S (fun q => s.heap.size ≤ q) s.heap H1 locs1 → lv_has ls1 7 [(4, .int (nI i)), (0, .ref b), (1, .ref (ada 0)), (2, .ref (adb 0)), (3, .ref o)] → Rel (i + 6) σ1 τ1 w1 κ1 → W p l e room_1 s m #[Value.ref b] below meth c H1 locs1 (56 + κ1 + (i + 6)) (498668 + κ1 + (i + 6)) Q (F0 m 792 ls1 [])) :
    W p l e room_1 s m #[Value.ref b] below meth c H locs (56 + κ + i) (498668 + κ + i) Q (F0 m 217 ls []) := by
  obtain ⟨⟨hx, hb, hml, hown, hts⟩, hfl, hX, hbl, hL, hK4, hGX, hGZ⟩ := C0
  have hK := hK4.sub (tys' := tyA cI cZ cB) [0, 1, 2] rfl
  have hA : ∀ q : Nat, s.heap.size ≤ q → (fun q => s.heap.size ≤ q) q := fun _ h => h
  have hbA : ¬ (fun q => s.heap.size ≤ q) b := Nat.not_le_of_lt hbl
  have hcap := hC _ _ _ _ _ hR
  obtain ⟨r, σ1, τ1, e9, e10, hR1⟩ := hU i σ τ w κ (xs (i + 1)) (by omega) hR
  have hcap1 := hC _ _ _ _ _ hR1
  refine lv_aload_n hx hb dL_law_217 rfl (lv_at hl 2 rfl) ?_
  refine la_arg (j0 := 1) (j4 := 0) 1 hx hb hX hbl hbA hS hl rfl rfl (by decide) (by omega) hL dL_law_218 dL_law_219 dL_law_221 dL_law_222 dL_law_223 ?_
  refine la_V (rest := []) ⟨hx, hb, hml, hown, hts⟩ (mX9_end l D cI cZ cB ada σ H.size (xs (i + 1)) (r, σ1) e9) (cwV 1 hts gW_X9_end rfl rfl rfl (by decide +kernel) ⟨Nat.le_of_ble_eq_true rfl, Nat.le_of_ble_eq_true rfl⟩) hK hI hS hA rfl (ci := 7) (q0 := 0) rfl rfl rfl rfl hl.1 rfl (Nat.le_of_ble_eq_true rfl) dL_law_224 ⟨by show _ ≤ 601024; omega, by show _ ≤ 7293034; omega⟩ (fun H locs hI hS => ?_)
  refine lv_aload_n hx hb dL_law_227 rfl (lv_at hl 3 rfl) ?_
  refine la_arg (j0 := 1) (j4 := 0) 1 hx hb hX hbl hbA hS hl rfl rfl (by decide) (by omega) hL dL_law_228 dL_law_229 dL_law_231 dL_law_232 dL_law_233 ?_
  refine la_V (rest := [.int r]) ⟨hx, hb, hml, hown, hts⟩ (mX10_end l D cI cZ cB adb w τ H.size (xs (i + 1)) (r, τ1) e10) (cwV 1 hts gW_X10_end rfl rfl rfl (by decide +kernel) ⟨Nat.le_of_ble_eq_true rfl, Nat.le_of_ble_eq_true rfl⟩) hK hI.swap hS hA rfl (ci := 8) (q0 := 0) rfl rfl rfl rfl hl.1 rfl (Nat.le_of_ble_eq_true rfl) dL_law_234 ⟨by show _ ≤ 601024; omega, by show _ ≤ 7293034; omega⟩ (fun H locs hI hS => ?_)
  have hI := hI.swap
  refine lv_icmp_eq (tgt := 792) hx hb dL_law_237 (by decide) (fun _ => ?_) (fun hne => absurd rfl hne)
  exact W.widen (by omega) (by omega) (kk ada σ1 τ1 w κ f H locs ls rfl hI hS hl hR1)
set_option maxHeartbeats 2000000 in
set_option maxRecDepth 40000 in
theorem law_levels {Rel : RelT} (hU : PU_levels Rel) {hC : PU_cap Rel} {p : Program} {l : Launch} {e : Env} {s : State} {m : MethodId} {below : List Frame} {meth : Method} {c : Code} {b L : Nat} {xs : Nat → Int32} {D : va_G} {cI cZ cB cL : ClassId} {K : Nat → Nat} (C0 : LC p l s m meth c b L xs D cI cZ cB cL K)
    {ada adb : Nat → Nat} {o i : Nat} {σ τ : Mem} {w : Int64} {κ : Nat} {f : Nat → Int64} {H : Heap} {locs : List Loc} {ls : Array Slot} {Q : State → Prop} (hI : LI D (fun q => s.heap.size ≤ q) (wdX9 cI cZ cB ada σ) (wdX10 cI cZ cB adb w τ) (rLx cL o f) H) (hS : va_S (fun q => s.heap.size ≤ q) s.heap H locs) (hl : lv_has ls 7 [(4, .int (nI i)), (0, .ref b), (1, .ref (ada 0)), (2, .ref (adb 0)), (3, .ref o)]) (hi : i + 6 ≤ L) (hR : Rel i σ τ w κ)
    (kk : ∀ (ada1 : Nat → Nat) (σ1 τ1 : Mem) (w1 : Int64) (κ1 : Nat) (f1 : Nat → Int64) (H1 : Heap) (locs1 : List Loc) (ls1 : Array Slot), ada1 0 = ada 0 → LI D (fun q => s.heap.size ≤ q) (wdX9 cI cZ cB ada1 σ1) (wdX10 cI cZ cB adb w1 τ1) (rLx cL o f1) H1 → va_S (fun q => s.heap.size ≤ q) s.heap H1 locs1 → lv_has ls1 7 [(4, .int (nI i)), (0, .ref b), (1, .ref (ada 0)), (2, .ref (adb 0)), (3, .ref o)] → Rel (i + 6) σ1 τ1 w1 κ1 → W p l e room_1 s m #[Value.ref b] below meth c H1 locs1 (56 + κ1 + (i + 6)) (498668 + κ1 + (i + 6)) Q (F0 m 792 ls1 [])) :
    W p l e room_1 s m #[Value.ref b] below meth c H locs (56 + κ + i) (498668 + κ + i) Q (F0 m 242 ls []) := by
  obtain ⟨⟨hx, hb, hml, hown, hts⟩, hfl, hX, hbl, hL, hK4, hGX, hGZ⟩ := C0
  have hK := hK4.sub (tys' := tyA cI cZ cB) [0, 1, 2] rfl
  have hA : ∀ q : Nat, s.heap.size ≤ q → (fun q => s.heap.size ≤ q) q := fun _ h => h
  have hbA : ¬ (fun q => s.heap.size ≤ q) b := Nat.not_le_of_lt hbl
  have hcap := hC _ _ _ _ _ hR
  obtain ⟨r, σ1, τ1, w1, e9, e10, hR1⟩ := hU i σ τ w κ (by omega) hR
  have hcap1 := hC _ _ _ _ _ hR1
  refine lv_aload_n hx hb dL_law_242 rfl (lv_at hl 2 rfl) ?_
  refine la_Vx (rest := []) ⟨hx, hb, hml, hown, hts⟩ (mX9_levels K l D cI cZ cB ada σ H.size (r, σ1) e9) (cwV 0 hts gW_X9_levels rfl rfl rfl (by decide +kernel) ⟨Nat.le_of_ble_eq_true rfl, Nat.le_of_ble_eq_true rfl⟩) hGX hK hI hS hA rfl (ci := 7) (q0 := 0) rfl rfl rfl rfl hl.1 rfl (Nat.le_of_ble_eq_true rfl) dL_law_243 ⟨by show _ ≤ 601024; omega, by show _ ≤ 7293034; omega⟩ (fun H locs hI hS => ?_)
  refine lv_aload_n hx hb dL_law_246 rfl (lv_at hl 3 rfl) ?_
  refine la_V (rest := [.int r]) ⟨hx, hb, hml, hown, hts⟩ (mX10_levels l D cI cZ cB adb w τ H.size (r, τ1, w1) e10) (cwV 0 hts gW_X10_levels rfl rfl rfl (by decide +kernel) ⟨Nat.le_of_ble_eq_true rfl, Nat.le_of_ble_eq_true rfl⟩) hK hI.swap hS hA rfl (ci := 8) (q0 := 0) rfl rfl rfl rfl hl.1 rfl (Nat.le_of_ble_eq_true rfl) dL_law_247 ⟨by show _ ≤ 601024; omega, by show _ ≤ 7293034; omega⟩ (fun H locs hI hS => ?_)
  have hI := hI.swap
  refine lv_icmp_eq (tgt := 792) hx hb dL_law_250 (by decide) (fun _ => ?_) (fun hne => absurd rfl hne)
  exact W.widen (by omega) (by omega) (kk ada σ1 τ1 w1 κ f H locs ls rfl hI hS hl hR1)
set_option maxHeartbeats 2000000 in
set_option maxRecDepth 40000 in
theorem law_fault {Rel : RelT} (hU : PU_fault Rel) {hC : PU_cap Rel} {p : Program} {l : Launch} {e : Env} {s : State} {m : MethodId} {below : List Frame} {meth : Method} {c : Code} {b L : Nat} {xs : Nat → Int32} {D : va_G} {cI cZ cB cL : ClassId} {K : Nat → Nat} (C0 : LC p l s m meth c b L xs D cI cZ cB cL K)
    {ada adb : Nat → Nat} {o i : Nat} {σ τ : Mem} {w : Int64} {κ : Nat} {f : Nat → Int64} {H : Heap} {locs : List Loc} {ls : Array Slot} {Q : State → Prop} (hI : LI D (fun q => s.heap.size ≤ q) (wdX9 cI cZ cB ada σ) (wdX10 cI cZ cB adb w τ) (rLx cL o f) H) (hS : va_S (fun q => s.heap.size ≤ q) s.heap H locs) (hl : lv_has ls 7 [(4, .int (nI i)), (0, .ref b), (1, .ref (ada 0)), (2, .ref (adb 0)), (3, .ref o)]) (hi : i + 6 ≤ L) (hR : Rel i σ τ w κ)
    (kk : ∀ (ada1 : Nat → Nat) (σ1 τ1 : Mem) (w1 : Int64) (κ1 : Nat) (f1 : Nat → Int64) (H1 : Heap) (locs1 : List Loc) (ls1 : Array Slot), ada1 0 = ada 0 → LI D (fun q => s.heap.size ≤ q) (wdX9 cI cZ cB ada1 σ1) (wdX10 cI cZ cB adb w1 τ1) (rLx cL o f1) H1 → va_S (fun q => s.heap.size ≤ q) s.heap H1 locs1 → lv_has ls1 7 [(4, .int (nI i)), (0, .ref b), (1, .ref (ada 0)), (2, .ref (adb 0)), (3, .ref o)] → Rel (i + 6) σ1 τ1 w1 κ1 → W p l e room_1 s m #[Value.ref b] below meth c H1 locs1 (56 + κ1 + (i + 6)) (498668 + κ1 + (i + 6)) Q (F0 m 792 ls1 [])) :
    W p l e room_1 s m #[Value.ref b] below meth c H locs (56 + κ + i) (498668 + κ + i) Q (F0 m 255 ls []) := by
  obtain ⟨⟨hx, hb, hml, hown, hts⟩, hfl, hX, hbl, hL, hK4, hGX, hGZ⟩ := C0
  have hK := hK4.sub (tys' := tyA cI cZ cB) [0, 1, 2] rfl
  have hA : ∀ q : Nat, s.heap.size ≤ q → (fun q => s.heap.size ≤ q) q := fun _ h => h
  have hbA : ¬ (fun q => s.heap.size ≤ q) b := Nat.not_le_of_lt hbl
  have hcap := hC _ _ _ _ _ hR
  obtain ⟨r, τ1, e9, e10, hR1⟩ := hU i σ τ w κ (by omega) hR
  have hcap1 := hC _ _ _ _ _ hR1
  refine lv_aload_n hx hb dL_law_255 rfl (lv_at hl 2 rfl) ?_
  refine cl_RV (rest := []) ⟨hx, hb, hml, hown, hts⟩ (mX9_fault l D cI cZ cB ada σ r e9) (cwV 0 hts gW_X9_fault rfl rfl rfl (by decide +kernel) ⟨Nat.le_of_ble_eq_true rfl, Nat.le_of_ble_eq_true rfl⟩) hK hI.1.1 (ci := 7) (q0 := 0) rfl rfl rfl rfl hl.1 rfl (Nat.le_of_ble_eq_true rfl) dL_law_256 ⟨by show _ ≤ 601024; omega, by show _ ≤ 7293034; omega⟩ ?_
  refine lv_aload_n hx hb dL_law_259 rfl (lv_at hl 3 rfl) ?_
  refine la_V (rest := [.int r]) ⟨hx, hb, hml, hown, hts⟩ (mX10_fault l D cI cZ cB adb w τ H.size (r, τ1) e10) (cwV 0 hts gW_X10_fault rfl rfl rfl (by decide +kernel) ⟨Nat.le_of_ble_eq_true rfl, Nat.le_of_ble_eq_true rfl⟩) hK hI.swap hS hA rfl (ci := 8) (q0 := 0) rfl rfl rfl rfl hl.1 rfl (Nat.le_of_ble_eq_true rfl) dL_law_260 ⟨by show _ ≤ 601024; omega, by show _ ≤ 7293034; omega⟩ (fun H locs hI hS => ?_)
  have hI := hI.swap
  refine lv_icmp_eq (tgt := 792) hx hb dL_law_263 (by decide) (fun _ => ?_) (fun hne => absurd rfl hne)
  exact W.widen (by omega) (by omega) (kk ada σ τ1 w κ f H locs ls rfl hI hS hl hR1)
set_option maxHeartbeats 2000000 in
set_option maxRecDepth 40000 in
theorem law_add {Rel : RelT} (hU : PU_add Rel) {hC : PU_cap Rel} {p : Program} {l : Launch} {e : Env} {s : State} {m : MethodId} {below : List Frame} {meth : Method} {c : Code} {b L : Nat} {xs : Nat → Int32} {D : va_G} {cI cZ cB cL : ClassId} {K : Nat → Nat} (C0 : LC p l s m meth c b L xs D cI cZ cB cL K)
    {ada adb : Nat → Nat} {o i : Nat} {σ τ : Mem} {w : Int64} {κ : Nat} {f : Nat → Int64} {H : Heap} {locs : List Loc} {ls : Array Slot} {Q : State → Prop} (hI : LI D (fun q => s.heap.size ≤ q) (wdX9 cI cZ cB ada σ) (wdX10 cI cZ cB adb w τ) (rLx cL o f) H) (hS : va_S (fun q => s.heap.size ≤ q) s.heap H locs) (hl : lv_has ls 7 [(4, .int (nI i)), (0, .ref b), (1, .ref (ada 0)), (2, .ref (adb 0)), (3, .ref o)]) (hi : i + 6 ≤ L) (hR : Rel i σ τ w κ)
    (kk : ∀ (ada1 : Nat → Nat) (σ1 τ1 : Mem) (w1 : Int64) (κ1 : Nat) (f1 : Nat → Int64) (H1 : Heap) (locs1 : List Loc) (ls1 : Array Slot), ada1 0 = ada 0 → LI D (fun q => s.heap.size ≤ q) (wdX9 cI cZ cB ada1 σ1) (wdX10 cI cZ cB adb w1 τ1) (rLx cL o f1) H1 → va_S (fun q => s.heap.size ≤ q) s.heap H1 locs1 → lv_has ls1 7 [(4, .int (nI i)), (0, .ref b), (1, .ref (ada 0)), (2, .ref (adb 0)), (3, .ref o)] → Rel (i + 6) σ1 τ1 w1 κ1 → W p l e room_1 s m #[Value.ref b] below meth c H1 locs1 (56 + κ1 + (i + 6)) (498668 + κ1 + (i + 6)) Q (F0 m 792 ls1 [])) :
    W p l e room_1 s m #[Value.ref b] below meth c H locs (56 + κ + i) (498668 + κ + i) Q (F0 m 268 ls []) := by
  obtain ⟨⟨hx, hb, hml, hown, hts⟩, hfl, hX, hbl, hL, hK4, hGX, hGZ⟩ := C0
  have hK := hK4.sub (tys' := tyA cI cZ cB) [0, 1, 2] rfl
  have hA : ∀ q : Nat, s.heap.size ≤ q → (fun q => s.heap.size ≤ q) q := fun _ h => h
  have hbA : ¬ (fun q => s.heap.size ≤ q) b := Nat.not_le_of_lt hbl
  have hcap := hC _ _ _ _ _ hR
  obtain ⟨r, σ1, κ1, τ1, e9, e10, hR1⟩ := hU i σ τ w κ (xs (i + 1)) (xs (i + 2)) (by omega) hR
  have hcap1 := hC _ _ _ _ _ hR1
  refine lv_aload_n hx hb dL_law_268 rfl (lv_at hl 2 rfl) ?_
  refine la_arg (j0 := 1) (j4 := 0) 1 hx hb hX hbl hbA hS hl rfl rfl (by decide) (by omega) hL dL_law_269 dL_law_270 dL_law_272 dL_law_273 dL_law_274 ?_
  refine la_arg (j0 := 1) (j4 := 0) 2 hx hb hX hbl hbA hS hl rfl rfl (by decide) (by omega) hL dL_law_275 dL_law_276 dL_law_278 dL_law_279 dL_law_280 ?_
  refine la_VG (rest := []) ⟨hx, hb, hml, hown, hts⟩ (mX9_add l D cI cZ cB ada σ H.size (xs (i + 1)) (xs (i + 2)) ((r, σ1), κ1) e9) (cwV 2 hts gW_X9_add rfl rfl rfl (by decide +kernel) ⟨Nat.le_of_ble_eq_true rfl, Nat.le_of_ble_eq_true rfl⟩) hK hI hS hA (ci := 7) (q0 := 0) rfl rfl rfl rfl hl.1 rfl (Nat.le_of_ble_eq_true rfl) dL_law_281 ⟨by show _ ≤ 601024; omega, by show _ ≤ 7293034; omega⟩ (fun adv H locs hI hS => ?_)
  refine lv_aload_n hx hb dL_law_284 rfl (lv_at hl 3 rfl) ?_
  refine la_arg (j0 := 1) (j4 := 0) 1 hx hb hX hbl hbA hS hl rfl rfl (by decide) (by omega) hL dL_law_285 dL_law_286 dL_law_288 dL_law_289 dL_law_290 ?_
  refine la_arg (j0 := 1) (j4 := 0) 2 hx hb hX hbl hbA hS hl rfl rfl (by decide) (by omega) hL dL_law_291 dL_law_292 dL_law_294 dL_law_295 dL_law_296 ?_
  refine la_V (rest := [.int r]) ⟨hx, hb, hml, hown, hts⟩ (mX10_add l D cI cZ cB adb w τ H.size (xs (i + 1)) (xs (i + 2)) (r, τ1) e10) (cwV 2 hts gW_X10_add rfl rfl rfl (by decide +kernel) ⟨Nat.le_of_ble_eq_true rfl, Nat.le_of_ble_eq_true rfl⟩) hK hI.swap hS hA rfl (ci := 8) (q0 := 0) rfl rfl rfl rfl hl.1 rfl (Nat.le_of_ble_eq_true rfl) dL_law_297 ⟨by show _ ≤ 601024; omega, by show _ ≤ 7293034; omega⟩ (fun H locs hI hS => ?_)
  have hI := hI.swap
  refine lv_icmp_eq (tgt := 792) hx hb dL_law_300 (by decide) (fun _ => ?_) (fun hne => absurd rfl hne)
  exact W.widen (by omega) (by omega) (kk (mg ada LH9 adv) σ1 τ1 w (κ + κ1) f H locs ls rfl hI hS hl hR1)
set_option maxHeartbeats 2000000 in
set_option maxRecDepth 40000 in
theorem law_strike {Rel : RelT} (hU : PU_strike Rel) {hC : PU_cap Rel} {p : Program} {l : Launch} {e : Env} {s : State} {m : MethodId} {below : List Frame} {meth : Method} {c : Code} {b L : Nat} {xs : Nat → Int32} {D : va_G} {cI cZ cB cL : ClassId} {K : Nat → Nat} (C0 : LC p l s m meth c b L xs D cI cZ cB cL K)
    {ada adb : Nat → Nat} {o i : Nat} {σ τ : Mem} {w : Int64} {κ : Nat} {f : Nat → Int64} {H : Heap} {locs : List Loc} {ls : Array Slot} {Q : State → Prop} (hI : LI D (fun q => s.heap.size ≤ q) (wdX9 cI cZ cB ada σ) (wdX10 cI cZ cB adb w τ) (rLx cL o f) H) (hS : va_S (fun q => s.heap.size ≤ q) s.heap H locs) (hl : lv_has ls 7 [(4, .int (nI i)), (0, .ref b), (1, .ref (ada 0)), (2, .ref (adb 0)), (3, .ref o)]) (hi : i + 6 ≤ L) (hR : Rel i σ τ w κ)
    (kk : ∀ (ada1 : Nat → Nat) (σ1 τ1 : Mem) (w1 : Int64) (κ1 : Nat) (f1 : Nat → Int64) (H1 : Heap) (locs1 : List Loc) (ls1 : Array Slot), ada1 0 = ada 0 → LI D (fun q => s.heap.size ≤ q) (wdX9 cI cZ cB ada1 σ1) (wdX10 cI cZ cB adb w1 τ1) (rLx cL o f1) H1 → va_S (fun q => s.heap.size ≤ q) s.heap H1 locs1 → lv_has ls1 7 [(4, .int (nI i)), (0, .ref b), (1, .ref (ada 0)), (2, .ref (adb 0)), (3, .ref o)] → Rel (i + 6) σ1 τ1 w1 κ1 → W p l e room_1 s m #[Value.ref b] below meth c H1 locs1 (56 + κ1 + (i + 6)) (498668 + κ1 + (i + 6)) Q (F0 m 792 ls1 [])) :
    W p l e room_1 s m #[Value.ref b] below meth c H locs (56 + κ + i) (498668 + κ + i) Q (F0 m 305 ls []) := by
  obtain ⟨⟨hx, hb, hml, hown, hts⟩, hfl, hX, hbl, hL, hK4, hGX, hGZ⟩ := C0
  have hK := hK4.sub (tys' := tyA cI cZ cB) [0, 1, 2] rfl
  have hA : ∀ q : Nat, s.heap.size ≤ q → (fun q => s.heap.size ≤ q) q := fun _ h => h
  have hbA : ¬ (fun q => s.heap.size ≤ q) b := Nat.not_le_of_lt hbl
  have hcap := hC _ _ _ _ _ hR
  obtain ⟨r, σ1, τ1, e9, e10, hR1⟩ := hU i σ τ w κ (xs (i + 1)) (by omega) hR
  have hcap1 := hC _ _ _ _ _ hR1
  refine lv_aload_n hx hb dL_law_305 rfl (lv_at hl 2 rfl) ?_
  refine la_arg (j0 := 1) (j4 := 0) 1 hx hb hX hbl hbA hS hl rfl rfl (by decide) (by omega) hL dL_law_306 dL_law_307 dL_law_309 dL_law_310 dL_law_311 ?_
  refine la_V (rest := []) ⟨hx, hb, hml, hown, hts⟩ (mX9_strike l D cI cZ cB ada σ H.size (xs (i + 1)) (r, σ1) e9) (cwV 1 hts gW_X9_strike rfl rfl rfl (by decide +kernel) ⟨Nat.le_of_ble_eq_true rfl, Nat.le_of_ble_eq_true rfl⟩) hK hI hS hA rfl (ci := 7) (q0 := 0) rfl rfl rfl rfl hl.1 rfl (Nat.le_of_ble_eq_true rfl) dL_law_312 ⟨by show _ ≤ 601024; omega, by show _ ≤ 7293034; omega⟩ (fun H locs hI hS => ?_)
  refine lv_aload_n hx hb dL_law_315 rfl (lv_at hl 3 rfl) ?_
  refine la_arg (j0 := 1) (j4 := 0) 1 hx hb hX hbl hbA hS hl rfl rfl (by decide) (by omega) hL dL_law_316 dL_law_317 dL_law_319 dL_law_320 dL_law_321 ?_
  refine la_V (rest := [.int r]) ⟨hx, hb, hml, hown, hts⟩ (mX10_strike l D cI cZ cB adb w τ H.size (xs (i + 1)) (r, τ1) e10) (cwV 1 hts gW_X10_strike rfl rfl rfl (by decide +kernel) ⟨Nat.le_of_ble_eq_true rfl, Nat.le_of_ble_eq_true rfl⟩) hK hI.swap hS hA rfl (ci := 8) (q0 := 0) rfl rfl rfl rfl hl.1 rfl (Nat.le_of_ble_eq_true rfl) dL_law_322 ⟨by show _ ≤ 601024; omega, by show _ ≤ 7293034; omega⟩ (fun H locs hI hS => ?_)
  have hI := hI.swap
  refine lv_icmp_eq (tgt := 792) hx hb dL_law_325 (by decide) (fun _ => ?_) (fun hne => absurd rfl hne)
  exact W.widen (by omega) (by omega) (kk ada σ1 τ1 w κ f H locs ls rfl hI hS hl hR1)
set_option maxHeartbeats 2000000 in
set_option maxRecDepth 40000 in
theorem law_renumber {Rel : RelT} (hU : PU_renumber Rel) {hC : PU_cap Rel} {p : Program} {l : Launch} {e : Env} {s : State} {m : MethodId} {below : List Frame} {meth : Method} {c : Code} {b L : Nat} {xs : Nat → Int32} {D : va_G} {cI cZ cB cL : ClassId} {K : Nat → Nat} (C0 : LC p l s m meth c b L xs D cI cZ cB cL K)
    {ada adb : Nat → Nat} {o i : Nat} {σ τ : Mem} {w : Int64} {κ : Nat} {f : Nat → Int64} {H : Heap} {locs : List Loc} {ls : Array Slot} {Q : State → Prop} (hI : LI D (fun q => s.heap.size ≤ q) (wdX9 cI cZ cB ada σ) (wdX10 cI cZ cB adb w τ) (rLx cL o f) H) (hS : va_S (fun q => s.heap.size ≤ q) s.heap H locs) (hl : lv_has ls 7 [(4, .int (nI i)), (0, .ref b), (1, .ref (ada 0)), (2, .ref (adb 0)), (3, .ref o)]) (hi : i + 6 ≤ L) (hR : Rel i σ τ w κ)
    (kk : ∀ (ada1 : Nat → Nat) (σ1 τ1 : Mem) (w1 : Int64) (κ1 : Nat) (f1 : Nat → Int64) (H1 : Heap) (locs1 : List Loc) (ls1 : Array Slot), ada1 0 = ada 0 → LI D (fun q => s.heap.size ≤ q) (wdX9 cI cZ cB ada1 σ1) (wdX10 cI cZ cB adb w1 τ1) (rLx cL o f1) H1 → va_S (fun q => s.heap.size ≤ q) s.heap H1 locs1 → lv_has ls1 7 [(4, .int (nI i)), (0, .ref b), (1, .ref (ada 0)), (2, .ref (adb 0)), (3, .ref o)] → Rel (i + 6) σ1 τ1 w1 κ1 → W p l e room_1 s m #[Value.ref b] below meth c H1 locs1 (56 + κ1 + (i + 6)) (498668 + κ1 + (i + 6)) Q (F0 m 792 ls1 [])) :
    W p l e room_1 s m #[Value.ref b] below meth c H locs (56 + κ + i) (498668 + κ + i) Q (F0 m 330 ls []) := by
  obtain ⟨⟨hx, hb, hml, hown, hts⟩, hfl, hX, hbl, hL, hK4, hGX, hGZ⟩ := C0
  have hK := hK4.sub (tys' := tyA cI cZ cB) [0, 1, 2] rfl
  have hA : ∀ q : Nat, s.heap.size ≤ q → (fun q => s.heap.size ≤ q) q := fun _ h => h
  have hbA : ¬ (fun q => s.heap.size ≤ q) b := Nat.not_le_of_lt hbl
  have hcap := hC _ _ _ _ _ hR
  obtain ⟨r, σ1, κ1, τ1, e9, e10, hR1⟩ := hU i σ τ w κ (xs (i + 1)) (by omega) hR
  have hcap1 := hC _ _ _ _ _ hR1
  refine lv_aload_n hx hb dL_law_330 rfl (lv_at hl 2 rfl) ?_
  refine la_arg (j0 := 1) (j4 := 0) 1 hx hb hX hbl hbA hS hl rfl rfl (by decide) (by omega) hL dL_law_331 dL_law_332 dL_law_334 dL_law_335 dL_law_336 ?_
  refine la_VG (rest := []) ⟨hx, hb, hml, hown, hts⟩ (mX9_renumber l D cI cZ cB ada σ H.size (xs (i + 1)) ((r, σ1), κ1) e9) (cwV 1 hts gW_X9_renumber rfl rfl rfl (by decide +kernel) ⟨Nat.le_of_ble_eq_true rfl, Nat.le_of_ble_eq_true rfl⟩) hK hI hS hA (ci := 7) (q0 := 0) rfl rfl rfl rfl hl.1 rfl (Nat.le_of_ble_eq_true rfl) dL_law_337 ⟨by show _ ≤ 601024; omega, by show _ ≤ 7293034; omega⟩ (fun adv H locs hI hS => ?_)
  refine lv_aload_n hx hb dL_law_340 rfl (lv_at hl 3 rfl) ?_
  refine la_arg (j0 := 1) (j4 := 0) 1 hx hb hX hbl hbA hS hl rfl rfl (by decide) (by omega) hL dL_law_341 dL_law_342 dL_law_344 dL_law_345 dL_law_346 ?_
  refine la_V (rest := [.int r]) ⟨hx, hb, hml, hown, hts⟩ (mX10_renumber l D cI cZ cB adb w τ H.size (xs (i + 1)) (r, τ1) e10) (cwV 1 hts gW_X10_renumber rfl rfl rfl (by decide +kernel) ⟨Nat.le_of_ble_eq_true rfl, Nat.le_of_ble_eq_true rfl⟩) hK hI.swap hS hA rfl (ci := 8) (q0 := 0) rfl rfl rfl rfl hl.1 rfl (Nat.le_of_ble_eq_true rfl) dL_law_347 ⟨by show _ ≤ 601024; omega, by show _ ≤ 7293034; omega⟩ (fun H locs hI hS => ?_)
  have hI := hI.swap
  refine lv_icmp_eq (tgt := 792) hx hb dL_law_350 (by decide) (fun _ => ?_) (fun hne => absurd rfl hne)
  exact W.widen (by omega) (by omega) (kk (mg ada LH9 adv) σ1 τ1 w (κ + κ1) f H locs ls rfl hI hS hl hR1)
set_option maxHeartbeats 2000000 in
set_option maxRecDepth 40000 in
theorem law_error {Rel : RelT} (hU : PU_error Rel) {hC : PU_cap Rel} {p : Program} {l : Launch} {e : Env} {s : State} {m : MethodId} {below : List Frame} {meth : Method} {c : Code} {b L : Nat} {xs : Nat → Int32} {D : va_G} {cI cZ cB cL : ClassId} {K : Nat → Nat} (C0 : LC p l s m meth c b L xs D cI cZ cB cL K)
    {ada adb : Nat → Nat} {o i : Nat} {σ τ : Mem} {w : Int64} {κ : Nat} {f : Nat → Int64} {H : Heap} {locs : List Loc} {ls : Array Slot} {Q : State → Prop} (hI : LI D (fun q => s.heap.size ≤ q) (wdX9 cI cZ cB ada σ) (wdX10 cI cZ cB adb w τ) (rLx cL o f) H) (hS : va_S (fun q => s.heap.size ≤ q) s.heap H locs) (hl : lv_has ls 7 [(4, .int (nI i)), (0, .ref b), (1, .ref (ada 0)), (2, .ref (adb 0)), (3, .ref o)]) (hi : i + 6 ≤ L) (hR : Rel i σ τ w κ)
    (kk : ∀ (ada1 : Nat → Nat) (σ1 τ1 : Mem) (w1 : Int64) (κ1 : Nat) (f1 : Nat → Int64) (H1 : Heap) (locs1 : List Loc) (ls1 : Array Slot), ada1 0 = ada 0 → LI D (fun q => s.heap.size ≤ q) (wdX9 cI cZ cB ada1 σ1) (wdX10 cI cZ cB adb w1 τ1) (rLx cL o f1) H1 → va_S (fun q => s.heap.size ≤ q) s.heap H1 locs1 → lv_has ls1 7 [(4, .int (nI i)), (0, .ref b), (1, .ref (ada 0)), (2, .ref (adb 0)), (3, .ref o)] → Rel (i + 6) σ1 τ1 w1 κ1 → W p l e room_1 s m #[Value.ref b] below meth c H1 locs1 (56 + κ1 + (i + 6)) (498668 + κ1 + (i + 6)) Q (F0 m 792 ls1 [])) :
    W p l e room_1 s m #[Value.ref b] below meth c H locs (56 + κ + i) (498668 + κ + i) Q (F0 m 355 ls []) := by
  obtain ⟨⟨hx, hb, hml, hown, hts⟩, hfl, hX, hbl, hL, hK4, hGX, hGZ⟩ := C0
  have hK := hK4.sub (tys' := tyA cI cZ cB) [0, 1, 2] rfl
  have hA : ∀ q : Nat, s.heap.size ≤ q → (fun q => s.heap.size ≤ q) q := fun _ h => h
  have hbA : ¬ (fun q => s.heap.size ≤ q) b := Nat.not_le_of_lt hbl
  have hcap := hC _ _ _ _ _ hR
  obtain ⟨r, σ1, κ1, τ1, e9, e10, hR1⟩ := hU i σ τ w κ (xs (i + 1)) (xs (i + 2)) (xs (i + 3)) (by omega) hR
  have hcap1 := hC _ _ _ _ _ hR1
  refine lv_aload_n hx hb dL_law_355 rfl (lv_at hl 2 rfl) ?_
  refine la_arg (j0 := 1) (j4 := 0) 1 hx hb hX hbl hbA hS hl rfl rfl (by decide) (by omega) hL dL_law_356 dL_law_357 dL_law_359 dL_law_360 dL_law_361 ?_
  refine la_arg (j0 := 1) (j4 := 0) 2 hx hb hX hbl hbA hS hl rfl rfl (by decide) (by omega) hL dL_law_362 dL_law_363 dL_law_365 dL_law_366 dL_law_367 ?_
  refine la_arg (j0 := 1) (j4 := 0) 3 hx hb hX hbl hbA hS hl rfl rfl (by decide) (by omega) hL dL_law_368 dL_law_369 dL_law_371 dL_law_372 dL_law_373 ?_
  refine la_VG (rest := []) ⟨hx, hb, hml, hown, hts⟩ (mX9_error l D cI cZ cB ada σ H.size (xs (i + 1)) (xs (i + 2)) (xs (i + 3)) ((r, σ1), κ1) e9) (cwV 3 hts gW_X9_error rfl rfl rfl (by decide +kernel) ⟨Nat.le_of_ble_eq_true rfl, Nat.le_of_ble_eq_true rfl⟩) hK hI hS hA (ci := 7) (q0 := 0) rfl rfl rfl rfl hl.1 rfl (Nat.le_of_ble_eq_true rfl) dL_law_374 ⟨by show _ ≤ 601024; omega, by show _ ≤ 7293034; omega⟩ (fun adv H locs hI hS => ?_)
  refine lv_aload_n hx hb dL_law_377 rfl (lv_at hl 3 rfl) ?_
  refine la_arg (j0 := 1) (j4 := 0) 1 hx hb hX hbl hbA hS hl rfl rfl (by decide) (by omega) hL dL_law_378 dL_law_379 dL_law_381 dL_law_382 dL_law_383 ?_
  refine la_arg (j0 := 1) (j4 := 0) 2 hx hb hX hbl hbA hS hl rfl rfl (by decide) (by omega) hL dL_law_384 dL_law_385 dL_law_387 dL_law_388 dL_law_389 ?_
  refine la_arg (j0 := 1) (j4 := 0) 3 hx hb hX hbl hbA hS hl rfl rfl (by decide) (by omega) hL dL_law_390 dL_law_391 dL_law_393 dL_law_394 dL_law_395 ?_
  refine la_V (rest := [.int r]) ⟨hx, hb, hml, hown, hts⟩ (mX10_error l D cI cZ cB adb w τ H.size (xs (i + 1)) (xs (i + 2)) (xs (i + 3)) (r, τ1) e10) (cwV 3 hts gW_X10_error rfl rfl rfl (by decide +kernel) ⟨Nat.le_of_ble_eq_true rfl, Nat.le_of_ble_eq_true rfl⟩) hK hI.swap hS hA rfl (ci := 8) (q0 := 0) rfl rfl rfl rfl hl.1 rfl (Nat.le_of_ble_eq_true rfl) dL_law_396 ⟨by show _ ≤ 601024; omega, by show _ ≤ 7293034; omega⟩ (fun H locs hI hS => ?_)
  have hI := hI.swap
  refine lv_icmp_eq (tgt := 792) hx hb dL_law_399 (by decide) (fun _ => ?_) (fun hne => absurd rfl hne)
  exact W.widen (by omega) (by omega) (kk (mg ada LH9 adv) σ1 τ1 w (κ + κ1) f H locs ls rfl hI hS hl hR1)
set_option maxHeartbeats 2000000 in
set_option maxRecDepth 40000 in
theorem law_undo {Rel : RelT} (hU : PU_undo Rel) {hC : PU_cap Rel} {p : Program} {l : Launch} {e : Env} {s : State} {m : MethodId} {below : List Frame} {meth : Method} {c : Code} {b L : Nat} {xs : Nat → Int32} {D : va_G} {cI cZ cB cL : ClassId} {K : Nat → Nat} (C0 : LC p l s m meth c b L xs D cI cZ cB cL K)
    {ada adb : Nat → Nat} {o i : Nat} {σ τ : Mem} {w : Int64} {κ : Nat} {f : Nat → Int64} {H : Heap} {locs : List Loc} {ls : Array Slot} {Q : State → Prop} (hI : LI D (fun q => s.heap.size ≤ q) (wdX9 cI cZ cB ada σ) (wdX10 cI cZ cB adb w τ) (rLx cL o f) H) (hS : va_S (fun q => s.heap.size ≤ q) s.heap H locs) (hl : lv_has ls 7 [(4, .int (nI i)), (0, .ref b), (1, .ref (ada 0)), (2, .ref (adb 0)), (3, .ref o)]) (hi : i + 6 ≤ L) (hR : Rel i σ τ w κ)
    (kk : ∀ (ada1 : Nat → Nat) (σ1 τ1 : Mem) (w1 : Int64) (κ1 : Nat) (f1 : Nat → Int64) (H1 : Heap) (locs1 : List Loc) (ls1 : Array Slot), ada1 0 = ada 0 → LI D (fun q => s.heap.size ≤ q) (wdX9 cI cZ cB ada1 σ1) (wdX10 cI cZ cB adb w1 τ1) (rLx cL o f1) H1 → va_S (fun q => s.heap.size ≤ q) s.heap H1 locs1 → lv_has ls1 7 [(4, .int (nI i)), (0, .ref b), (1, .ref (ada 0)), (2, .ref (adb 0)), (3, .ref o)] → Rel (i + 6) σ1 τ1 w1 κ1 → W p l e room_1 s m #[Value.ref b] below meth c H1 locs1 (56 + κ1 + (i + 6)) (498668 + κ1 + (i + 6)) Q (F0 m 792 ls1 [])) :
    W p l e room_1 s m #[Value.ref b] below meth c H locs (56 + κ + i) (498668 + κ + i) Q (F0 m 404 ls []) := by
  obtain ⟨⟨hx, hb, hml, hown, hts⟩, hfl, hX, hbl, hL, hK4, hGX, hGZ⟩ := C0
  have hK := hK4.sub (tys' := tyA cI cZ cB) [0, 1, 2] rfl
  have hA : ∀ q : Nat, s.heap.size ≤ q → (fun q => s.heap.size ≤ q) q := fun _ h => h
  have hbA : ¬ (fun q => s.heap.size ≤ q) b := Nat.not_le_of_lt hbl
  have hcap := hC _ _ _ _ _ hR
  obtain ⟨r, σ1, τ1, e9, e10, hR1⟩ := hU i σ τ w κ (by omega) hR
  have hcap1 := hC _ _ _ _ _ hR1
  refine lv_aload_n hx hb dL_law_404 rfl (lv_at hl 2 rfl) ?_
  refine la_V (rest := []) ⟨hx, hb, hml, hown, hts⟩ (mX9_undo l D cI cZ cB ada σ H.size (r, σ1) e9) (cwV 0 hts gW_X9_undo rfl rfl rfl (by decide +kernel) ⟨Nat.le_of_ble_eq_true rfl, Nat.le_of_ble_eq_true rfl⟩) hK hI hS hA rfl (ci := 7) (q0 := 0) rfl rfl rfl rfl hl.1 rfl (Nat.le_of_ble_eq_true rfl) dL_law_405 ⟨by show _ ≤ 601024; omega, by show _ ≤ 7293034; omega⟩ (fun H locs hI hS => ?_)
  refine lv_aload_n hx hb dL_law_408 rfl (lv_at hl 3 rfl) ?_
  refine la_V (rest := [.int r]) ⟨hx, hb, hml, hown, hts⟩ (mX10_undo l D cI cZ cB adb w τ H.size (r, τ1) e10) (cwV 0 hts gW_X10_undo rfl rfl rfl (by decide +kernel) ⟨Nat.le_of_ble_eq_true rfl, Nat.le_of_ble_eq_true rfl⟩) hK hI.swap hS hA rfl (ci := 8) (q0 := 0) rfl rfl rfl rfl hl.1 rfl (Nat.le_of_ble_eq_true rfl) dL_law_409 ⟨by show _ ≤ 601024; omega, by show _ ≤ 7293034; omega⟩ (fun H locs hI hS => ?_)
  have hI := hI.swap
  refine lv_icmp_eq (tgt := 792) hx hb dL_law_412 (by decide) (fun _ => ?_) (fun hne => absurd rfl hne)
  exact W.widen (by omega) (by omega) (kk ada σ1 τ1 w κ f H locs ls rfl hI hS hl hR1)
set_option maxHeartbeats 2000000 in
set_option maxRecDepth 40000 in
theorem law_wait {Rel : RelT} (hU : PU_wait Rel) {hC : PU_cap Rel} {p : Program} {l : Launch} {e : Env} {s : State} {m : MethodId} {below : List Frame} {meth : Method} {c : Code} {b L : Nat} {xs : Nat → Int32} {D : va_G} {cI cZ cB cL : ClassId} {K : Nat → Nat} (C0 : LC p l s m meth c b L xs D cI cZ cB cL K)
    {ada adb : Nat → Nat} {o i : Nat} {σ τ : Mem} {w : Int64} {κ : Nat} {f : Nat → Int64} {H : Heap} {locs : List Loc} {ls : Array Slot} {Q : State → Prop} (hI : LI D (fun q => s.heap.size ≤ q) (wdX9 cI cZ cB ada σ) (wdX10 cI cZ cB adb w τ) (rLx cL o f) H) (hS : va_S (fun q => s.heap.size ≤ q) s.heap H locs) (hl : lv_has ls 7 [(4, .int (nI i)), (0, .ref b), (1, .ref (ada 0)), (2, .ref (adb 0)), (3, .ref o)]) (hi : i + 6 ≤ L) (hR : Rel i σ τ w κ)
    (kk : ∀ (ada1 : Nat → Nat) (σ1 τ1 : Mem) (w1 : Int64) (κ1 : Nat) (f1 : Nat → Int64) (H1 : Heap) (locs1 : List Loc) (ls1 : Array Slot), ada1 0 = ada 0 → LI D (fun q => s.heap.size ≤ q) (wdX9 cI cZ cB ada1 σ1) (wdX10 cI cZ cB adb w1 τ1) (rLx cL o f1) H1 → va_S (fun q => s.heap.size ≤ q) s.heap H1 locs1 → lv_has ls1 7 [(4, .int (nI i)), (0, .ref b), (1, .ref (ada 0)), (2, .ref (adb 0)), (3, .ref o)] → Rel (i + 6) σ1 τ1 w1 κ1 → W p l e room_1 s m #[Value.ref b] below meth c H1 locs1 (56 + κ1 + (i + 6)) (498668 + κ1 + (i + 6)) Q (F0 m 792 ls1 [])) :
    W p l e room_1 s m #[Value.ref b] below meth c H locs (56 + κ + i) (498668 + κ + i) Q (F0 m 417 ls []) := by
  obtain ⟨⟨hx, hb, hml, hown, hts⟩, hfl, hX, hbl, hL, hK4, hGX, hGZ⟩ := C0
  have hK := hK4.sub (tys' := tyA cI cZ cB) [0, 1, 2] rfl
  have hA : ∀ q : Nat, s.heap.size ≤ q → (fun q => s.heap.size ≤ q) q := fun _ h => h
  have hbA : ¬ (fun q => s.heap.size ≤ q) b := Nat.not_le_of_lt hbl
  have hcap := hC _ _ _ _ _ hR
  obtain ⟨r, σ1, τ1, e9, e10, hR1⟩ := hU i σ τ w κ (xs (i + 1)) (by omega) hR
  have hcap1 := hC _ _ _ _ _ hR1
  refine lv_aload_n hx hb dL_law_417 rfl (lv_at hl 2 rfl) ?_
  refine la_arg (j0 := 1) (j4 := 0) 1 hx hb hX hbl hbA hS hl rfl rfl (by decide) (by omega) hL dL_law_418 dL_law_419 dL_law_421 dL_law_422 dL_law_423 ?_
  refine la_V (rest := []) ⟨hx, hb, hml, hown, hts⟩ (mX9_wait l D cI cZ cB ada σ H.size (xs (i + 1)) (r, σ1) e9) (cwV 1 hts gW_X9_wait rfl rfl rfl (by decide +kernel) ⟨Nat.le_of_ble_eq_true rfl, Nat.le_of_ble_eq_true rfl⟩) hK hI hS hA rfl (ci := 7) (q0 := 0) rfl rfl rfl rfl hl.1 rfl (Nat.le_of_ble_eq_true rfl) dL_law_424 ⟨by show _ ≤ 601024; omega, by show _ ≤ 7293034; omega⟩ (fun H locs hI hS => ?_)
  refine lv_aload_n hx hb dL_law_427 rfl (lv_at hl 3 rfl) ?_
  refine la_arg (j0 := 1) (j4 := 0) 1 hx hb hX hbl hbA hS hl rfl rfl (by decide) (by omega) hL dL_law_428 dL_law_429 dL_law_431 dL_law_432 dL_law_433 ?_
  refine la_V (rest := [.int r]) ⟨hx, hb, hml, hown, hts⟩ (mX10_wait l D cI cZ cB adb w τ H.size (xs (i + 1)) (r, τ1) e10) (cwV 1 hts gW_X10_wait rfl rfl rfl (by decide +kernel) ⟨Nat.le_of_ble_eq_true rfl, Nat.le_of_ble_eq_true rfl⟩) hK hI.swap hS hA rfl (ci := 8) (q0 := 0) rfl rfl rfl rfl hl.1 rfl (Nat.le_of_ble_eq_true rfl) dL_law_434 ⟨by show _ ≤ 601024; omega, by show _ ≤ 7293034; omega⟩ (fun H locs hI hS => ?_)
  have hI := hI.swap
  refine lv_icmp_eq (tgt := 792) hx hb dL_law_437 (by decide) (fun _ => ?_) (fun hne => absurd rfl hne)
  exact W.widen (by omega) (by omega) (kk ada σ1 τ1 w κ f H locs ls rfl hI hS hl hR1)
set_option maxHeartbeats 2000000 in
set_option maxRecDepth 40000 in
theorem law_about {Rel : RelT} (hU : PU_about Rel) {hC : PU_cap Rel} {p : Program} {l : Launch} {e : Env} {s : State} {m : MethodId} {below : List Frame} {meth : Method} {c : Code} {b L : Nat} {xs : Nat → Int32} {D : va_G} {cI cZ cB cL : ClassId} {K : Nat → Nat} (C0 : LC p l s m meth c b L xs D cI cZ cB cL K)
    {ada adb : Nat → Nat} {o i : Nat} {σ τ : Mem} {w : Int64} {κ : Nat} {f : Nat → Int64} {H : Heap} {locs : List Loc} {ls : Array Slot} {Q : State → Prop} (hI : LI D (fun q => s.heap.size ≤ q) (wdX9 cI cZ cB ada σ) (wdX10 cI cZ cB adb w τ) (rLx cL o f) H) (hS : va_S (fun q => s.heap.size ≤ q) s.heap H locs) (hl : lv_has ls 7 [(4, .int (nI i)), (0, .ref b), (1, .ref (ada 0)), (2, .ref (adb 0)), (3, .ref o)]) (hi : i + 6 ≤ L) (hR : Rel i σ τ w κ)
    (kk : ∀ (ada1 : Nat → Nat) (σ1 τ1 : Mem) (w1 : Int64) (κ1 : Nat) (f1 : Nat → Int64) (H1 : Heap) (locs1 : List Loc) (ls1 : Array Slot), ada1 0 = ada 0 → LI D (fun q => s.heap.size ≤ q) (wdX9 cI cZ cB ada1 σ1) (wdX10 cI cZ cB adb w1 τ1) (rLx cL o f1) H1 → va_S (fun q => s.heap.size ≤ q) s.heap H1 locs1 → lv_has ls1 7 [(4, .int (nI i)), (0, .ref b), (1, .ref (ada 0)), (2, .ref (adb 0)), (3, .ref o)] → Rel (i + 6) σ1 τ1 w1 κ1 → W p l e room_1 s m #[Value.ref b] below meth c H1 locs1 (56 + κ1 + (i + 6)) (498668 + κ1 + (i + 6)) Q (F0 m 792 ls1 [])) :
    W p l e room_1 s m #[Value.ref b] below meth c H locs (56 + κ + i) (498668 + κ + i) Q (F0 m 442 ls []) := by
  obtain ⟨⟨hx, hb, hml, hown, hts⟩, hfl, hX, hbl, hL, hK4, hGX, hGZ⟩ := C0
  have hK := hK4.sub (tys' := tyA cI cZ cB) [0, 1, 2] rfl
  have hA : ∀ q : Nat, s.heap.size ≤ q → (fun q => s.heap.size ≤ q) q := fun _ h => h
  have hbA : ¬ (fun q => s.heap.size ≤ q) b := Nat.not_le_of_lt hbl
  have hcap := hC _ _ _ _ _ hR
  obtain ⟨res, r2, τ1, e9, e10, eth, hres, hR1⟩ := hU i σ τ w κ (xs (i + 1)) (xs (i + 2)) (by omega) hR
  have hcap1 := hC _ _ _ _ _ hR1
  refine lv_aload_n hx hb dL_law_442 rfl (lv_at hl 2 rfl) ?_
  refine la_arg (j0 := 1) (j4 := 0) 1 hx hb hX hbl hbA hS hl rfl rfl (by decide) (by omega) hL dL_law_443 dL_law_444 dL_law_446 dL_law_447 dL_law_448 ?_
  refine la_arg (j0 := 1) (j4 := 0) 2 hx hb hX hbl hbA hS hl rfl rfl (by decide) (by omega) hL dL_law_449 dL_law_450 dL_law_452 dL_law_453 dL_law_454 ?_
  refine lv_aload_n hx hb dL_law_455 rfl (lv_at hl 4 rfl) ?_
  refine la_Z (rest := []) ⟨hx, hb, hml, hown, hts⟩ (mL_about K l hfl D cI cZ cB cL ada σ o f H.size (xs (i + 1)) (xs (i + 2)) res e9) (vx_cwSW 4 hts gW_about rfl rfl rfl (by decide +kernel) ⟨Nat.le_of_ble_eq_true rfl, Nat.le_of_ble_eq_true rfl⟩) hGZ hK4 hI hS hA rfl rfl rfl hl.1 rfl (Nat.le_of_ble_eq_true rfl) dL_law_456 ⟨by show _ ≤ 601024; omega, by show _ ≤ 7293034; omega⟩ (fun H locs hI hS => ?_)
  refine lv_istore (lv' := [(5, .int (rL res)), (4, .int (nI i)), (0, .ref b), (1, .ref (ada 0)), (2, .ref (adb 0)), (3, .ref o)]) hx hb dL_law_459 hl (by decide) rfl (fun ls hl => ?_)
  refine lv_aload_n hx hb dL_law_461 rfl (lv_at hl 4 rfl) ?_
  refine la_arg (j0 := 2) (j4 := 1) 1 hx hb hX hbl hbA hS hl rfl rfl (by decide) (by omega) hL dL_law_462 dL_law_463 dL_law_465 dL_law_466 dL_law_467 ?_
  refine la_arg (j0 := 2) (j4 := 1) 2 hx hb hX hbl hbA hS hl rfl rfl (by decide) (by omega) hL dL_law_468 dL_law_469 dL_law_471 dL_law_472 dL_law_473 ?_
  refine la_V (rest := []) ⟨hx, hb, hml, hown, hts⟩ (mX10_about l D cI cZ cB adb w τ H.size (xs (i + 1)) (xs (i + 2)) (r2, τ1) e10) (cwV 2 hts gW_X10_about rfl rfl rfl (by decide +kernel) ⟨Nat.le_of_ble_eq_true rfl, Nat.le_of_ble_eq_true rfl⟩) hK hI.swap hS hA rfl (ci := 8) (q0 := 0) rfl rfl rfl rfl hl.1 rfl (Nat.le_of_ble_eq_true rfl) dL_law_474 ⟨by show _ ≤ 601024; omega, by show _ ≤ 7293034; omega⟩ (fun H locs hI hS => ?_)
  have hI := hI.swap
  refine lv_istore (lv' := [(6, .int r2), (5, .int (rL res)), (4, .int (nI i)), (0, .ref b), (1, .ref (ada 0)), (2, .ref (adb 0)), (3, .ref o)]) hx hb dL_law_477 hl (by decide) rfl (fun ls hl => ?_)
  refine lv_aload_n hx hb dL_law_479 rfl (lv_at hl 5 rfl) ?_
  refine cl_RV (rest := []) ⟨hx, hb, hml, hown, hts⟩ (mX10_thrown l D cI cZ cB adb w τ1 _ eth) (cwV 0 hts gW_X10_thrown rfl rfl rfl (by decide +kernel) ⟨Nat.le_of_ble_eq_true rfl, Nat.le_of_ble_eq_true rfl⟩) hK hI.1.2.1 (ci := 8) (q0 := 0) rfl rfl rfl rfl hl.1 rfl (Nat.le_of_ble_eq_true rfl) dL_law_480 ⟨by show _ ≤ 601024; omega, by show _ ≤ 7293034; omega⟩ ?_
  refine lv_iload hx hb dL_law_483 (lv_at hl 1 rfl) ?_
  refine lv_icmp_eq (tgt := 490) hx hb dL_law_485 (by decide) (fun _ => ?_) (fun hne => absurd rfl hne)
  refine lv_iload hx hb dL_law_490 (lv_at hl 1 rfl) ?_
  have hfin : ∀ (H1 : Heap) (locs1 : List Loc), LI D (fun q => s.heap.size ≤ q) (wdX9 cI cZ cB ada σ) (wdX10 cI cZ cB adb w τ1) (rLx cL o (fL res f)) H1 → va_S (fun q => s.heap.size ≤ q) s.heap H1 locs1 → W p l e room_1 s m #[Value.ref b] below meth c H1 locs1 (56 + κ + i + 1) (498668 + κ + i + 6) Q (F0 m 507 ls []) := fun H1 locs1 hI hS => lv_goto (tgt := 792) hx hb dL_law_507 (by decide) (W.widen (by omega) (by omega) (kk ada σ τ1 w κ (fL res f) H1 locs1 ls rfl hI hS (lv_sub hl [2, 3, 4, 5, 6] rfl) hR1))
  refine lv_if_ne (tgt := 507) hx hb dL_law_492 (by decide) (fun _ => hfin H locs hI hS) (fun hz => ?_)
  cases res with
  | none => exact absurd hz (by decide)
  | some v =>
    have hv := hres v rfl
    subst hv
    refine lv_aload_n hx hb dL_law_495 rfl (lv_at hl 6 rfl) ?_
    refine lv_iconst (v := 0) hx hb dL_law_496 (by decide) ?_
    refine va_lald (tys := tyL cI cZ cB cL) hx hb hK4 hI.1.2.2 0 3 rfl rfl (vp_in_iff.mpr (by decide)) dL_law_497 ?_
    refine lv_iload hx hb dL_law_498 (lv_at hl 0 rfl) ?_
    refine lv_i2l (v := v.toInt64) hx hb dL_law_500 rfl ?_
    refine W.lcmp hx hb dL_law_501 ?_
    refine lv_if_eq (tgt := 507) hx hb dL_law_502 (by decide) (fun _ => hfin H locs hI hS) (fun hne => absurd ?_ hne)
    have e1 : fL (some v) f (0 : Int32).toNatClampNeg = v.toInt64 := rfl
    rw [e1]
    simp [lg_cmp]
set_option maxHeartbeats 2000000 in
set_option maxRecDepth 40000 in
theorem law_label {Rel : RelT} (hU : PU_label Rel) {hC : PU_cap Rel} {p : Program} {l : Launch} {e : Env} {s : State} {m : MethodId} {below : List Frame} {meth : Method} {c : Code} {b L : Nat} {xs : Nat → Int32} {D : va_G} {cI cZ cB cL : ClassId} {K : Nat → Nat} (C0 : LC p l s m meth c b L xs D cI cZ cB cL K)
    {ada adb : Nat → Nat} {o i : Nat} {σ τ : Mem} {w : Int64} {κ : Nat} {f : Nat → Int64} {H : Heap} {locs : List Loc} {ls : Array Slot} {Q : State → Prop} (hI : LI D (fun q => s.heap.size ≤ q) (wdX9 cI cZ cB ada σ) (wdX10 cI cZ cB adb w τ) (rLx cL o f) H) (hS : va_S (fun q => s.heap.size ≤ q) s.heap H locs) (hl : lv_has ls 7 [(4, .int (nI i)), (0, .ref b), (1, .ref (ada 0)), (2, .ref (adb 0)), (3, .ref o)]) (hi : i + 6 ≤ L) (hR : Rel i σ τ w κ)
    (kk : ∀ (ada1 : Nat → Nat) (σ1 τ1 : Mem) (w1 : Int64) (κ1 : Nat) (f1 : Nat → Int64) (H1 : Heap) (locs1 : List Loc) (ls1 : Array Slot), ada1 0 = ada 0 → LI D (fun q => s.heap.size ≤ q) (wdX9 cI cZ cB ada1 σ1) (wdX10 cI cZ cB adb w1 τ1) (rLx cL o f1) H1 → va_S (fun q => s.heap.size ≤ q) s.heap H1 locs1 → lv_has ls1 7 [(4, .int (nI i)), (0, .ref b), (1, .ref (ada 0)), (2, .ref (adb 0)), (3, .ref o)] → Rel (i + 6) σ1 τ1 w1 κ1 → W p l e room_1 s m #[Value.ref b] below meth c H1 locs1 (56 + κ1 + (i + 6)) (498668 + κ1 + (i + 6)) Q (F0 m 792 ls1 [])) :
    W p l e room_1 s m #[Value.ref b] below meth c H locs (56 + κ + i) (498668 + κ + i) Q (F0 m 510 ls []) := by
  obtain ⟨⟨hx, hb, hml, hown, hts⟩, hfl, hX, hbl, hL, hK4, hGX, hGZ⟩ := C0
  have hK := hK4.sub (tys' := tyA cI cZ cB) [0, 1, 2] rfl
  have hA : ∀ q : Nat, s.heap.size ≤ q → (fun q => s.heap.size ≤ q) q := fun _ h => h
  have hbA : ¬ (fun q => s.heap.size ≤ q) b := Nat.not_le_of_lt hbl
  have hcap := hC _ _ _ _ _ hR
  obtain ⟨r, σ1, τ1, e9, e10, hR1⟩ := hU i σ τ w κ (xs (i + 1)) (xs (i + 2)) (by omega) hR
  have hcap1 := hC _ _ _ _ _ hR1
  refine lv_aload_n hx hb dL_law_510 rfl (lv_at hl 2 rfl) ?_
  refine la_arg (j0 := 1) (j4 := 0) 1 hx hb hX hbl hbA hS hl rfl rfl (by decide) (by omega) hL dL_law_511 dL_law_512 dL_law_514 dL_law_515 dL_law_516 ?_
  refine la_arg (j0 := 1) (j4 := 0) 2 hx hb hX hbl hbA hS hl rfl rfl (by decide) (by omega) hL dL_law_517 dL_law_518 dL_law_520 dL_law_521 dL_law_522 ?_
  refine la_Vx (rest := []) ⟨hx, hb, hml, hown, hts⟩ (mX9_label K l D cI cZ cB ada σ H.size (xs (i + 1)) (xs (i + 2)) (r, σ1) e9) (cwV 2 hts gW_X9_label rfl rfl rfl (by decide +kernel) ⟨Nat.le_of_ble_eq_true rfl, Nat.le_of_ble_eq_true rfl⟩) hGX hK hI hS hA rfl (ci := 7) (q0 := 0) rfl rfl rfl rfl hl.1 rfl (Nat.le_of_ble_eq_true rfl) dL_law_523 ⟨by show _ ≤ 601024; omega, by show _ ≤ 7293034; omega⟩ (fun H locs hI hS => ?_)
  refine lv_aload_n hx hb dL_law_526 rfl (lv_at hl 3 rfl) ?_
  refine la_arg (j0 := 1) (j4 := 0) 1 hx hb hX hbl hbA hS hl rfl rfl (by decide) (by omega) hL dL_law_527 dL_law_528 dL_law_530 dL_law_531 dL_law_532 ?_
  refine la_arg (j0 := 1) (j4 := 0) 2 hx hb hX hbl hbA hS hl rfl rfl (by decide) (by omega) hL dL_law_533 dL_law_534 dL_law_536 dL_law_537 dL_law_538 ?_
  refine la_V (rest := [.int r]) ⟨hx, hb, hml, hown, hts⟩ (mX10_label l D cI cZ cB adb w τ H.size (xs (i + 1)) (xs (i + 2)) (r, τ1) e10) (cwV 2 hts gW_X10_label rfl rfl rfl (by decide +kernel) ⟨Nat.le_of_ble_eq_true rfl, Nat.le_of_ble_eq_true rfl⟩) hK hI.swap hS hA rfl (ci := 8) (q0 := 0) rfl rfl rfl rfl hl.1 rfl (Nat.le_of_ble_eq_true rfl) dL_law_539 ⟨by show _ ≤ 601024; omega, by show _ ≤ 7293034; omega⟩ (fun H locs hI hS => ?_)
  have hI := hI.swap
  refine lv_icmp_eq (tgt := 792) hx hb dL_law_542 (by decide) (fun _ => ?_) (fun hne => absurd rfl hne)
  exact W.widen (by omega) (by omega) (kk ada σ1 τ1 w κ f H locs ls rfl hI hS hl hR1)
set_option maxHeartbeats 2000000 in
set_option maxRecDepth 40000 in
theorem law_cited {Rel : RelT} (hU : PU_cited Rel) {hC : PU_cap Rel} {p : Program} {l : Launch} {e : Env} {s : State} {m : MethodId} {below : List Frame} {meth : Method} {c : Code} {b L : Nat} {xs : Nat → Int32} {D : va_G} {cI cZ cB cL : ClassId} {K : Nat → Nat} (C0 : LC p l s m meth c b L xs D cI cZ cB cL K)
    {ada adb : Nat → Nat} {o i : Nat} {σ τ : Mem} {w : Int64} {κ : Nat} {f : Nat → Int64} {H : Heap} {locs : List Loc} {ls : Array Slot} {Q : State → Prop} (hI : LI D (fun q => s.heap.size ≤ q) (wdX9 cI cZ cB ada σ) (wdX10 cI cZ cB adb w τ) (rLx cL o f) H) (hS : va_S (fun q => s.heap.size ≤ q) s.heap H locs) (hl : lv_has ls 7 [(4, .int (nI i)), (0, .ref b), (1, .ref (ada 0)), (2, .ref (adb 0)), (3, .ref o)]) (hi : i + 6 ≤ L) (hR : Rel i σ τ w κ)
    (kk : ∀ (ada1 : Nat → Nat) (σ1 τ1 : Mem) (w1 : Int64) (κ1 : Nat) (f1 : Nat → Int64) (H1 : Heap) (locs1 : List Loc) (ls1 : Array Slot), ada1 0 = ada 0 → LI D (fun q => s.heap.size ≤ q) (wdX9 cI cZ cB ada1 σ1) (wdX10 cI cZ cB adb w1 τ1) (rLx cL o f1) H1 → va_S (fun q => s.heap.size ≤ q) s.heap H1 locs1 → lv_has ls1 7 [(4, .int (nI i)), (0, .ref b), (1, .ref (ada 0)), (2, .ref (adb 0)), (3, .ref o)] → Rel (i + 6) σ1 τ1 w1 κ1 → W p l e room_1 s m #[Value.ref b] below meth c H1 locs1 (56 + κ1 + (i + 6)) (498668 + κ1 + (i + 6)) Q (F0 m 792 ls1 [])) :
    W p l e room_1 s m #[Value.ref b] below meth c H locs (56 + κ + i) (498668 + κ + i) Q (F0 m 547 ls []) := by
  obtain ⟨⟨hx, hb, hml, hown, hts⟩, hfl, hX, hbl, hL, hK4, hGX, hGZ⟩ := C0
  have hK := hK4.sub (tys' := tyA cI cZ cB) [0, 1, 2] rfl
  have hA : ∀ q : Nat, s.heap.size ≤ q → (fun q => s.heap.size ≤ q) q := fun _ h => h
  have hbA : ¬ (fun q => s.heap.size ≤ q) b := Nat.not_le_of_lt hbl
  have hcap := hC _ _ _ _ _ hR
  obtain ⟨r, σ1, τ1, e9, e10, hR1⟩ := hU i σ τ w κ (xs (i + 1)) (xs (i + 2)) (by omega) hR
  have hcap1 := hC _ _ _ _ _ hR1
  refine lv_aload_n hx hb dL_law_547 rfl (lv_at hl 2 rfl) ?_
  refine la_arg (j0 := 1) (j4 := 0) 1 hx hb hX hbl hbA hS hl rfl rfl (by decide) (by omega) hL dL_law_548 dL_law_549 dL_law_551 dL_law_552 dL_law_553 ?_
  refine la_arg (j0 := 1) (j4 := 0) 2 hx hb hX hbl hbA hS hl rfl rfl (by decide) (by omega) hL dL_law_554 dL_law_555 dL_law_557 dL_law_558 dL_law_559 ?_
  refine la_Vx (rest := []) ⟨hx, hb, hml, hown, hts⟩ (mX9_cited K l D cI cZ cB ada σ H.size (xs (i + 1)) (xs (i + 2)) (r, σ1) e9) (cwV 2 hts gW_X9_cited rfl rfl rfl (by decide +kernel) ⟨Nat.le_of_ble_eq_true rfl, Nat.le_of_ble_eq_true rfl⟩) hGX hK hI hS hA rfl (ci := 7) (q0 := 0) rfl rfl rfl rfl hl.1 rfl (Nat.le_of_ble_eq_true rfl) dL_law_560 ⟨by show _ ≤ 601024; omega, by show _ ≤ 7293034; omega⟩ (fun H locs hI hS => ?_)
  refine lv_aload_n hx hb dL_law_563 rfl (lv_at hl 3 rfl) ?_
  refine la_arg (j0 := 1) (j4 := 0) 1 hx hb hX hbl hbA hS hl rfl rfl (by decide) (by omega) hL dL_law_564 dL_law_565 dL_law_567 dL_law_568 dL_law_569 ?_
  refine la_arg (j0 := 1) (j4 := 0) 2 hx hb hX hbl hbA hS hl rfl rfl (by decide) (by omega) hL dL_law_570 dL_law_571 dL_law_573 dL_law_574 dL_law_575 ?_
  refine la_V (rest := [.int r]) ⟨hx, hb, hml, hown, hts⟩ (mX10_cited l D cI cZ cB adb w τ H.size (xs (i + 1)) (xs (i + 2)) (r, τ1) e10) (cwV 2 hts gW_X10_cited rfl rfl rfl (by decide +kernel) ⟨Nat.le_of_ble_eq_true rfl, Nat.le_of_ble_eq_true rfl⟩) hK hI.swap hS hA rfl (ci := 8) (q0 := 0) rfl rfl rfl rfl hl.1 rfl (Nat.le_of_ble_eq_true rfl) dL_law_576 ⟨by show _ ≤ 601024; omega, by show _ ≤ 7293034; omega⟩ (fun H locs hI hS => ?_)
  have hI := hI.swap
  refine lv_icmp_eq (tgt := 792) hx hb dL_law_579 (by decide) (fun _ => ?_) (fun hne => absurd rfl hne)
  exact W.widen (by omega) (by omega) (kk ada σ1 τ1 w κ f H locs ls rfl hI hS hl hR1)
set_option maxHeartbeats 2000000 in
set_option maxRecDepth 40000 in
theorem law_octet {Rel : RelT} (hU : PU_octet Rel) {hC : PU_cap Rel} {p : Program} {l : Launch} {e : Env} {s : State} {m : MethodId} {below : List Frame} {meth : Method} {c : Code} {b L : Nat} {xs : Nat → Int32} {D : va_G} {cI cZ cB cL : ClassId} {K : Nat → Nat} (C0 : LC p l s m meth c b L xs D cI cZ cB cL K)
    {ada adb : Nat → Nat} {o i : Nat} {σ τ : Mem} {w : Int64} {κ : Nat} {f : Nat → Int64} {H : Heap} {locs : List Loc} {ls : Array Slot} {Q : State → Prop} (hI : LI D (fun q => s.heap.size ≤ q) (wdX9 cI cZ cB ada σ) (wdX10 cI cZ cB adb w τ) (rLx cL o f) H) (hS : va_S (fun q => s.heap.size ≤ q) s.heap H locs) (hl : lv_has ls 7 [(4, .int (nI i)), (0, .ref b), (1, .ref (ada 0)), (2, .ref (adb 0)), (3, .ref o)]) (hi : i + 6 ≤ L) (hR : Rel i σ τ w κ)
    (kk : ∀ (ada1 : Nat → Nat) (σ1 τ1 : Mem) (w1 : Int64) (κ1 : Nat) (f1 : Nat → Int64) (H1 : Heap) (locs1 : List Loc) (ls1 : Array Slot), ada1 0 = ada 0 → LI D (fun q => s.heap.size ≤ q) (wdX9 cI cZ cB ada1 σ1) (wdX10 cI cZ cB adb w1 τ1) (rLx cL o f1) H1 → va_S (fun q => s.heap.size ≤ q) s.heap H1 locs1 → lv_has ls1 7 [(4, .int (nI i)), (0, .ref b), (1, .ref (ada 0)), (2, .ref (adb 0)), (3, .ref o)] → Rel (i + 6) σ1 τ1 w1 κ1 → W p l e room_1 s m #[Value.ref b] below meth c H1 locs1 (56 + κ1 + (i + 6)) (498668 + κ1 + (i + 6)) Q (F0 m 792 ls1 [])) :
    W p l e room_1 s m #[Value.ref b] below meth c H locs (56 + κ + i) (498668 + κ + i) Q (F0 m 584 ls []) := by
  obtain ⟨⟨hx, hb, hml, hown, hts⟩, hfl, hX, hbl, hL, hK4, hGX, hGZ⟩ := C0
  have hK := hK4.sub (tys' := tyA cI cZ cB) [0, 1, 2] rfl
  have hA : ∀ q : Nat, s.heap.size ≤ q → (fun q => s.heap.size ≤ q) q := fun _ h => h
  have hbA : ¬ (fun q => s.heap.size ≤ q) b := Nat.not_le_of_lt hbl
  have hcap := hC _ _ _ _ _ hR
  obtain ⟨res, r2, τ1, e9, e10, eth, hres, hR1⟩ := hU i σ τ w κ (xs (i + 1)) (by omega) hR
  have hcap1 := hC _ _ _ _ _ hR1
  refine lv_aload_n hx hb dL_law_584 rfl (lv_at hl 2 rfl) ?_
  refine la_arg (j0 := 1) (j4 := 0) 1 hx hb hX hbl hbA hS hl rfl rfl (by decide) (by omega) hL dL_law_585 dL_law_586 dL_law_588 dL_law_589 dL_law_590 ?_
  refine lv_aload_n hx hb dL_law_591 rfl (lv_at hl 4 rfl) ?_
  refine la_Z (rest := []) ⟨hx, hb, hml, hown, hts⟩ (mL_octet K l hfl D cI cZ cB cL ada σ o f H.size (xs (i + 1)) res e9) (vx_cwSW 3 hts gW_octet rfl rfl rfl (by decide +kernel) ⟨Nat.le_of_ble_eq_true rfl, Nat.le_of_ble_eq_true rfl⟩) hGZ hK4 hI hS hA rfl rfl rfl hl.1 rfl (Nat.le_of_ble_eq_true rfl) dL_law_592 ⟨by show _ ≤ 601024; omega, by show _ ≤ 7293034; omega⟩ (fun H locs hI hS => ?_)
  refine lv_istore (lv' := [(5, .int (rL res)), (4, .int (nI i)), (0, .ref b), (1, .ref (ada 0)), (2, .ref (adb 0)), (3, .ref o)]) hx hb dL_law_595 hl (by decide) rfl (fun ls hl => ?_)
  refine lv_aload_n hx hb dL_law_597 rfl (lv_at hl 4 rfl) ?_
  refine la_arg (j0 := 2) (j4 := 1) 1 hx hb hX hbl hbA hS hl rfl rfl (by decide) (by omega) hL dL_law_598 dL_law_599 dL_law_601 dL_law_602 dL_law_603 ?_
  refine la_V (rest := []) ⟨hx, hb, hml, hown, hts⟩ (mX10_octet l D cI cZ cB adb w τ H.size (xs (i + 1)) (r2, τ1) e10) (cwV 1 hts gW_X10_octet rfl rfl rfl (by decide +kernel) ⟨Nat.le_of_ble_eq_true rfl, Nat.le_of_ble_eq_true rfl⟩) hK hI.swap hS hA rfl (ci := 8) (q0 := 0) rfl rfl rfl rfl hl.1 rfl (Nat.le_of_ble_eq_true rfl) dL_law_604 ⟨by show _ ≤ 601024; omega, by show _ ≤ 7293034; omega⟩ (fun H locs hI hS => ?_)
  have hI := hI.swap
  refine lv_istore (lv' := [(6, .int r2), (5, .int (rL res)), (4, .int (nI i)), (0, .ref b), (1, .ref (ada 0)), (2, .ref (adb 0)), (3, .ref o)]) hx hb dL_law_607 hl (by decide) rfl (fun ls hl => ?_)
  refine lv_aload_n hx hb dL_law_609 rfl (lv_at hl 5 rfl) ?_
  refine cl_RV (rest := []) ⟨hx, hb, hml, hown, hts⟩ (mX10_thrown l D cI cZ cB adb w τ1 _ eth) (cwV 0 hts gW_X10_thrown rfl rfl rfl (by decide +kernel) ⟨Nat.le_of_ble_eq_true rfl, Nat.le_of_ble_eq_true rfl⟩) hK hI.1.2.1 (ci := 8) (q0 := 0) rfl rfl rfl rfl hl.1 rfl (Nat.le_of_ble_eq_true rfl) dL_law_610 ⟨by show _ ≤ 601024; omega, by show _ ≤ 7293034; omega⟩ ?_
  refine lv_iload hx hb dL_law_613 (lv_at hl 1 rfl) ?_
  refine lv_icmp_eq (tgt := 620) hx hb dL_law_615 (by decide) (fun _ => ?_) (fun hne => absurd rfl hne)
  refine lv_iload hx hb dL_law_620 (lv_at hl 1 rfl) ?_
  have hfin : ∀ (H1 : Heap) (locs1 : List Loc), LI D (fun q => s.heap.size ≤ q) (wdX9 cI cZ cB ada σ) (wdX10 cI cZ cB adb w τ1) (rLx cL o (fL res f)) H1 → va_S (fun q => s.heap.size ≤ q) s.heap H1 locs1 → W p l e room_1 s m #[Value.ref b] below meth c H1 locs1 (56 + κ + i + 1) (498668 + κ + i + 6) Q (F0 m 637 ls []) := fun H1 locs1 hI hS => lv_goto (tgt := 792) hx hb dL_law_637 (by decide) (W.widen (by omega) (by omega) (kk ada σ τ1 w κ (fL res f) H1 locs1 ls rfl hI hS (lv_sub hl [2, 3, 4, 5, 6] rfl) hR1))
  refine lv_if_ne (tgt := 637) hx hb dL_law_622 (by decide) (fun _ => hfin H locs hI hS) (fun hz => ?_)
  cases res with
  | none => exact absurd hz (by decide)
  | some v =>
    have hv := hres v rfl
    subst hv
    refine lv_aload_n hx hb dL_law_625 rfl (lv_at hl 6 rfl) ?_
    refine lv_iconst (v := 0) hx hb dL_law_626 (by decide) ?_
    refine va_lald (tys := tyL cI cZ cB cL) hx hb hK4 hI.1.2.2 0 3 rfl rfl (vp_in_iff.mpr (by decide)) dL_law_627 ?_
    refine lv_iload hx hb dL_law_628 (lv_at hl 0 rfl) ?_
    refine lv_i2l (v := v.toInt64) hx hb dL_law_630 rfl ?_
    refine W.lcmp hx hb dL_law_631 ?_
    refine lv_if_eq (tgt := 637) hx hb dL_law_632 (by decide) (fun _ => hfin H locs hI hS) (fun hne => absurd ?_ hne)
    have e1 : fL (some v) f (0 : Int32).toNatClampNeg = v.toInt64 := rfl
    rw [e1]
    simp [lg_cmp]
set_option maxHeartbeats 2000000 in
set_option maxRecDepth 40000 in
theorem law_cite {Rel : RelT} (hU : PU_cite Rel) {hC : PU_cap Rel} {p : Program} {l : Launch} {e : Env} {s : State} {m : MethodId} {below : List Frame} {meth : Method} {c : Code} {b L : Nat} {xs : Nat → Int32} {D : va_G} {cI cZ cB cL : ClassId} {K : Nat → Nat} (C0 : LC p l s m meth c b L xs D cI cZ cB cL K)
    {ada adb : Nat → Nat} {o i : Nat} {σ τ : Mem} {w : Int64} {κ : Nat} {f : Nat → Int64} {H : Heap} {locs : List Loc} {ls : Array Slot} {Q : State → Prop} (hI : LI D (fun q => s.heap.size ≤ q) (wdX9 cI cZ cB ada σ) (wdX10 cI cZ cB adb w τ) (rLx cL o f) H) (hS : va_S (fun q => s.heap.size ≤ q) s.heap H locs) (hl : lv_has ls 7 [(4, .int (nI i)), (0, .ref b), (1, .ref (ada 0)), (2, .ref (adb 0)), (3, .ref o)]) (hi : i + 6 ≤ L) (hR : Rel i σ τ w κ)
    (kk : ∀ (ada1 : Nat → Nat) (σ1 τ1 : Mem) (w1 : Int64) (κ1 : Nat) (f1 : Nat → Int64) (H1 : Heap) (locs1 : List Loc) (ls1 : Array Slot), ada1 0 = ada 0 → LI D (fun q => s.heap.size ≤ q) (wdX9 cI cZ cB ada1 σ1) (wdX10 cI cZ cB adb w1 τ1) (rLx cL o f1) H1 → va_S (fun q => s.heap.size ≤ q) s.heap H1 locs1 → lv_has ls1 7 [(4, .int (nI i)), (0, .ref b), (1, .ref (ada 0)), (2, .ref (adb 0)), (3, .ref o)] → Rel (i + 6) σ1 τ1 w1 κ1 → W p l e room_1 s m #[Value.ref b] below meth c H1 locs1 (56 + κ1 + (i + 6)) (498668 + κ1 + (i + 6)) Q (F0 m 792 ls1 [])) :
    W p l e room_1 s m #[Value.ref b] below meth c H locs (56 + κ + i) (498668 + κ + i) Q (F0 m 640 ls []) := by
  obtain ⟨⟨hx, hb, hml, hown, hts⟩, hfl, hX, hbl, hL, hK4, hGX, hGZ⟩ := C0
  have hK := hK4.sub (tys' := tyA cI cZ cB) [0, 1, 2] rfl
  have hA : ∀ q : Nat, s.heap.size ≤ q → (fun q => s.heap.size ≤ q) q := fun _ h => h
  have hbA : ¬ (fun q => s.heap.size ≤ q) b := Nat.not_le_of_lt hbl
  have hcap := hC _ _ _ _ _ hR
  obtain ⟨r, σ1, τ1, e9, e10, hR1⟩ := hU i σ τ w κ (xs (i + 1)) (by omega) hR
  have hcap1 := hC _ _ _ _ _ hR1
  refine lv_aload_n hx hb dL_law_640 rfl (lv_at hl 2 rfl) ?_
  refine la_arg (j0 := 1) (j4 := 0) 1 hx hb hX hbl hbA hS hl rfl rfl (by decide) (by omega) hL dL_law_641 dL_law_642 dL_law_644 dL_law_645 dL_law_646 ?_
  refine la_Vx (rest := []) ⟨hx, hb, hml, hown, hts⟩ (mX9_cite K l D cI cZ cB ada σ H.size (xs (i + 1)) (r, σ1) e9) (cwV 1 hts gW_X9_cite rfl rfl rfl (by decide +kernel) ⟨Nat.le_of_ble_eq_true rfl, Nat.le_of_ble_eq_true rfl⟩) hGX hK hI hS hA rfl (ci := 7) (q0 := 0) rfl rfl rfl rfl hl.1 rfl (Nat.le_of_ble_eq_true rfl) dL_law_647 ⟨by show _ ≤ 601024; omega, by show _ ≤ 7293034; omega⟩ (fun H locs hI hS => ?_)
  refine lv_aload_n hx hb dL_law_650 rfl (lv_at hl 3 rfl) ?_
  refine la_arg (j0 := 1) (j4 := 0) 1 hx hb hX hbl hbA hS hl rfl rfl (by decide) (by omega) hL dL_law_651 dL_law_652 dL_law_654 dL_law_655 dL_law_656 ?_
  refine la_V (rest := [.int r]) ⟨hx, hb, hml, hown, hts⟩ (mX10_cite l D cI cZ cB adb w τ H.size (xs (i + 1)) (r, τ1) e10) (cwV 1 hts gW_X10_cite rfl rfl rfl (by decide +kernel) ⟨Nat.le_of_ble_eq_true rfl, Nat.le_of_ble_eq_true rfl⟩) hK hI.swap hS hA rfl (ci := 8) (q0 := 0) rfl rfl rfl rfl hl.1 rfl (Nat.le_of_ble_eq_true rfl) dL_law_657 ⟨by show _ ≤ 601024; omega, by show _ ≤ 7293034; omega⟩ (fun H locs hI hS => ?_)
  have hI := hI.swap
  refine lv_icmp_eq (tgt := 792) hx hb dL_law_660 (by decide) (fun _ => ?_) (fun hne => absurd rfl hne)
  exact W.widen (by omega) (by omega) (kk ada σ1 τ1 w κ f H locs ls rfl hI hS hl hR1)
set_option maxHeartbeats 2000000 in
set_option maxRecDepth 40000 in
theorem law_place {Rel : RelT} (hU : PU_place Rel) {hC : PU_cap Rel} {p : Program} {l : Launch} {e : Env} {s : State} {m : MethodId} {below : List Frame} {meth : Method} {c : Code} {b L : Nat} {xs : Nat → Int32} {D : va_G} {cI cZ cB cL : ClassId} {K : Nat → Nat} (C0 : LC p l s m meth c b L xs D cI cZ cB cL K)
    {ada adb : Nat → Nat} {o i : Nat} {σ τ : Mem} {w : Int64} {κ : Nat} {f : Nat → Int64} {H : Heap} {locs : List Loc} {ls : Array Slot} {Q : State → Prop} (hI : LI D (fun q => s.heap.size ≤ q) (wdX9 cI cZ cB ada σ) (wdX10 cI cZ cB adb w τ) (rLx cL o f) H) (hS : va_S (fun q => s.heap.size ≤ q) s.heap H locs) (hl : lv_has ls 7 [(4, .int (nI i)), (0, .ref b), (1, .ref (ada 0)), (2, .ref (adb 0)), (3, .ref o)]) (hi : i + 6 ≤ L) (hR : Rel i σ τ w κ)
    (kk : ∀ (ada1 : Nat → Nat) (σ1 τ1 : Mem) (w1 : Int64) (κ1 : Nat) (f1 : Nat → Int64) (H1 : Heap) (locs1 : List Loc) (ls1 : Array Slot), ada1 0 = ada 0 → LI D (fun q => s.heap.size ≤ q) (wdX9 cI cZ cB ada1 σ1) (wdX10 cI cZ cB adb w1 τ1) (rLx cL o f1) H1 → va_S (fun q => s.heap.size ≤ q) s.heap H1 locs1 → lv_has ls1 7 [(4, .int (nI i)), (0, .ref b), (1, .ref (ada 0)), (2, .ref (adb 0)), (3, .ref o)] → Rel (i + 6) σ1 τ1 w1 κ1 → W p l e room_1 s m #[Value.ref b] below meth c H1 locs1 (56 + κ1 + (i + 6)) (498668 + κ1 + (i + 6)) Q (F0 m 792 ls1 [])) :
    W p l e room_1 s m #[Value.ref b] below meth c H locs (56 + κ + i) (498668 + κ + i) Q (F0 m 665 ls []) := by
  obtain ⟨⟨hx, hb, hml, hown, hts⟩, hfl, hX, hbl, hL, hK4, hGX, hGZ⟩ := C0
  have hK := hK4.sub (tys' := tyA cI cZ cB) [0, 1, 2] rfl
  have hA : ∀ q : Nat, s.heap.size ≤ q → (fun q => s.heap.size ≤ q) q := fun _ h => h
  have hbA : ¬ (fun q => s.heap.size ≤ q) b := Nat.not_le_of_lt hbl
  have hcap := hC _ _ _ _ _ hR
  obtain ⟨r, τ1, e9, e10, hR1⟩ := hU i σ τ w κ (by omega) hR
  have hcap1 := hC _ _ _ _ _ hR1
  refine lv_aload_n hx hb dL_law_665 rfl (lv_at hl 2 rfl) ?_
  refine cl_RV (rest := []) ⟨hx, hb, hml, hown, hts⟩ (mX9_place l D cI cZ cB ada σ r e9) (cwV 0 hts gW_X9_place rfl rfl rfl (by decide +kernel) ⟨Nat.le_of_ble_eq_true rfl, Nat.le_of_ble_eq_true rfl⟩) hK hI.1.1 (ci := 7) (q0 := 0) rfl rfl rfl rfl hl.1 rfl (Nat.le_of_ble_eq_true rfl) dL_law_666 ⟨by show _ ≤ 601024; omega, by show _ ≤ 7293034; omega⟩ ?_
  refine lv_aload_n hx hb dL_law_669 rfl (lv_at hl 3 rfl) ?_
  refine la_V (rest := [.int r]) ⟨hx, hb, hml, hown, hts⟩ (mX10_place l D cI cZ cB adb w τ H.size (r, τ1) e10) (cwV 0 hts gW_X10_place rfl rfl rfl (by decide +kernel) ⟨Nat.le_of_ble_eq_true rfl, Nat.le_of_ble_eq_true rfl⟩) hK hI.swap hS hA rfl (ci := 8) (q0 := 0) rfl rfl rfl rfl hl.1 rfl (Nat.le_of_ble_eq_true rfl) dL_law_670 ⟨by show _ ≤ 601024; omega, by show _ ≤ 7293034; omega⟩ (fun H locs hI hS => ?_)
  have hI := hI.swap
  refine lv_icmp_eq (tgt := 792) hx hb dL_law_673 (by decide) (fun _ => ?_) (fun hne => absurd rfl hne)
  exact W.widen (by omega) (by omega) (kk ada σ τ1 w κ f H locs ls rfl hI hS hl hR1)
set_option maxHeartbeats 2000000 in
set_option maxRecDepth 40000 in
theorem law_bearers {Rel : RelT} (hU : PU_bearers Rel) {hC : PU_cap Rel} {p : Program} {l : Launch} {e : Env} {s : State} {m : MethodId} {below : List Frame} {meth : Method} {c : Code} {b L : Nat} {xs : Nat → Int32} {D : va_G} {cI cZ cB cL : ClassId} {K : Nat → Nat} (C0 : LC p l s m meth c b L xs D cI cZ cB cL K)
    {ada adb : Nat → Nat} {o i : Nat} {σ τ : Mem} {w : Int64} {κ : Nat} {f : Nat → Int64} {H : Heap} {locs : List Loc} {ls : Array Slot} {Q : State → Prop} (hI : LI D (fun q => s.heap.size ≤ q) (wdX9 cI cZ cB ada σ) (wdX10 cI cZ cB adb w τ) (rLx cL o f) H) (hS : va_S (fun q => s.heap.size ≤ q) s.heap H locs) (hl : lv_has ls 7 [(4, .int (nI i)), (0, .ref b), (1, .ref (ada 0)), (2, .ref (adb 0)), (3, .ref o)]) (hi : i + 6 ≤ L) (hR : Rel i σ τ w κ)
    (kk : ∀ (ada1 : Nat → Nat) (σ1 τ1 : Mem) (w1 : Int64) (κ1 : Nat) (f1 : Nat → Int64) (H1 : Heap) (locs1 : List Loc) (ls1 : Array Slot), ada1 0 = ada 0 → LI D (fun q => s.heap.size ≤ q) (wdX9 cI cZ cB ada1 σ1) (wdX10 cI cZ cB adb w1 τ1) (rLx cL o f1) H1 → va_S (fun q => s.heap.size ≤ q) s.heap H1 locs1 → lv_has ls1 7 [(4, .int (nI i)), (0, .ref b), (1, .ref (ada 0)), (2, .ref (adb 0)), (3, .ref o)] → Rel (i + 6) σ1 τ1 w1 κ1 → W p l e room_1 s m #[Value.ref b] below meth c H1 locs1 (56 + κ1 + (i + 6)) (498668 + κ1 + (i + 6)) Q (F0 m 792 ls1 [])) :
    W p l e room_1 s m #[Value.ref b] below meth c H locs (56 + κ + i) (498668 + κ + i) Q (F0 m 678 ls []) := by
  obtain ⟨⟨hx, hb, hml, hown, hts⟩, hfl, hX, hbl, hL, hK4, hGX, hGZ⟩ := C0
  have hK := hK4.sub (tys' := tyA cI cZ cB) [0, 1, 2] rfl
  have hA : ∀ q : Nat, s.heap.size ≤ q → (fun q => s.heap.size ≤ q) q := fun _ h => h
  have hbA : ¬ (fun q => s.heap.size ≤ q) b := Nat.not_le_of_lt hbl
  have hcap := hC _ _ _ _ _ hR
  obtain ⟨r, τ1, e9, e10, hR1⟩ := hU i σ τ w κ (by omega) hR
  have hcap1 := hC _ _ _ _ _ hR1
  refine lv_aload_n hx hb dL_law_678 rfl (lv_at hl 2 rfl) ?_
  refine cl_RV (rest := []) ⟨hx, hb, hml, hown, hts⟩ (mX9_bearers l D cI cZ cB ada σ r e9) (cwV 0 hts gW_X9_bearers rfl rfl rfl (by decide +kernel) ⟨Nat.le_of_ble_eq_true rfl, Nat.le_of_ble_eq_true rfl⟩) hK hI.1.1 (ci := 7) (q0 := 0) rfl rfl rfl rfl hl.1 rfl (Nat.le_of_ble_eq_true rfl) dL_law_679 ⟨by show _ ≤ 601024; omega, by show _ ≤ 7293034; omega⟩ ?_
  refine lv_aload_n hx hb dL_law_682 rfl (lv_at hl 3 rfl) ?_
  refine la_V (rest := [.int r]) ⟨hx, hb, hml, hown, hts⟩ (mX10_bearers l D cI cZ cB adb w τ H.size (r, τ1) e10) (cwV 0 hts gW_X10_bearers rfl rfl rfl (by decide +kernel) ⟨Nat.le_of_ble_eq_true rfl, Nat.le_of_ble_eq_true rfl⟩) hK hI.swap hS hA rfl (ci := 8) (q0 := 0) rfl rfl rfl rfl hl.1 rfl (Nat.le_of_ble_eq_true rfl) dL_law_683 ⟨by show _ ≤ 601024; omega, by show _ ≤ 7293034; omega⟩ (fun H locs hI hS => ?_)
  have hI := hI.swap
  refine lv_icmp_eq (tgt := 792) hx hb dL_law_686 (by decide) (fun _ => ?_) (fun hne => absurd rfl hne)
  exact W.widen (by omega) (by omega) (kk ada σ τ1 w κ f H locs ls rfl hI hS hl hR1)
set_option maxHeartbeats 2000000 in
set_option maxRecDepth 40000 in
theorem law_read {Rel : RelT} (hU : PU_read Rel) {hC : PU_cap Rel} {p : Program} {l : Launch} {e : Env} {s : State} {m : MethodId} {below : List Frame} {meth : Method} {c : Code} {b L : Nat} {xs : Nat → Int32} {D : va_G} {cI cZ cB cL : ClassId} {K : Nat → Nat} (C0 : LC p l s m meth c b L xs D cI cZ cB cL K)
    {ada adb : Nat → Nat} {o i : Nat} {σ τ : Mem} {w : Int64} {κ : Nat} {f : Nat → Int64} {H : Heap} {locs : List Loc} {ls : Array Slot} {Q : State → Prop} (hI : LI D (fun q => s.heap.size ≤ q) (wdX9 cI cZ cB ada σ) (wdX10 cI cZ cB adb w τ) (rLx cL o f) H) (hS : va_S (fun q => s.heap.size ≤ q) s.heap H locs) (hl : lv_has ls 7 [(4, .int (nI i)), (0, .ref b), (1, .ref (ada 0)), (2, .ref (adb 0)), (3, .ref o)]) (hi : i + 6 ≤ L) (hR : Rel i σ τ w κ)
    (kk : ∀ (ada1 : Nat → Nat) (σ1 τ1 : Mem) (w1 : Int64) (κ1 : Nat) (f1 : Nat → Int64) (H1 : Heap) (locs1 : List Loc) (ls1 : Array Slot), ada1 0 = ada 0 → LI D (fun q => s.heap.size ≤ q) (wdX9 cI cZ cB ada1 σ1) (wdX10 cI cZ cB adb w1 τ1) (rLx cL o f1) H1 → va_S (fun q => s.heap.size ≤ q) s.heap H1 locs1 → lv_has ls1 7 [(4, .int (nI i)), (0, .ref b), (1, .ref (ada 0)), (2, .ref (adb 0)), (3, .ref o)] → Rel (i + 6) σ1 τ1 w1 κ1 → W p l e room_1 s m #[Value.ref b] below meth c H1 locs1 (56 + κ1 + (i + 6)) (498668 + κ1 + (i + 6)) Q (F0 m 792 ls1 [])) :
    W p l e room_1 s m #[Value.ref b] below meth c H locs (56 + κ + i) (498668 + κ + i) Q (F0 m 691 ls []) := by
  obtain ⟨⟨hx, hb, hml, hown, hts⟩, hfl, hX, hbl, hL, hK4, hGX, hGZ⟩ := C0
  have hK := hK4.sub (tys' := tyA cI cZ cB) [0, 1, 2] rfl
  have hA : ∀ q : Nat, s.heap.size ≤ q → (fun q => s.heap.size ≤ q) q := fun _ h => h
  have hbA : ¬ (fun q => s.heap.size ≤ q) b := Nat.not_le_of_lt hbl
  have hcap := hC _ _ _ _ _ hR
  obtain ⟨r, σ1, τ1, e9, e10, hR1⟩ := hU i σ τ w κ (xs (i + 1)) (by omega) hR
  have hcap1 := hC _ _ _ _ _ hR1
  refine lv_aload_n hx hb dL_law_691 rfl (lv_at hl 2 rfl) ?_
  refine la_arg (j0 := 1) (j4 := 0) 1 hx hb hX hbl hbA hS hl rfl rfl (by decide) (by omega) hL dL_law_692 dL_law_693 dL_law_695 dL_law_696 dL_law_697 ?_
  refine la_Vx (rest := []) ⟨hx, hb, hml, hown, hts⟩ (mX9_read K l D cI cZ cB ada σ H.size (xs (i + 1)) (r, σ1) e9) (cwV 1 hts gW_X9_read rfl rfl rfl (by decide +kernel) ⟨Nat.le_of_ble_eq_true rfl, Nat.le_of_ble_eq_true rfl⟩) hGX hK hI hS hA rfl (ci := 7) (q0 := 0) rfl rfl rfl rfl hl.1 rfl (Nat.le_of_ble_eq_true rfl) dL_law_698 ⟨by show _ ≤ 601024; omega, by show _ ≤ 7293034; omega⟩ (fun H locs hI hS => ?_)
  refine lv_aload_n hx hb dL_law_701 rfl (lv_at hl 3 rfl) ?_
  refine la_arg (j0 := 1) (j4 := 0) 1 hx hb hX hbl hbA hS hl rfl rfl (by decide) (by omega) hL dL_law_702 dL_law_703 dL_law_705 dL_law_706 dL_law_707 ?_
  refine la_V (rest := [.int r]) ⟨hx, hb, hml, hown, hts⟩ (mX10_read l D cI cZ cB adb w τ H.size (xs (i + 1)) (r, τ1) e10) (cwV 1 hts gW_X10_read rfl rfl rfl (by decide +kernel) ⟨Nat.le_of_ble_eq_true rfl, Nat.le_of_ble_eq_true rfl⟩) hK hI.swap hS hA rfl (ci := 8) (q0 := 0) rfl rfl rfl rfl hl.1 rfl (Nat.le_of_ble_eq_true rfl) dL_law_708 ⟨by show _ ≤ 601024; omega, by show _ ≤ 7293034; omega⟩ (fun H locs hI hS => ?_)
  have hI := hI.swap
  refine lv_icmp_eq (tgt := 792) hx hb dL_law_711 (by decide) (fun _ => ?_) (fun hne => absurd rfl hne)
  exact W.widen (by omega) (by omega) (kk ada σ1 τ1 w κ f H locs ls rfl hI hS hl hR1)
set_option maxHeartbeats 2000000 in
set_option maxRecDepth 40000 in
theorem law_suffix {Rel : RelT} (hU : PU_suffix Rel) {hC : PU_cap Rel} {p : Program} {l : Launch} {e : Env} {s : State} {m : MethodId} {below : List Frame} {meth : Method} {c : Code} {b L : Nat} {xs : Nat → Int32} {D : va_G} {cI cZ cB cL : ClassId} {K : Nat → Nat} (C0 : LC p l s m meth c b L xs D cI cZ cB cL K)
    {ada adb : Nat → Nat} {o i : Nat} {σ τ : Mem} {w : Int64} {κ : Nat} {f : Nat → Int64} {H : Heap} {locs : List Loc} {ls : Array Slot} {Q : State → Prop} (hI : LI D (fun q => s.heap.size ≤ q) (wdX9 cI cZ cB ada σ) (wdX10 cI cZ cB adb w τ) (rLx cL o f) H) (hS : va_S (fun q => s.heap.size ≤ q) s.heap H locs) (hl : lv_has ls 7 [(4, .int (nI i)), (0, .ref b), (1, .ref (ada 0)), (2, .ref (adb 0)), (3, .ref o)]) (hi : i + 6 ≤ L) (hR : Rel i σ τ w κ)
    (kk : ∀ (ada1 : Nat → Nat) (σ1 τ1 : Mem) (w1 : Int64) (κ1 : Nat) (f1 : Nat → Int64) (H1 : Heap) (locs1 : List Loc) (ls1 : Array Slot), ada1 0 = ada 0 → LI D (fun q => s.heap.size ≤ q) (wdX9 cI cZ cB ada1 σ1) (wdX10 cI cZ cB adb w1 τ1) (rLx cL o f1) H1 → va_S (fun q => s.heap.size ≤ q) s.heap H1 locs1 → lv_has ls1 7 [(4, .int (nI i)), (0, .ref b), (1, .ref (ada 0)), (2, .ref (adb 0)), (3, .ref o)] → Rel (i + 6) σ1 τ1 w1 κ1 → W p l e room_1 s m #[Value.ref b] below meth c H1 locs1 (56 + κ1 + (i + 6)) (498668 + κ1 + (i + 6)) Q (F0 m 792 ls1 [])) :
    W p l e room_1 s m #[Value.ref b] below meth c H locs (56 + κ + i) (498668 + κ + i) Q (F0 m 716 ls []) := by
  obtain ⟨⟨hx, hb, hml, hown, hts⟩, hfl, hX, hbl, hL, hK4, hGX, hGZ⟩ := C0
  have hK := hK4.sub (tys' := tyA cI cZ cB) [0, 1, 2] rfl
  have hA : ∀ q : Nat, s.heap.size ≤ q → (fun q => s.heap.size ≤ q) q := fun _ h => h
  have hbA : ¬ (fun q => s.heap.size ≤ q) b := Nat.not_le_of_lt hbl
  have hcap := hC _ _ _ _ _ hR
  obtain ⟨r, τ1, e9, e10, hR1⟩ := hU i σ τ w κ (by omega) hR
  have hcap1 := hC _ _ _ _ _ hR1
  refine lv_aload_n hx hb dL_law_716 rfl (lv_at hl 2 rfl) ?_
  refine cl_RV (rest := []) ⟨hx, hb, hml, hown, hts⟩ (mX9_suffix l D cI cZ cB ada σ r e9) (cwV 0 hts gW_X9_suffix rfl rfl rfl (by decide +kernel) ⟨Nat.le_of_ble_eq_true rfl, Nat.le_of_ble_eq_true rfl⟩) hK hI.1.1 (ci := 7) (q0 := 0) rfl rfl rfl rfl hl.1 rfl (Nat.le_of_ble_eq_true rfl) dL_law_717 ⟨by show _ ≤ 601024; omega, by show _ ≤ 7293034; omega⟩ ?_
  refine lv_aload_n hx hb dL_law_720 rfl (lv_at hl 3 rfl) ?_
  refine la_V (rest := [.int r]) ⟨hx, hb, hml, hown, hts⟩ (mX10_suffix l D cI cZ cB adb w τ H.size (r, τ1) e10) (cwV 0 hts gW_X10_suffix rfl rfl rfl (by decide +kernel) ⟨Nat.le_of_ble_eq_true rfl, Nat.le_of_ble_eq_true rfl⟩) hK hI.swap hS hA rfl (ci := 8) (q0 := 0) rfl rfl rfl rfl hl.1 rfl (Nat.le_of_ble_eq_true rfl) dL_law_721 ⟨by show _ ≤ 601024; omega, by show _ ≤ 7293034; omega⟩ (fun H locs hI hS => ?_)
  have hI := hI.swap
  refine lv_icmp_eq (tgt := 792) hx hb dL_law_724 (by decide) (fun _ => ?_) (fun hne => absurd rfl hne)
  exact W.widen (by omega) (by omega) (kk ada σ τ1 w κ f H locs ls rfl hI hS hl hR1)
set_option maxHeartbeats 2000000 in
set_option maxRecDepth 40000 in
theorem law_clash {Rel : RelT} (hU : PU_clash Rel) {hC : PU_cap Rel} {p : Program} {l : Launch} {e : Env} {s : State} {m : MethodId} {below : List Frame} {meth : Method} {c : Code} {b L : Nat} {xs : Nat → Int32} {D : va_G} {cI cZ cB cL : ClassId} {K : Nat → Nat} (C0 : LC p l s m meth c b L xs D cI cZ cB cL K)
    {ada adb : Nat → Nat} {o i : Nat} {σ τ : Mem} {w : Int64} {κ : Nat} {f : Nat → Int64} {H : Heap} {locs : List Loc} {ls : Array Slot} {Q : State → Prop} (hI : LI D (fun q => s.heap.size ≤ q) (wdX9 cI cZ cB ada σ) (wdX10 cI cZ cB adb w τ) (rLx cL o f) H) (hS : va_S (fun q => s.heap.size ≤ q) s.heap H locs) (hl : lv_has ls 7 [(4, .int (nI i)), (0, .ref b), (1, .ref (ada 0)), (2, .ref (adb 0)), (3, .ref o)]) (hi : i + 6 ≤ L) (hR : Rel i σ τ w κ)
    (kk : ∀ (ada1 : Nat → Nat) (σ1 τ1 : Mem) (w1 : Int64) (κ1 : Nat) (f1 : Nat → Int64) (H1 : Heap) (locs1 : List Loc) (ls1 : Array Slot), ada1 0 = ada 0 → LI D (fun q => s.heap.size ≤ q) (wdX9 cI cZ cB ada1 σ1) (wdX10 cI cZ cB adb w1 τ1) (rLx cL o f1) H1 → va_S (fun q => s.heap.size ≤ q) s.heap H1 locs1 → lv_has ls1 7 [(4, .int (nI i)), (0, .ref b), (1, .ref (ada 0)), (2, .ref (adb 0)), (3, .ref o)] → Rel (i + 6) σ1 τ1 w1 κ1 → W p l e room_1 s m #[Value.ref b] below meth c H1 locs1 (56 + κ1 + (i + 6)) (498668 + κ1 + (i + 6)) Q (F0 m 792 ls1 [])) :
    W p l e room_1 s m #[Value.ref b] below meth c H locs (56 + κ + i) (498668 + κ + i) Q (F0 m 729 ls []) := by
  obtain ⟨⟨hx, hb, hml, hown, hts⟩, hfl, hX, hbl, hL, hK4, hGX, hGZ⟩ := C0
  have hK := hK4.sub (tys' := tyA cI cZ cB) [0, 1, 2] rfl
  have hA : ∀ q : Nat, s.heap.size ≤ q → (fun q => s.heap.size ≤ q) q := fun _ h => h
  have hbA : ¬ (fun q => s.heap.size ≤ q) b := Nat.not_le_of_lt hbl
  have hcap := hC _ _ _ _ _ hR
  obtain ⟨r, τ1, e9, e10, hR1⟩ := hU i σ τ w κ (by omega) hR
  have hcap1 := hC _ _ _ _ _ hR1
  refine lv_aload_n hx hb dL_law_729 rfl (lv_at hl 2 rfl) ?_
  refine cl_RV (rest := []) ⟨hx, hb, hml, hown, hts⟩ (mX9_clash l D cI cZ cB ada σ r e9) (cwV 0 hts gW_X9_clash rfl rfl rfl (by decide +kernel) ⟨Nat.le_of_ble_eq_true rfl, Nat.le_of_ble_eq_true rfl⟩) hK hI.1.1 (ci := 7) (q0 := 0) rfl rfl rfl rfl hl.1 rfl (Nat.le_of_ble_eq_true rfl) dL_law_730 ⟨by show _ ≤ 601024; omega, by show _ ≤ 7293034; omega⟩ ?_
  refine lv_aload_n hx hb dL_law_733 rfl (lv_at hl 3 rfl) ?_
  refine la_V (rest := [.int r]) ⟨hx, hb, hml, hown, hts⟩ (mX10_clash l D cI cZ cB adb w τ H.size (r, τ1) e10) (cwV 0 hts gW_X10_clash rfl rfl rfl (by decide +kernel) ⟨Nat.le_of_ble_eq_true rfl, Nat.le_of_ble_eq_true rfl⟩) hK hI.swap hS hA rfl (ci := 8) (q0 := 0) rfl rfl rfl rfl hl.1 rfl (Nat.le_of_ble_eq_true rfl) dL_law_734 ⟨by show _ ≤ 601024; omega, by show _ ≤ 7293034; omega⟩ (fun H locs hI hS => ?_)
  have hI := hI.swap
  refine lv_icmp_eq (tgt := 792) hx hb dL_law_737 (by decide) (fun _ => ?_) (fun hne => absurd rfl hne)
  exact W.widen (by omega) (by omega) (kk ada σ τ1 w κ f H locs ls rfl hI hS hl hR1)
set_option maxHeartbeats 2000000 in
set_option maxRecDepth 40000 in
theorem law_at {Rel : RelT} (hU : PU_at Rel) {hC : PU_cap Rel} {p : Program} {l : Launch} {e : Env} {s : State} {m : MethodId} {below : List Frame} {meth : Method} {c : Code} {b L : Nat} {xs : Nat → Int32} {D : va_G} {cI cZ cB cL : ClassId} {K : Nat → Nat} (C0 : LC p l s m meth c b L xs D cI cZ cB cL K)
    {ada adb : Nat → Nat} {o i : Nat} {σ τ : Mem} {w : Int64} {κ : Nat} {f : Nat → Int64} {H : Heap} {locs : List Loc} {ls : Array Slot} {Q : State → Prop} (hI : LI D (fun q => s.heap.size ≤ q) (wdX9 cI cZ cB ada σ) (wdX10 cI cZ cB adb w τ) (rLx cL o f) H) (hS : va_S (fun q => s.heap.size ≤ q) s.heap H locs) (hl : lv_has ls 7 [(4, .int (nI i)), (0, .ref b), (1, .ref (ada 0)), (2, .ref (adb 0)), (3, .ref o)]) (hi : i + 6 ≤ L) (hR : Rel i σ τ w κ)
    (kk : ∀ (ada1 : Nat → Nat) (σ1 τ1 : Mem) (w1 : Int64) (κ1 : Nat) (f1 : Nat → Int64) (H1 : Heap) (locs1 : List Loc) (ls1 : Array Slot), ada1 0 = ada 0 → LI D (fun q => s.heap.size ≤ q) (wdX9 cI cZ cB ada1 σ1) (wdX10 cI cZ cB adb w1 τ1) (rLx cL o f1) H1 → va_S (fun q => s.heap.size ≤ q) s.heap H1 locs1 → lv_has ls1 7 [(4, .int (nI i)), (0, .ref b), (1, .ref (ada 0)), (2, .ref (adb 0)), (3, .ref o)] → Rel (i + 6) σ1 τ1 w1 κ1 → W p l e room_1 s m #[Value.ref b] below meth c H1 locs1 (56 + κ1 + (i + 6)) (498668 + κ1 + (i + 6)) Q (F0 m 792 ls1 [])) :
    W p l e room_1 s m #[Value.ref b] below meth c H locs (56 + κ + i) (498668 + κ + i) Q (F0 m 742 ls []) := by
  obtain ⟨⟨hx, hb, hml, hown, hts⟩, hfl, hX, hbl, hL, hK4, hGX, hGZ⟩ := C0
  have hK := hK4.sub (tys' := tyA cI cZ cB) [0, 1, 2] rfl
  have hA : ∀ q : Nat, s.heap.size ≤ q → (fun q => s.heap.size ≤ q) q := fun _ h => h
  have hbA : ¬ (fun q => s.heap.size ≤ q) b := Nat.not_le_of_lt hbl
  have hcap := hC _ _ _ _ _ hR
  obtain ⟨r, τ1, e9, e10, hR1⟩ := hU i σ τ w κ (xs (i + 1)) (by omega) hR
  have hcap1 := hC _ _ _ _ _ hR1
  refine lv_aload_n hx hb dL_law_742 rfl (lv_at hl 2 rfl) ?_
  refine la_arg (j0 := 1) (j4 := 0) 1 hx hb hX hbl hbA hS hl rfl rfl (by decide) (by omega) hL dL_law_743 dL_law_744 dL_law_746 dL_law_747 dL_law_748 ?_
  refine cl_RV (rest := []) ⟨hx, hb, hml, hown, hts⟩ (mX9_at l D cI cZ cB ada σ (xs (i + 1)) r e9) (cwV 1 hts gW_X9_at rfl rfl rfl (by decide +kernel) ⟨Nat.le_of_ble_eq_true rfl, Nat.le_of_ble_eq_true rfl⟩) hK hI.1.1 (ci := 7) (q0 := 0) rfl rfl rfl rfl hl.1 rfl (Nat.le_of_ble_eq_true rfl) dL_law_749 ⟨by show _ ≤ 601024; omega, by show _ ≤ 7293034; omega⟩ ?_
  refine lv_aload_n hx hb dL_law_752 rfl (lv_at hl 3 rfl) ?_
  refine la_arg (j0 := 1) (j4 := 0) 1 hx hb hX hbl hbA hS hl rfl rfl (by decide) (by omega) hL dL_law_753 dL_law_754 dL_law_756 dL_law_757 dL_law_758 ?_
  refine la_V (rest := [.int r]) ⟨hx, hb, hml, hown, hts⟩ (mX10_at l D cI cZ cB adb w τ H.size (xs (i + 1)) (r, τ1) e10) (cwV 1 hts gW_X10_at rfl rfl rfl (by decide +kernel) ⟨Nat.le_of_ble_eq_true rfl, Nat.le_of_ble_eq_true rfl⟩) hK hI.swap hS hA rfl (ci := 8) (q0 := 0) rfl rfl rfl rfl hl.1 rfl (Nat.le_of_ble_eq_true rfl) dL_law_759 ⟨by show _ ≤ 601024; omega, by show _ ≤ 7293034; omega⟩ (fun H locs hI hS => ?_)
  have hI := hI.swap
  refine lv_icmp_eq (tgt := 792) hx hb dL_law_762 (by decide) (fun _ => ?_) (fun hne => absurd rfl hne)
  exact W.widen (by omega) (by omega) (kk ada σ τ1 w κ f H locs ls rfl hI hS hl hR1)
set_option maxHeartbeats 2000000 in
set_option maxRecDepth 40000 in
theorem law_count {Rel : RelT} (hU : PU_count Rel) {hC : PU_cap Rel} {p : Program} {l : Launch} {e : Env} {s : State} {m : MethodId} {below : List Frame} {meth : Method} {c : Code} {b L : Nat} {xs : Nat → Int32} {D : va_G} {cI cZ cB cL : ClassId} {K : Nat → Nat} (C0 : LC p l s m meth c b L xs D cI cZ cB cL K)
    {ada adb : Nat → Nat} {o i : Nat} {σ τ : Mem} {w : Int64} {κ : Nat} {f : Nat → Int64} {H : Heap} {locs : List Loc} {ls : Array Slot} {Q : State → Prop} (hI : LI D (fun q => s.heap.size ≤ q) (wdX9 cI cZ cB ada σ) (wdX10 cI cZ cB adb w τ) (rLx cL o f) H) (hS : va_S (fun q => s.heap.size ≤ q) s.heap H locs) (hl : lv_has ls 7 [(4, .int (nI i)), (0, .ref b), (1, .ref (ada 0)), (2, .ref (adb 0)), (3, .ref o)]) (hi : i + 6 ≤ L) (hR : Rel i σ τ w κ)
    (kk : ∀ (ada1 : Nat → Nat) (σ1 τ1 : Mem) (w1 : Int64) (κ1 : Nat) (f1 : Nat → Int64) (H1 : Heap) (locs1 : List Loc) (ls1 : Array Slot), ada1 0 = ada 0 → LI D (fun q => s.heap.size ≤ q) (wdX9 cI cZ cB ada1 σ1) (wdX10 cI cZ cB adb w1 τ1) (rLx cL o f1) H1 → va_S (fun q => s.heap.size ≤ q) s.heap H1 locs1 → lv_has ls1 7 [(4, .int (nI i)), (0, .ref b), (1, .ref (ada 0)), (2, .ref (adb 0)), (3, .ref o)] → Rel (i + 6) σ1 τ1 w1 κ1 → W p l e room_1 s m #[Value.ref b] below meth c H1 locs1 (56 + κ1 + (i + 6)) (498668 + κ1 + (i + 6)) Q (F0 m 792 ls1 [])) :
    W p l e room_1 s m #[Value.ref b] below meth c H locs (56 + κ + i) (498668 + κ + i) Q (F0 m 767 ls []) := by
  obtain ⟨⟨hx, hb, hml, hown, hts⟩, hfl, hX, hbl, hL, hK4, hGX, hGZ⟩ := C0
  have hK := hK4.sub (tys' := tyA cI cZ cB) [0, 1, 2] rfl
  have hA : ∀ q : Nat, s.heap.size ≤ q → (fun q => s.heap.size ≤ q) q := fun _ h => h
  have hbA : ¬ (fun q => s.heap.size ≤ q) b := Nat.not_le_of_lt hbl
  have hcap := hC _ _ _ _ _ hR
  obtain ⟨r, τ1, e9, e10, hR1⟩ := hU i σ τ w κ (xs (i + 1)) (by omega) hR
  have hcap1 := hC _ _ _ _ _ hR1
  refine lv_aload_n hx hb dL_law_767 rfl (lv_at hl 2 rfl) ?_
  refine la_arg (j0 := 1) (j4 := 0) 1 hx hb hX hbl hbA hS hl rfl rfl (by decide) (by omega) hL dL_law_768 dL_law_769 dL_law_771 dL_law_772 dL_law_773 ?_
  refine cl_RV (rest := []) ⟨hx, hb, hml, hown, hts⟩ (mX9_count l D cI cZ cB ada σ (xs (i + 1)) r e9) (cwV 1 hts gW_X9_count rfl rfl rfl (by decide +kernel) ⟨Nat.le_of_ble_eq_true rfl, Nat.le_of_ble_eq_true rfl⟩) hK hI.1.1 (ci := 7) (q0 := 0) rfl rfl rfl rfl hl.1 rfl (Nat.le_of_ble_eq_true rfl) dL_law_774 ⟨by show _ ≤ 601024; omega, by show _ ≤ 7293034; omega⟩ ?_
  refine lv_aload_n hx hb dL_law_777 rfl (lv_at hl 3 rfl) ?_
  refine la_arg (j0 := 1) (j4 := 0) 1 hx hb hX hbl hbA hS hl rfl rfl (by decide) (by omega) hL dL_law_778 dL_law_779 dL_law_781 dL_law_782 dL_law_783 ?_
  refine la_V (rest := [.int r]) ⟨hx, hb, hml, hown, hts⟩ (mX10_count l D cI cZ cB adb w τ H.size (xs (i + 1)) (r, τ1) e10) (cwV 1 hts gW_X10_count rfl rfl rfl (by decide +kernel) ⟨Nat.le_of_ble_eq_true rfl, Nat.le_of_ble_eq_true rfl⟩) hK hI.swap hS hA rfl (ci := 8) (q0 := 0) rfl rfl rfl rfl hl.1 rfl (Nat.le_of_ble_eq_true rfl) dL_law_784 ⟨by show _ ≤ 601024; omega, by show _ ≤ 7293034; omega⟩ (fun H locs hI hS => ?_)
  have hI := hI.swap
  refine lv_icmp_eq (tgt := 792) hx hb dL_law_787 (by decide) (fun _ => ?_) (fun hne => absurd rfl hne)
  exact W.widen (by omega) (by omega) (kk ada σ τ1 w κ f H locs ls rfl hI hS hl hR1)
