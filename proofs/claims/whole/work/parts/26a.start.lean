/-! own words: pure part: the start -/
theorem st_forms : ∀ k, k < 2 → (mX9_0 6 k = nI (if k = 1 then 2 else 0) ∧ mX9_0 7 k = nI 0) ∧ mX10_0 2 k = nI (if k = 1 then 2 else 0) ∧ mX10_0 4 k = nI 0 := by decide +kernel
theorem st_bco : ∀ k, k < 12 → mX10_0 19 k = nI (fW k) ∧ mX10_0 20 k = nI (fG k) := by decide +kernel
theorem rel_start : Rel0 0 mX9_0 mX10_0 0 0 := by
  refine ⟨[], [], 2, fun k => if k = 1 then 2 else 0, fun _ => 0, 0, 0, fun _ => 0, fun _ => 0, fun _ => 0, fun _ => 0, fun _ => 0, [], 256, [], ⟨TXT.nil rfl, TXT.nil rfl, ⟨rfl, fun k hk => (st_forms k hk).1⟩, ⟨rfl, rfl, fun j hj => absurd hj (by omega), fun j hj => absurd hj (by omega)⟩, ⟨rfl, rfl, by omega, by omega, Nat.zero_le _, trivial, fun j hj => ?_⟩, ⟨0, by omega, rfl, rfl, Nat.zero_le _, fun j hj => absurd hj (by simp)⟩, rfl⟩, ⟨⟨rfl, fun j hj => absurd hj (by simp)⟩, BOUT.nil rfl, ⟨rfl, fun k hk => (st_forms k hk).2⟩, ⟨rfl, fun j hj => absurd hj (by omega), fun j hj => absurd hj (by omega)⟩, ⟨rfl, trivial⟩, ⟨rfl, fun j hj => absurd hj (by simp)⟩, rfl, st_bco⟩, ⟨rfl, rfl, rfl, rfl⟩, ⟨⟨by omega, by omega, fun k hk => ?_⟩, ⟨by omega, fun j hj => absurd hj (by omega), fun j hj => absurd hj (by omega), fun j _ hj => absurd hj (by omega), fun j hj => absurd hj (by omega), fun j hj => absurd hj (by omega)⟩, trivial, by omega, trivial, by simp, Or.inl ⟨by omega, by omega⟩⟩⟩
  · exact if_pos ⟨Nat.zero_le _, hj⟩
  · show (if k = 1 then 2 else 0) < 4 ∧ 0 < 2
    split <;> omega
