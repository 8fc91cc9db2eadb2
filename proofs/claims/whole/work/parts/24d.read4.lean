/-! own words: pure part: a label read by the reference -/
theorem tst_tab : ∀ f, f < 4 → ∀ b, b < 256 → X10_fitsForm (nI b) (nI f) = some (if fitN f b then 1 else 0) := by decide +kernel
theorem tst_m1 : ∀ f, f < 4 → X10_fitsForm (-1) (nI f) = some 0 := by decide +kernel
theorem tst_rw : ∀ b, b < 256 → (fitN 1 b = true → X10_romanWorth (nI b) = some (nI (rwt b))) ∧ (fitN 3 b = true → X10_romanWorth (nI b - 32) = some (nI (rwt (b - 32)))) := by decide +kernel
