/-! own words: what is left (pure) -/
theorem pure_ok : ∃ Rel : RelT, PU Rel := sorry
