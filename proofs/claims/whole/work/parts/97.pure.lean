/-! own words: the pure part, whole -/
theorem pure_ok : ∃ Rel : RelT, PU Rel := ⟨Rel0, rel_start, pu_cap, pu_skip, pu_feed, pu_end, pu_levels, pu_fault, pu_add, pu_strike, pu_renumber, pu_error, pu_undo, pu_wait, pu_about, pu_label, pu_cited, pu_octet, pu_cite, pu_place, pu_bearers, pu_read, pu_suffix, pu_clash, pu_at, pu_count⟩
