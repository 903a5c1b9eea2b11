set_option maxRecDepth 20000 in
theorem wsL_law_x0 : ∀ w ∈ (nx_at).filter goodWord, w ∈ lw_tbl := by decide +kernel
