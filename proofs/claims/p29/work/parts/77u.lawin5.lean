set_option maxRecDepth 20000 in
theorem wsL_law_in0_23 : ∀ w ∈ wsL_law0_r24, w ∈ lw_tbl := fun w h => (goodIn_p wsL_law0_r24 [743, 737, 730, 733, 746, 749, 752] rfl (by decide +kernel) w h).1
