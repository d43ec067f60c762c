set_option maxRecDepth 20000 in
theorem wsL_law_in0_24 : ∀ w ∈ wsL_law0_r25, w ∈ lw_tbl := fun w h => (goodIn_p wsL_law0_r25 [756, 760, 764, 767, 770, 776] (by decide +kernel) (by decide +kernel) w h).1
