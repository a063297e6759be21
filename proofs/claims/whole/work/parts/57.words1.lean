theorem lwi_1 : ∀ w ∈ wsL_law0_r1, w ∈ lw_tbl := fun w h => (goodIn_p wsL_law0_r1 [66, 69] (by decide +kernel) (by decide +kernel) w h).1
theorem lwi_2 : ∀ w ∈ wsL_law0_r2, w ∈ lw_tbl := fun w h => (goodIn_p wsL_law0_r2 [74, 88] (by decide +kernel) (by decide +kernel) w h).1
theorem lwi_3 : ∀ w ∈ wsL_law0_r3, w ∈ lw_tbl := fun w h => (goodIn_p wsL_law0_r3 [101, 129] (by decide +kernel) (by decide +kernel) w h).1
theorem lwi_4 : ∀ w ∈ wsL_law0_r4, w ∈ lw_tbl := fun w h => (goodIn_p wsL_law0_r4 [134, 156, 209] (by decide +kernel) (by decide +kernel) w h).1
theorem lwi_5 : ∀ w ∈ wsL_law0_r5, w ∈ lw_tbl := fun w h => (goodIn_p wsL_law0_r5 [673] (by decide +kernel) (by decide +kernel) w h).1
theorem lwi_6 : ∀ w ∈ wsL_law0_r6, w ∈ lw_tbl := fun w h => (goodIn_p wsL_law0_r6 [249, 253, 788, 257] (by decide +kernel) (by decide +kernel) w h).1
theorem lwi_7 : ∀ w ∈ wsL_law0_r7, w ∈ lw_tbl := fun w h => (goodIn_p wsL_law0_r7 [261, 265, 772, 776, 269, 273] (by decide +kernel) (by decide +kernel) w h).1
theorem lwi_8 : ∀ w ∈ wsL_law0_r8, w ∈ lw_tbl := fun w h => (goodIn_p wsL_law0_r8 [278, 282, 286, 290, 294, 298] (by decide +kernel) (by decide +kernel) w h).1
theorem lwi_9 : ∀ w ∈ wsL_law0_r9, w ∈ lw_tbl := fun w h => (goodIn_p wsL_law0_r9 [302, 306, 310, 314, 318, 322] (by decide +kernel) (by decide +kernel) w h).1
theorem lwi_10 : ∀ w ∈ wsL_law0_r10, w ∈ lw_tbl := fun w h => (goodIn_p wsL_law0_r10 [326, 330, 334, 337, 344] (by decide +kernel) (by decide +kernel) w h).1
