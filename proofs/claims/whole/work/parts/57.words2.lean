theorem lwi_11 : ∀ w ∈ wsL_law0_r11, w ∈ lw_tbl := fun w h => (goodIn_p wsL_law0_r11 [353, 347, 350, 357, 361, 366] (by decide +kernel) (by decide +kernel) w h).1
theorem lwi_12 : ∀ w ∈ wsL_law0_r12, w ∈ lw_tbl := fun w h => (goodIn_p wsL_law0_r12 [371, 375, 379, 383, 387, 391] (by decide +kernel) (by decide +kernel) w h).1
theorem lwi_13 : ∀ w ∈ wsL_law0_r13, w ∈ lw_tbl := fun w h => (goodIn_p wsL_law0_r13 [395, 792, 796, 800, 804] (by decide +kernel) (by decide +kernel) w h).1
theorem lwi_14 : ∀ w ∈ wsL_law0_r14, w ∈ lw_tbl := fun w h => (goodIn_p wsL_law0_r14 [808, 812, 816, 820, 824] (by decide +kernel) (by decide +kernel) w h).1
theorem lwi_15 : ∀ w ∈ wsL_law0_r15, w ∈ lw_tbl := fun w h => (goodIn_p wsL_law0_r15 [828, 831, 834, 837, 841, 845, 849] (by decide +kernel) (by decide +kernel) w h).1
theorem lwi_16 : ∀ w ∈ wsL_law0_r16, w ∈ lw_tbl := fun w h => (goodIn_p wsL_law0_r16 [853, 857, 861, 865, 869, 399] (by decide +kernel) (by decide +kernel) w h).1
theorem lwi_17 : ∀ w ∈ wsL_law0_r17, w ∈ lw_tbl := fun w h => (goodIn_p wsL_law0_r17 [403, 407, 411, 881, 885, 889] (by decide +kernel) (by decide +kernel) w h).1
theorem lwi_18 : ∀ w ∈ wsL_law0_r18, w ∈ lw_tbl := fun w h => (goodIn_p wsL_law0_r18 [893, 415, 419, 897, 423, 427] (by decide +kernel) (by decide +kernel) w h).1
theorem lwi_19 : ∀ w ∈ wsL_law0_r19, w ∈ lw_tbl := fun w h => (goodIn_p wsL_law0_r19 [901, 431, 435, 439, 873, 877] (by decide +kernel) (by decide +kernel) w h).1
theorem lwi_20 : ∀ w ∈ wsL_law0_r20, w ∈ lw_tbl := fun w h => (goodIn_p wsL_law0_r20 [443, 905, 449, 453, 909] (by decide +kernel) (by decide +kernel) w h).1
