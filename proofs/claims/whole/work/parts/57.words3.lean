theorem lwi_21 : ∀ w ∈ wsL_law0_r21, w ∈ lw_tbl := fun w h => (goodIn_p wsL_law0_r21 [457, 461, 465, 472, 469, 913] (by decide +kernel) (by decide +kernel) w h).1
theorem lwi_22 : ∀ w ∈ wsL_law0_r22, w ∈ lw_tbl := fun w h => (goodIn_p wsL_law0_r22 [477, 481, 917, 486, 921, 491] (by decide +kernel) (by decide +kernel) w h).1
theorem lwi_23 : ∀ w ∈ wsL_law0_r23, w ∈ lw_tbl := fun w h => (goodIn_p wsL_law0_r23 [495, 499, 504, 508, 512, 516] (by decide +kernel) (by decide +kernel) w h).1
theorem lwi_24 : ∀ w ∈ wsL_law0_r24, w ∈ lw_tbl := fun w h => (goodIn_p wsL_law0_r24 [520, 925, 929, 933, 937] (by decide +kernel) (by decide +kernel) w h).1
theorem lwi_25 : ∀ w ∈ wsL_law0_r25, w ∈ lw_tbl := fun w h => (goodIn_p wsL_law0_r25 [524, 528, 941, 532, 536, 945] (by decide +kernel) (by decide +kernel) w h).1
theorem lwi_26 : ∀ w ∈ wsL_law0_r26, w ∈ lw_tbl := fun w h => (goodIn_p wsL_law0_r26 [592, 579, 583, 575] (by decide +kernel) (by decide +kernel) w h).1
theorem lwi_27 : ∀ w ∈ wsL_law0_r27, w ∈ lw_tbl := fun w h => (goodIn_p wsL_law0_r27 [544, 663, 949, 953, 784, 668] (by decide +kernel) (by decide +kernel) w h).1
theorem lwi_28 : ∀ w ∈ wsL_law0_r28, w ∈ lw_tbl := fun w h => (goodIn_p wsL_law0_r28 [540, 780, 548, 553, 557] (by decide +kernel) (by decide +kernel) w h).1
theorem lwi_29 : ∀ w ∈ wsL_law0_r29, w ∈ lw_tbl := fun w h => (goodIn_p wsL_law0_r29 [562, 567, 571, 957] (by decide +kernel) (by decide +kernel) w h).1
