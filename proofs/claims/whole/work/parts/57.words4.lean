theorem lwx_X6 : ∀ w ∈ wsX60, w ∈ lw_tbl := by decide +kernel
theorem lwx_X7 : ∀ w ∈ wsX70, w ∈ lw_tbl := by decide +kernel
theorem lwx_X4 : ∀ w ∈ wsX40, w ∈ lw_tbl := by decide +kernel
theorem lwx_X5 : ∀ w ∈ wsX50, w ∈ lw_tbl := by decide +kernel
theorem lwx_X3 : ∀ w ∈ wsX30, w ∈ lw_tbl := by decide +kernel
theorem lwx_X0 : ∀ w ∈ wsX00, w ∈ lw_tbl := by decide +kernel
theorem lwx_X1 : ∀ w ∈ wsX10, w ∈ lw_tbl := by decide +kernel
theorem lwx_X2 : ∀ w ∈ wsX20, w ∈ lw_tbl := by decide +kernel
theorem wsL_law_x0 : ∀ w ∈ (vx_atS RX6 155 "java/util/NoSuchElementException" ["java/lang/RuntimeException", "java/lang/Exception"]).filter goodWord, w ∈ lw_tbl := by decide +kernel
theorem lwm {α : Type} {a b : List α} {P : α → Prop} (h : ∀ w ∈ a, P w) (h2 : ∀ w ∈ b, P w) : ∀ w ∈ a ++ b, P w := fun w hw => (List.mem_append.mp hw).elim (h w) (h2 w)
theorem wsL_law_in0 : ∀ w ∈ wsL_law0, w ∈ lw_tbl := by
  unfold wsL_law0
  exact (lwm (lwm (lwm (lwm (lwm (lwm (lwm (lwm (lwm (lwm lwi_1 (lwm lwi_2 (lwm lwi_3 (lwm lwi_4 (lwm lwi_5 (lwm lwi_6 (lwm lwi_7 (lwm lwi_8 (lwm lwi_9 (lwm lwi_10 (lwm lwi_11 (lwm lwi_12 (lwm lwi_13 (lwm lwi_14 (lwm lwi_15 (lwm lwi_16 (lwm lwi_17 (lwm lwi_18 (lwm lwi_19 (lwm lwi_20 (lwm lwi_21 (lwm lwi_22 (lwm lwi_23 (lwm lwi_24 (lwm lwi_25 (lwm lwi_26 (lwm lwi_27 (lwm lwi_28 lwi_29)))))))))))))))))))))))))))) lwx_X6) lwx_X7) lwx_X4) lwx_X5) lwx_X3) lwx_X0) lwx_X1) lwx_X2) (fun _ h => nomatch h))
theorem wsL_law_in : ∀ w ∈ wsL_law, w ∈ lw_tbl := fun w h => (List.mem_append.mp h).elim (fun h => wsL_law_in0 w h) (fun h => wsL_law_x0 w h)
theorem inlX0 : ∀ w ∈ wsX00, w ∈ wsL_law := fun _ h => List.mem_append_left _ (List.mem_append_left _ (List.mem_append_left _ (List.mem_append_left _ (List.mem_append_right _ h))))
theorem inlX1 : ∀ w ∈ wsX10, w ∈ wsL_law := fun _ h => List.mem_append_left _ (List.mem_append_left _ (List.mem_append_left _ (List.mem_append_right _ h)))
theorem inlX2 : ∀ w ∈ wsX20, w ∈ wsL_law := fun _ h => List.mem_append_left _ (List.mem_append_left _ (List.mem_append_right _ h))
theorem inlX3 : ∀ w ∈ wsX30, w ∈ wsL_law := fun _ h => List.mem_append_left _ (List.mem_append_left _ (List.mem_append_left _ (List.mem_append_left _ (List.mem_append_left _ (List.mem_append_right _ h)))))
theorem inlX4 : ∀ w ∈ wsX40, w ∈ wsL_law := fun _ h => List.mem_append_left _ (List.mem_append_left _ (List.mem_append_left _ (List.mem_append_left _ (List.mem_append_left _ (List.mem_append_left _ (List.mem_append_left _ (List.mem_append_right _ h)))))))
theorem inlX5 : ∀ w ∈ wsX50, w ∈ wsL_law := fun _ h => List.mem_append_left _ (List.mem_append_left _ (List.mem_append_left _ (List.mem_append_left _ (List.mem_append_left _ (List.mem_append_left _ (List.mem_append_right _ h))))))
theorem inlX6 : ∀ w ∈ wsX60, w ∈ wsL_law := fun _ h => List.mem_append_left _ (List.mem_append_left _ (List.mem_append_left _ (List.mem_append_left _ (List.mem_append_left _ (List.mem_append_left _ (List.mem_append_left _ (List.mem_append_left _ (List.mem_append_left _ (List.mem_append_right _ h)))))))))
theorem inlX7 : ∀ w ∈ wsX70, w ∈ wsL_law := fun _ h => List.mem_append_left _ (List.mem_append_left _ (List.mem_append_left _ (List.mem_append_left _ (List.mem_append_left _ (List.mem_append_left _ (List.mem_append_left _ (List.mem_append_left _ (List.mem_append_right _ h))))))))
