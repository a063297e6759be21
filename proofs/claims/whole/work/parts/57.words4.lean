theorem lwx_X6 : ∀ w ∈ wsX60, w ∈ lw_tbl := by decide +kernel
theorem lwx_X7 : ∀ w ∈ wsX70, w ∈ lw_tbl := by decide +kernel
theorem lwx_X4 : ∀ w ∈ wsX40, w ∈ lw_tbl := by decide +kernel
theorem lwx_X5 : ∀ w ∈ wsX50, w ∈ lw_tbl := by decide +kernel
theorem lwx_X3 : ∀ w ∈ wsX30, w ∈ lw_tbl := by decide +kernel
theorem lwx_X0 : ∀ w ∈ wsX00, w ∈ lw_tbl := by decide +kernel
theorem lwx_X1 : ∀ w ∈ wsX10, w ∈ lw_tbl := by decide +kernel
theorem lwx_X2 : ∀ w ∈ wsX20, w ∈ lw_tbl := by decide +kernel
theorem lwm {α : Type} {a b : List α} {P : α → Prop} (h : ∀ w ∈ a, P w) (h2 : ∀ w ∈ b, P w) : ∀ w ∈ a ++ b, P w := fun w hw => (List.mem_append.mp hw).elim (h w) (h2 w)
theorem wsL_law_in0 : ∀ w ∈ wsL_law0, w ∈ lw_tbl := by
  unfold wsL_law0
  exact (lwm (lwm (lwm (lwm (lwm (lwm (lwm (lwm (lwm (lwm lwi_1 (lwm lwi_2 (lwm lwi_3 (lwm lwi_4 (lwm lwi_5 (lwm lwi_6 (lwm lwi_7 (lwm lwi_8 (lwm lwi_9 (lwm lwi_10 (lwm lwi_11 (lwm lwi_12 (lwm lwi_13 (lwm lwi_14 (lwm lwi_15 (lwm lwi_16 (lwm lwi_17 (lwm lwi_18 (lwm lwi_19 (lwm lwi_20 (lwm lwi_21 (lwm lwi_22 (lwm lwi_23 (lwm lwi_24 (lwm lwi_25 (lwm lwi_26 (lwm lwi_27 (lwm lwi_28 lwi_29)))))))))))))))))))))))))))) lwx_X6) lwx_X7) lwx_X4) lwx_X5) lwx_X3) lwx_X0) lwx_X1) lwx_X2) (fun _ h => nomatch h))
def wsL_lawB : List Cond := wsL_law.filter noBad ++ exN
theorem lw_x0 : ∀ w ∈ ((vx_atS RX6 155 "java/util/NoSuchElementException" ["java/lang/RuntimeException", "java/lang/Exception"]).filter goodWord).filter noBad, w ∈ lw_tbl := by decide +kernel
theorem lw_x1 : ∀ w ∈ exN, w ∈ lw_tbl := by decide +kernel
theorem wsL_lawB_in : ∀ w ∈ wsL_lawB, w ∈ lw_tbl := fun w h => by
  rcases List.mem_append.mp h with h | h
  · obtain ⟨h1, h2⟩ := List.mem_filter.mp h
    rcases List.mem_append.mp h1 with h3 | h3
    · exact wsL_law_in0 w h3
    · exact lw_x0 w (List.mem_filter.mpr ⟨h3, h2⟩)
  · exact lw_x1 w h
theorem inlB {w : Cond} (h : w ∈ wsL_law) (hn : noBad w = true) : w ∈ wsL_lawB := List.mem_append_left _ (List.mem_filter.mpr ⟨h, hn⟩)
theorem noX7 : ∀ w ∈ wsX70, noBad w = true := by decide +kernel
theorem inlX6 : ∀ w ∈ wsX60, w ∈ wsL_law := fun _ h => List.mem_append_left _ (List.mem_append_left _ (List.mem_append_left _ (List.mem_append_left _ (List.mem_append_left _ (List.mem_append_left _ (List.mem_append_left _ (List.mem_append_left _ (List.mem_append_left _ (List.mem_append_right _ h)))))))))
theorem inlX7 : ∀ w ∈ wsX70, w ∈ wsL_law := fun _ h => List.mem_append_left _ (List.mem_append_left _ (List.mem_append_left _ (List.mem_append_left _ (List.mem_append_left _ (List.mem_append_left _ (List.mem_append_left _ (List.mem_append_left _ (List.mem_append_right _ h))))))))
theorem gB_X6_init : GoodIn wsL_lawB (wsX6_init) := good_up2 gL_law_X6_init (by decide +kernel)
theorem gB_X7_init : GoodIn wsL_lawB (wsX7_init) := good_up2 gL_law_X7_init (by decide +kernel)
theorem gB_X6_frame : GoodIn wsL_lawB (wsV RL 19 RX6 yX6_frame wsX6_frame) := good_up2 gL_law_X6_frame (by decide +kernel)
theorem gB_X7_frame : GoodIn wsL_lawB (wsV RL 23 RX7 yX7_frame wsX7_frame) := good_up2 gL_law_X7_frame (by decide +kernel)
theorem gB_X6_version : GoodIn wsL_lawB (wsV RL 24 RX6 yX6_version wsX6_version) := good_up2 gL_law_X6_version (by decide +kernel)
theorem gB_X7_version : GoodIn wsL_lawB (wsV RL 27 RX7 yX7_version wsX7_version) := good_up2 gL_law_X7_version (by decide +kernel)
theorem gB_X6_report : GoodIn wsL_lawB (wsV RL 28 RX6 yX6_report wsX6_report) := good_up2 gL_law_X6_report (by decide +kernel)
theorem gB_X7_report : GoodIn wsL_lawB (wsV RL 31 RX7 yX7_report wsX7_report) := good_up2 gL_law_X7_report (by decide +kernel)
theorem gB_X6_pair : GoodIn wsL_lawB (wsV RL 32 RX6 yX6_pair wsX6_pair) := good_up2 gL_law_X6_pair (by decide +kernel)
theorem gB_X7_pair : GoodIn wsL_lawB (wsV RL 36 RX7 yX7_pair wsX7_pair) := good_up2 gL_law_X7_pair (by decide +kernel)
theorem gB_X6_free : GoodIn wsL_lawB (wsV RL 37 RX6 yX6_free wsX6_free) := good_up2 gL_law_X6_free (by decide +kernel)
theorem gB_X7_free : GoodIn wsL_lawB (wsV RL 41 RX7 yX7_free wsX7_free) := good_up2 gL_law_X7_free (by decide +kernel)
theorem gB_X6_mark : GoodIn wsL_lawB (wsV RL 42 RX6 yX6_mark wsX6_mark) := good_up2 gL_law_X6_mark (by decide +kernel)
theorem gB_X7_mark : GoodIn wsL_lawB (wsV RL 46 RX7 yX7_mark wsX7_mark) := good_up2 gL_law_X7_mark (by decide +kernel)
theorem gB_X6_resettle : GoodIn wsL_lawB (wsV RL 47 RX6 yX6_resettle wsX6_resettle) := good_up2 gL_law_X6_resettle (by decide +kernel)
theorem gB_X7_resettle : GoodIn wsL_lawB (wsV RL 51 RX7 yX7_resettle wsX7_resettle) := good_up2 gL_law_X7_resettle (by decide +kernel)
theorem gB_X6_distance : GoodIn wsL_lawB (wsV RL 52 RX6 yX6_distance wsX6_distance) := good_up2 gL_law_X6_distance (by decide +kernel)
theorem gB_X7_distance : GoodIn wsL_lawB (wsV RL 55 RX7 yX7_distance wsX7_distance) := good_up2 gL_law_X7_distance (by decide +kernel)
theorem gB_X6_heap : GoodIn wsL_lawB (wsV RL 56 RX6 yX6_heap wsX6_heap) := good_up2 gL_law_X6_heap (by decide +kernel)
theorem gB_X7_heap : GoodIn wsL_lawB (wsV RL 59 RX7 yX7_heap wsX7_heap) := good_up2 gL_law_X7_heap (by decide +kernel)
theorem gB_X6_cost : GoodIn wsL_lawB (wsV RL 60 RX6 yX6_cost wsX6_cost) := good_up2 gL_law_X6_cost (by decide +kernel)
theorem gB_X7_cost : GoodIn wsL_lawB (wsV RL 63 RX7 yX7_cost wsX7_cost) := good_up2 gL_law_X7_cost (by decide +kernel)
theorem gB_X6_row : GoodIn wsL_lawB (wsV RL 64 RX6 yX6_row wsX6_row) := good_up2 gL_law_X6_row (by decide +kernel)
theorem gB_X7_row : GoodIn wsL_lawB (wsV RL 67 RX7 yX7_row wsX7_row) := good_up2 gL_law_X7_row (by decide +kernel)
theorem gB_X6_common : GoodIn wsL_lawB (wsV RL 68 RX6 yX6_common wsX6_common) := good_up2 gL_law_X6_common (by decide +kernel)
theorem gB_X7_common : GoodIn wsL_lawB (wsV RL 71 RX7 yX7_common wsX7_common) := good_up2 gL_law_X7_common (by decide +kernel)
theorem gB_X6_sign : GoodIn wsL_lawB (wsV RL 72 RX6 yX6_sign wsX6_sign) := good_up2 gL_law_X6_sign (by decide +kernel)
theorem gB_X7_sign : GoodIn wsL_lawB (wsV RL 75 RX7 yX7_sign wsX7_sign) := good_up2 gL_law_X7_sign (by decide +kernel)
theorem gB_X6_signed : GoodIn wsL_lawB (wsV RL 76 RX6 yX6_signed wsX6_signed) := good_up2 gL_law_X6_signed (by decide +kernel)
theorem gB_X7_signed : GoodIn wsL_lawB (wsV RL 79 RX7 yX7_signed wsX7_signed) := good_up2 gL_law_X7_signed (by decide +kernel)
theorem gB_X6_fix : GoodIn wsL_lawB (wsV RL 80 RX6 yX6_fix wsX6_fix) := good_up2 gL_law_X6_fix (by decide +kernel)
theorem gB_X7_fix : GoodIn wsL_lawB (wsV RL 83 RX7 yX7_fix wsX7_fix) := good_up2 gL_law_X7_fix (by decide +kernel)
theorem gB_X7_look : GoodIn wsL_lawB (wsV RL 89 RX7 yX7_look wsX7_look) := good_up2 gL_law_X7_look (by decide +kernel)
theorem gB_X7_thrown : GoodIn wsL_lawB (wsV RL 90 RX7 yX7_thrown wsX7_thrown) := good_up2 gL_law_X7_thrown (by decide +kernel)
theorem gB_X6_behind : GoodIn wsL_lawB (wsV RL 93 RX6 yX6_behind wsX6_behind) := good_up2 gL_law_X6_behind (by decide +kernel)
theorem gB_X7_behind : GoodIn wsL_lawB (wsV RL 96 RX7 yX7_behind wsX7_behind) := good_up2 gL_law_X7_behind (by decide +kernel)
theorem gB_X6_count : GoodIn wsL_lawB (wsV RL 97 RX6 yX6_count wsX6_count) := good_up2 gL_law_X6_count (by decide +kernel)
theorem gB_X7_count : GoodIn wsL_lawB (wsV RL 100 RX7 yX7_count wsX7_count) := good_up2 gL_law_X7_count (by decide +kernel)
theorem gB_L_look : GoodIn wsL_lawB (va_wsS RL 84 yL_look wsL_lookB) := goodIn_app (good_up2 (fun w h => gL_law_L_look w (List.mem_append_left _ h)) (by decide +kernel)) (good_cons (good_up2 (good_one ggL_law_L_look) (by decide +kernel)) (goodIn_app (good_fil2 ggL_law_L_look) (exN_ok (fun w h => List.mem_append_right _ h))))
