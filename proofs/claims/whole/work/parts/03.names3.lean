theorem dX6_row_24 : decode cX6_row 24 = .ok (.iconst (-1), 1) := by decide +kernel
theorem dX6_row_25 : decode cX6_row 25 = .ok (.ireturn, 1) := by decide +kernel
set_option maxRecDepth 20000 in
theorem ggX6_common_X3_isCommon : GoodIn wsX6_common wsX3_isCommon := goodIn_r _ [6, 7, 8, 9, 10, 11, 12, 13, 14, 15, 22, 23, 24, 25, 26, 27] (by decide +kernel) (by decide +kernel)
set_option maxRecDepth 20000 in
theorem gX6_common_X3_isCommon : GoodIn wsX6_common (wsV RX6 133 RX3 yX3_isCommon wsX3_isCommon) := goodIn_app (goodIn_of _ (by decide +kernel)) ggX6_common_X3_isCommon
theorem dX6_common_0 : decode cX6_common 0 = .ok (.aload_n 0, 1) := by decide +kernel
theorem dX6_common_1 : decode cX6_common 1 = .ok (.getfield 26, 3) := by decide +kernel
theorem dX6_common_4 : decode cX6_common 4 = .ok (.iload_n 1, 1) := by decide +kernel
theorem dX6_common_5 : decode cX6_common 5 = .ok (.invokevirtual 133, 3) := by decide +kernel
theorem dX6_common_8 : decode cX6_common 8 = .ok (.ifCond .eq 7, 3) := by decide +kernel
theorem dX6_common_11 : decode cX6_common 11 = .ok (.iconst 1, 1) := by decide +kernel
theorem dX6_common_12 : decode cX6_common 12 = .ok (.goto 4, 3) := by decide +kernel
theorem dX6_common_15 : decode cX6_common 15 = .ok (.iconst 0, 1) := by decide +kernel
theorem dX6_common_16 : decode cX6_common 16 = .ok (.ireturn, 1) := by decide +kernel
set_option maxRecDepth 20000 in
theorem ggX6_sign_X3_has : GoodIn wsX6_sign wsX3_has := goodIn_r _ [8, 9, 62, 63, 64, 65, 66, 67] (by decide +kernel) (by decide +kernel)
set_option maxRecDepth 20000 in
theorem gX6_sign_X3_has : GoodIn wsX6_sign (wsV RX6 111 RX3 yX3_has wsX3_has) := goodIn_app (goodIn_of _ (by decide +kernel)) ggX6_sign_X3_has
set_option maxRecDepth 20000 in
theorem ggX6_sign_X1_setBeside : GoodIn wsX6_sign wsX1_setBeside := goodIn_r _ [14, 15, 16, 17, 18, 13, 19, 20, 68, 69, 70, 71, 72, 73, 74, 75, 76, 77, 78, 79, 80, 81, 82] (by decide +kernel) (by decide +kernel)
set_option maxRecDepth 20000 in
theorem gX6_sign_X1_setBeside : GoodIn wsX6_sign (wsV RX6 136 RX1 yX1_setBeside wsX1_setBeside) := goodIn_app (goodIn_of _ (by decide +kernel)) ggX6_sign_X1_setBeside
set_option maxRecDepth 20000 in
theorem ggX6_sign_X2_tell : GoodIn wsX6_sign wsX2_tell := goodIn_r _ [25, 26, 27, 28, 29, 7, 30, 9, 31, 32, 33, 24, 34, 35, 36, 37, 38, 39, 40, 41, 42, 43, 44, 45, 46, 47, 48, 49, 50, 51, 52, 53, 54, 55, 83, 84, 85, 86, 87, 62, 63, 64, 65, 66, 67] (by decide +kernel) (by decide +kernel)
set_option maxRecDepth 20000 in
theorem gX6_sign_X2_tell : GoodIn wsX6_sign (wsV RX6 140 RX2 yX2_tell wsX2_tell) := goodIn_app (goodIn_of _ (by decide +kernel)) ggX6_sign_X2_tell
theorem dX6_sign_0 : decode cX6_sign 0 = .ok (.aload_n 0, 1) := by decide +kernel
theorem dX6_sign_1 : decode cX6_sign 1 = .ok (.getfield 26, 3) := by decide +kernel
theorem dX6_sign_4 : decode cX6_sign 4 = .ok (.iload_n 1, 1) := by decide +kernel
theorem dX6_sign_5 : decode cX6_sign 5 = .ok (.invokevirtual 111, 3) := by decide +kernel
theorem dX6_sign_8 : decode cX6_sign 8 = .ok (.ifCond .eq 25, 3) := by decide +kernel
theorem dX6_sign_11 : decode cX6_sign 11 = .ok (.aload_n 0, 1) := by decide +kernel
theorem dX6_sign_12 : decode cX6_sign 12 = .ok (.getfield 47, 3) := by decide +kernel
theorem dX6_sign_15 : decode cX6_sign 15 = .ok (.aload_n 0, 1) := by decide +kernel
theorem dX6_sign_16 : decode cX6_sign 16 = .ok (.getfield 26, 3) := by decide +kernel
theorem dX6_sign_19 : decode cX6_sign 19 = .ok (.aload_n 0, 1) := by decide +kernel
theorem dX6_sign_20 : decode cX6_sign 20 = .ok (.getfield 40, 3) := by decide +kernel
theorem dX6_sign_23 : decode cX6_sign 23 = .ok (.iload_n 1, 1) := by decide +kernel
theorem dX6_sign_24 : decode cX6_sign 24 = .ok (.invokevirtual 136, 3) := by decide +kernel
theorem dX6_sign_27 : decode cX6_sign 27 = .ok (.invokevirtual 140, 3) := by decide +kernel
theorem dX6_sign_30 : decode cX6_sign 30 = .ok (.goto 4, 3) := by decide +kernel
theorem dX6_sign_33 : decode cX6_sign 33 = .ok (.iconst (-1), 1) := by decide +kernel
theorem dX6_sign_34 : decode cX6_sign 34 = .ok (.ireturn, 1) := by decide +kernel
set_option maxRecDepth 20000 in
theorem ggX6_signed_X2_latestAt : GoodIn wsX6_signed wsX2_latestAt := goodIn_r _ [6, 7, 8, 15, 16, 17, 18, 19] (by decide +kernel) (by decide +kernel)
set_option maxRecDepth 20000 in
theorem gX6_signed_X2_latestAt : GoodIn wsX6_signed (wsV RX6 144 RX2 yX2_latestAt wsX2_latestAt) := goodIn_app (goodIn_of _ (by decide +kernel)) ggX6_signed_X2_latestAt
theorem dX6_signed_0 : decode cX6_signed 0 = .ok (.aload_n 0, 1) := by decide +kernel
theorem dX6_signed_1 : decode cX6_signed 1 = .ok (.getfield 47, 3) := by decide +kernel
theorem dX6_signed_4 : decode cX6_signed 4 = .ok (.iload_n 1, 1) := by decide +kernel
theorem dX6_signed_5 : decode cX6_signed 5 = .ok (.invokevirtual 144, 3) := by decide +kernel
theorem dX6_signed_8 : decode cX6_signed 8 = .ok (.ireturn, 1) := by decide +kernel
set_option maxRecDepth 20000 in
theorem ggX6_fix_X3_has : GoodIn wsX6_fix wsX3_has := goodIn_r _ [7, 8, 26, 27, 28, 29, 30, 31] (by decide +kernel) (by decide +kernel)
set_option maxRecDepth 20000 in
theorem gX6_fix_X3_has : GoodIn wsX6_fix (wsV RX6 111 RX3 yX3_has wsX3_has) := goodIn_app (goodIn_of _ (by decide +kernel)) ggX6_fix_X3_has
set_option maxRecDepth 20000 in
theorem ggX6_fix_X5_has : GoodIn wsX6_fix wsX5_has := goodIn_r _ [13, 14, 32, 33] (by decide +kernel) (by decide +kernel)
set_option maxRecDepth 20000 in
theorem gX6_fix_X5_has : GoodIn wsX6_fix (wsV RX6 62 RX5 yX5_has wsX5_has) := goodIn_app (goodIn_of _ (by decide +kernel)) ggX6_fix_X5_has
set_option maxRecDepth 20000 in
theorem ggX6_fix_X3_setFixedAt : GoodIn wsX6_fix wsX3_setFixedAt := goodIn_r _ [18, 19, 26, 27, 28, 29, 30, 31] (by decide +kernel) (by decide +kernel)
set_option maxRecDepth 20000 in
theorem gX6_fix_X3_setFixedAt : GoodIn wsX6_fix (wsV RX6 147 RX3 yX3_setFixedAt wsX3_setFixedAt) := goodIn_app (goodIn_of _ (by decide +kernel)) ggX6_fix_X3_setFixedAt
theorem dX6_fix_0 : decode cX6_fix 0 = .ok (.aload_n 0, 1) := by decide +kernel
theorem dX6_fix_1 : decode cX6_fix 1 = .ok (.getfield 26, 3) := by decide +kernel
theorem dX6_fix_4 : decode cX6_fix 4 = .ok (.iload_n 1, 1) := by decide +kernel
theorem dX6_fix_5 : decode cX6_fix 5 = .ok (.invokevirtual 111, 3) := by decide +kernel
theorem dX6_fix_8 : decode cX6_fix 8 = .ok (.ifCond .eq 14, 3) := by decide +kernel
theorem dX6_fix_11 : decode cX6_fix 11 = .ok (.aload_n 0, 1) := by decide +kernel
theorem dX6_fix_12 : decode cX6_fix 12 = .ok (.getfield 19, 3) := by decide +kernel
theorem dX6_fix_15 : decode cX6_fix 15 = .ok (.iload_n 2, 1) := by decide +kernel
theorem dX6_fix_16 : decode cX6_fix 16 = .ok (.invokevirtual 62, 3) := by decide +kernel
theorem dX6_fix_19 : decode cX6_fix 19 = .ok (.ifCond .ne 5, 3) := by decide +kernel
theorem dX6_fix_22 : decode cX6_fix 22 = .ok (.iconst 0, 1) := by decide +kernel
theorem dX6_fix_23 : decode cX6_fix 23 = .ok (.ireturn, 1) := by decide +kernel
theorem dX6_fix_24 : decode cX6_fix 24 = .ok (.aload_n 0, 1) := by decide +kernel
theorem dX6_fix_25 : decode cX6_fix 25 = .ok (.getfield 26, 3) := by decide +kernel
theorem dX6_fix_28 : decode cX6_fix 28 = .ok (.iload_n 1, 1) := by decide +kernel
theorem dX6_fix_29 : decode cX6_fix 29 = .ok (.iload_n 2, 1) := by decide +kernel
theorem dX6_fix_30 : decode cX6_fix 30 = .ok (.invokevirtual 147, 3) := by decide +kernel
theorem dX6_fix_33 : decode cX6_fix 33 = .ok (.iconst 1, 1) := by decide +kernel
theorem dX6_fix_34 : decode cX6_fix 34 = .ok (.ireturn, 1) := by decide +kernel
set_option maxRecDepth 20000 in
theorem ggX6_look_X3_has : GoodIn wsX6_look wsX3_has := goodIn_r _ [9, 10, 59, 60, 61, 62, 63, 64] (by decide +kernel) (by decide +kernel)
set_option maxRecDepth 20000 in
theorem gX6_look_X3_has : GoodIn wsX6_look (wsV RX6 111 RX3 yX3_has wsX3_has) := goodIn_app (goodIn_of _ (by decide +kernel)) ggX6_look_X3_has
set_option maxRecDepth 20000 in
theorem ggX6_look_X3_versionOf : GoodIn wsX6_look wsX3_versionOf := goodIn_r _ [14, 15, 59, 60, 61, 62, 63, 64] (by decide +kernel) (by decide +kernel)
set_option maxRecDepth 20000 in
theorem gX6_look_X3_versionOf : GoodIn wsX6_look (wsV RX6 158 RX3 yX3_versionOf wsX3_versionOf) := goodIn_app (goodIn_of _ (by decide +kernel)) ggX6_look_X3_versionOf
set_option maxRecDepth 20000 in
theorem ggX6_look_X3_lengthOf : GoodIn wsX6_look wsX3_lengthOf := goodIn_r _ [19, 20, 59, 60, 61, 62, 63, 64] (by decide +kernel) (by decide +kernel)
set_option maxRecDepth 20000 in
theorem gX6_look_X3_lengthOf : GoodIn wsX6_look (wsV RX6 161 RX3 yX3_lengthOf wsX3_lengthOf) := goodIn_app (goodIn_of _ (by decide +kernel)) ggX6_look_X3_lengthOf
set_option maxRecDepth 20000 in
theorem ggX6_look_X3_fixedAt : GoodIn wsX6_look wsX3_fixedAt := goodIn_r _ [24, 25, 59, 60, 61, 62, 63, 64] (by decide +kernel) (by decide +kernel)
set_option maxRecDepth 20000 in
theorem gX6_look_X3_fixedAt : GoodIn wsX6_look (wsV RX6 164 RX3 yX3_fixedAt wsX3_fixedAt) := goodIn_app (goodIn_of _ (by decide +kernel)) ggX6_look_X3_fixedAt
set_option maxRecDepth 20000 in
theorem ggX6_look_X6_cameBack : GoodIn wsX6_look wsX6_cameBack := goodIn_r _ [30, 3, 4, 31, 11, 12, 13, 8, 14, 15, 32, 33, 34, 35, 10, 21, 22, 23, 24, 25, 36, 37, 38, 39, 40, 41, 42, 43, 44, 45, 46, 47, 53, 54, 55, 56, 57, 58, 59, 60, 61, 62, 63, 64, 65, 66, 67, 68, 69, 70, 71, 72, 73, 74, 75, 76, 77, 78, 79, 80, 81] (by decide +kernel) (by decide +kernel)
set_option maxRecDepth 20000 in
theorem gX6_look_X6_cameBack : GoodIn wsX6_look (wsV RX6 167 RX6 yX6_cameBack wsX6_cameBack) := goodIn_app (goodIn_of _ (by decide +kernel)) ggX6_look_X6_cameBack
set_option maxRecDepth 20000 in
theorem ggX6_look_X1_sizeBeside : GoodIn wsX6_look wsX1_sizeBeside := goodIn_r _ [51, 52, 41, 65, 66, 67, 68, 69, 70, 71, 72, 73, 74, 75, 76, 77, 78, 79] (by decide +kernel) (by decide +kernel)
set_option maxRecDepth 20000 in
theorem gX6_look_X1_sizeBeside : GoodIn wsX6_look (wsV RX6 170 RX1 yX1_sizeBeside wsX1_sizeBeside) := goodIn_app (goodIn_of _ (by decide +kernel)) ggX6_look_X1_sizeBeside
theorem dX6_look_0 : decode cX6_look 0 = .ok (.aload_n 0, 1) := by decide +kernel
theorem dX6_look_1 : decode cX6_look 1 = .ok (.getfield 26, 3) := by decide +kernel
theorem dX6_look_4 : decode cX6_look 4 = .ok (.iload_n 1, 1) := by decide +kernel
theorem dX6_look_5 : decode cX6_look 5 = .ok (.invokevirtual 111, 3) := by decide +kernel
theorem dX6_look_8 : decode cX6_look 8 = .ok (.ifCond .ne 13, 3) := by decide +kernel
theorem dX6_look_11 : decode cX6_look 11 = .ok (.new 151, 3) := by decide +kernel
theorem dX6_look_14 : decode cX6_look 14 = .ok (.dup, 1) := by decide +kernel
theorem dX6_look_15 : decode cX6_look 15 = .ok (.ldc 153, 2) := by decide +kernel
theorem dX6_look_17 : decode cX6_look 17 = .ok (.invokespecial 155, 3) := by decide +kernel
theorem dX6_look_20 : decode cX6_look 20 = .ok (.athrow, 1) := by decide +kernel
theorem dX6_look_21 : decode cX6_look 21 = .ok (.iload_n 2, 1) := by decide +kernel
theorem dX6_look_22 : decode cX6_look 22 = .ok (.tableswitch 84 0 4 #[34, 43, 52, 61, 75], 34) := by decide +kernel
theorem dX6_look_56 : decode cX6_look 56 = .ok (.aload_n 0, 1) := by decide +kernel
theorem dX6_look_57 : decode cX6_look 57 = .ok (.getfield 26, 3) := by decide +kernel
theorem dX6_look_60 : decode cX6_look 60 = .ok (.iload_n 1, 1) := by decide +kernel
theorem dX6_look_61 : decode cX6_look 61 = .ok (.invokevirtual 158, 3) := by decide +kernel
theorem dX6_look_64 : decode cX6_look 64 = .ok (.ireturn, 1) := by decide +kernel
theorem dX6_look_65 : decode cX6_look 65 = .ok (.aload_n 0, 1) := by decide +kernel
theorem dX6_look_66 : decode cX6_look 66 = .ok (.getfield 26, 3) := by decide +kernel
theorem dX6_look_69 : decode cX6_look 69 = .ok (.iload_n 1, 1) := by decide +kernel
theorem dX6_look_70 : decode cX6_look 70 = .ok (.invokevirtual 161, 3) := by decide +kernel
theorem dX6_look_73 : decode cX6_look 73 = .ok (.ireturn, 1) := by decide +kernel
theorem dX6_look_74 : decode cX6_look 74 = .ok (.aload_n 0, 1) := by decide +kernel
theorem dX6_look_75 : decode cX6_look 75 = .ok (.getfield 26, 3) := by decide +kernel
theorem dX6_look_78 : decode cX6_look 78 = .ok (.iload_n 1, 1) := by decide +kernel
theorem dX6_look_79 : decode cX6_look 79 = .ok (.invokevirtual 164, 3) := by decide +kernel
theorem dX6_look_82 : decode cX6_look 82 = .ok (.ireturn, 1) := by decide +kernel
theorem dX6_look_83 : decode cX6_look 83 = .ok (.aload_n 0, 1) := by decide +kernel
theorem dX6_look_84 : decode cX6_look 84 = .ok (.iload_n 1, 1) := by decide +kernel
theorem dX6_look_85 : decode cX6_look 85 = .ok (.invokevirtual 167, 3) := by decide +kernel
theorem dX6_look_88 : decode cX6_look 88 = .ok (.ifCond .eq 7, 3) := by decide +kernel
theorem dX6_look_91 : decode cX6_look 91 = .ok (.iconst 1, 1) := by decide +kernel
theorem dX6_look_92 : decode cX6_look 92 = .ok (.goto 4, 3) := by decide +kernel
theorem dX6_look_95 : decode cX6_look 95 = .ok (.iconst 0, 1) := by decide +kernel
theorem dX6_look_96 : decode cX6_look 96 = .ok (.ireturn, 1) := by decide +kernel
theorem dX6_look_97 : decode cX6_look 97 = .ok (.aload_n 0, 1) := by decide +kernel
theorem dX6_look_98 : decode cX6_look 98 = .ok (.getfield 40, 3) := by decide +kernel
theorem dX6_look_101 : decode cX6_look 101 = .ok (.iload_n 1, 1) := by decide +kernel
theorem dX6_look_102 : decode cX6_look 102 = .ok (.invokevirtual 170, 3) := by decide +kernel
theorem dX6_look_105 : decode cX6_look 105 = .ok (.ireturn, 1) := by decide +kernel
theorem dX6_look_106 : decode cX6_look 106 = .ok (.new 151, 3) := by decide +kernel
theorem dX6_look_109 : decode cX6_look 109 = .ok (.dup, 1) := by decide +kernel
theorem dX6_look_110 : decode cX6_look 110 = .ok (.ldc 173, 2) := by decide +kernel
theorem dX6_look_112 : decode cX6_look 112 = .ok (.invokespecial 155, 3) := by decide +kernel
theorem dX6_look_115 : decode cX6_look 115 = .ok (.athrow, 1) := by decide +kernel
set_option maxRecDepth 20000 in
theorem ggX6_behind_X5_has : GoodIn wsX6_behind wsX5_has := goodIn_r _ [6, 7, 19, 20] (by decide +kernel) (by decide +kernel)
set_option maxRecDepth 20000 in
theorem gX6_behind_X5_has : GoodIn wsX6_behind (wsV RX6 62 RX5 yX5_has wsX5_has) := goodIn_app (goodIn_of _ (by decide +kernel)) ggX6_behind_X5_has
set_option maxRecDepth 20000 in
theorem ggX6_behind_X5_isOrIsBehind : GoodIn wsX6_behind wsX5_isOrIsBehind := goodIn_r _ [11, 12, 19, 20] (by decide +kernel) (by decide +kernel)
set_option maxRecDepth 20000 in
theorem gX6_behind_X5_isOrIsBehind : GoodIn wsX6_behind (wsV RX6 175 RX5 yX5_isOrIsBehind wsX5_isOrIsBehind) := goodIn_app (goodIn_of _ (by decide +kernel)) ggX6_behind_X5_isOrIsBehind
theorem dX6_behind_0 : decode cX6_behind 0 = .ok (.aload_n 0, 1) := by decide +kernel
theorem dX6_behind_1 : decode cX6_behind 1 = .ok (.getfield 19, 3) := by decide +kernel
theorem dX6_behind_4 : decode cX6_behind 4 = .ok (.iload_n 1, 1) := by decide +kernel
theorem dX6_behind_5 : decode cX6_behind 5 = .ok (.invokevirtual 62, 3) := by decide +kernel
theorem dX6_behind_8 : decode cX6_behind 8 = .ok (.ifCond .eq 14, 3) := by decide +kernel
theorem dX6_behind_11 : decode cX6_behind 11 = .ok (.aload_n 0, 1) := by decide +kernel
theorem dX6_behind_12 : decode cX6_behind 12 = .ok (.getfield 19, 3) := by decide +kernel
theorem dX6_behind_15 : decode cX6_behind 15 = .ok (.iload_n 2, 1) := by decide +kernel
theorem dX6_behind_16 : decode cX6_behind 16 = .ok (.invokevirtual 62, 3) := by decide +kernel
theorem dX6_behind_19 : decode cX6_behind 19 = .ok (.ifCond .ne 5, 3) := by decide +kernel
theorem dX6_behind_22 : decode cX6_behind 22 = .ok (.iconst (-1), 1) := by decide +kernel
theorem dX6_behind_23 : decode cX6_behind 23 = .ok (.ireturn, 1) := by decide +kernel
theorem dX6_behind_24 : decode cX6_behind 24 = .ok (.aload_n 0, 1) := by decide +kernel
theorem dX6_behind_25 : decode cX6_behind 25 = .ok (.getfield 19, 3) := by decide +kernel
theorem dX6_behind_28 : decode cX6_behind 28 = .ok (.iload_n 1, 1) := by decide +kernel
theorem dX6_behind_29 : decode cX6_behind 29 = .ok (.iload_n 2, 1) := by decide +kernel
theorem dX6_behind_30 : decode cX6_behind 30 = .ok (.invokevirtual 175, 3) := by decide +kernel
theorem dX6_behind_33 : decode cX6_behind 33 = .ok (.ifCond .eq 7, 3) := by decide +kernel
theorem dX6_behind_36 : decode cX6_behind 36 = .ok (.iconst 1, 1) := by decide +kernel
theorem dX6_behind_37 : decode cX6_behind 37 = .ok (.goto 4, 3) := by decide +kernel
theorem dX6_behind_40 : decode cX6_behind 40 = .ok (.iconst 0, 1) := by decide +kernel
theorem dX6_behind_41 : decode cX6_behind 41 = .ok (.ireturn, 1) := by decide +kernel
set_option maxRecDepth 20000 in
theorem ggX6_count_X3_howMany : GoodIn wsX6_count wsX3_howMany := goodIn_r _ [9, 10, 90, 91, 92, 93, 94, 95] (by decide +kernel) (by decide +kernel)
set_option maxRecDepth 20000 in
theorem gX6_count_X3_howMany : GoodIn wsX6_count (wsV RX6 178 RX3 yX3_howMany wsX3_howMany) := goodIn_app (goodIn_of _ (by decide +kernel)) ggX6_count_X3_howMany
set_option maxRecDepth 20000 in
theorem ggX6_count_X1_howMany : GoodIn wsX6_count wsX1_howMany := goodIn_r _ [15, 16, 96, 97, 98, 99, 100, 101, 102, 103, 104, 105, 106, 107, 108, 109, 110] (by decide +kernel) (by decide +kernel)
set_option maxRecDepth 20000 in
theorem gX6_count_X1_howMany : GoodIn wsX6_count (wsV RX6 107 RX1 yX1_howMany wsX1_howMany) := goodIn_app (goodIn_of _ (by decide +kernel)) ggX6_count_X1_howMany
set_option maxRecDepth 20000 in
theorem ggX6_count_X5_howMany : GoodIn wsX6_count wsX5_howMany := goodIn_r _ [21, 22, 111, 112] (by decide +kernel) (by decide +kernel)
set_option maxRecDepth 20000 in
theorem gX6_count_X5_howMany : GoodIn wsX6_count (wsV RX6 179 RX5 yX5_howMany wsX5_howMany) := goodIn_app (goodIn_of _ (by decide +kernel)) ggX6_count_X5_howMany
set_option maxRecDepth 20000 in
theorem ggX6_count_X1_getT : GoodIn wsX6_count wsX1_getT := goodIn_r _ [26, 27, 96, 97, 98, 99, 100, 101, 102, 103, 104, 105, 106, 107, 108, 109, 110] (by decide +kernel) (by decide +kernel)
set_option maxRecDepth 20000 in
theorem gX6_count_X1_getT : GoodIn wsX6_count (wsV RX6 180 RX1 yX1_getT wsX1_getT) := goodIn_app (goodIn_of _ (by decide +kernel)) ggX6_count_X1_getT
set_option maxRecDepth 20000 in
theorem ggX6_count_X4_howMany : GoodIn wsX6_count wsX4_howMany := goodIn_r _ [32, 33, 113, 114] (by decide +kernel) (by decide +kernel)
set_option maxRecDepth 20000 in
theorem gX6_count_X4_howMany : GoodIn wsX6_count (wsV RX6 183 RX4 yX4_howMany wsX4_howMany) := goodIn_app (goodIn_of _ (by decide +kernel)) ggX6_count_X4_howMany
set_option maxRecDepth 20000 in
theorem ggX6_count_X3_howManyCommon : GoodIn wsX6_count wsX3_howManyCommon := goodIn_r _ [37, 38, 39, 40, 8, 41, 10, 42, 43, 44, 45, 46, 47, 48, 49, 90, 91, 92, 93, 94, 95] (by decide +kernel) (by decide +kernel)
set_option maxRecDepth 20000 in
theorem gX6_count_X3_howManyCommon : GoodIn wsX6_count (wsV RX6 184 RX3 yX3_howManyCommon wsX3_howManyCommon) := goodIn_app (goodIn_of _ (by decide +kernel)) ggX6_count_X3_howManyCommon
set_option maxRecDepth 20000 in
theorem ggX6_count_X1_changesDone : GoodIn wsX6_count wsX1_changesDone := goodIn_r _ [53, 54, 96, 97, 98, 99, 100, 101, 102, 103, 104, 105, 106, 107, 108, 109, 110] (by decide +kernel) (by decide +kernel)
set_option maxRecDepth 20000 in
theorem gX6_count_X1_changesDone : GoodIn wsX6_count (wsV RX6 187 RX1 yX1_changesDone wsX1_changesDone) := goodIn_app (goodIn_of _ (by decide +kernel)) ggX6_count_X1_changesDone
set_option maxRecDepth 20000 in
theorem ggX6_count_X6_howManyCameBack : GoodIn wsX6_count wsX6_howManyCameBack := goodIn_r _ [59, 1, 5, 6, 7, 8, 9, 10, 60, 61, 62, 58, 63, 2, 3, 64, 65, 66, 67, 68, 69, 70, 71, 72, 73, 74, 75, 76, 14, 77, 78, 79, 80, 81, 20, 82, 83, 84, 85, 86, 87, 88, 89, 90, 91, 92, 93, 94, 95, 96, 97, 98, 99, 100, 101, 102, 103, 104, 105, 106, 107, 108, 109, 110, 111, 112] (by decide +kernel) (by decide +kernel)
set_option maxRecDepth 20000 in
theorem gX6_count_X6_howManyCameBack : GoodIn wsX6_count (wsV RX6 190 RX6 yX6_howManyCameBack wsX6_howManyCameBack) := goodIn_app (goodIn_of _ (by decide +kernel)) ggX6_count_X6_howManyCameBack
theorem dX6_count_0 : decode cX6_count 0 = .ok (.iload_n 1, 1) := by decide +kernel
theorem dX6_count_1 : decode cX6_count 1 = .ok (.tableswitch 108 0 7 #[47, 55, 63, 71, 79, 87, 95, 103], 47) := by decide +kernel
theorem dX6_count_48 : decode cX6_count 48 = .ok (.aload_n 0, 1) := by decide +kernel
theorem dX6_count_49 : decode cX6_count 49 = .ok (.getfield 26, 3) := by decide +kernel
theorem dX6_count_52 : decode cX6_count 52 = .ok (.invokevirtual 178, 3) := by decide +kernel
theorem dX6_count_55 : decode cX6_count 55 = .ok (.ireturn, 1) := by decide +kernel
theorem dX6_count_56 : decode cX6_count 56 = .ok (.aload_n 0, 1) := by decide +kernel
theorem dX6_count_57 : decode cX6_count 57 = .ok (.getfield 40, 3) := by decide +kernel
theorem dX6_count_60 : decode cX6_count 60 = .ok (.invokevirtual 107, 3) := by decide +kernel
theorem dX6_count_63 : decode cX6_count 63 = .ok (.ireturn, 1) := by decide +kernel
theorem dX6_count_64 : decode cX6_count 64 = .ok (.aload_n 0, 1) := by decide +kernel
theorem dX6_count_65 : decode cX6_count 65 = .ok (.getfield 19, 3) := by decide +kernel
theorem dX6_count_68 : decode cX6_count 68 = .ok (.invokevirtual 179, 3) := by decide +kernel
theorem dX6_count_71 : decode cX6_count 71 = .ok (.ireturn, 1) := by decide +kernel
theorem dX6_count_72 : decode cX6_count 72 = .ok (.aload_n 0, 1) := by decide +kernel
theorem dX6_count_73 : decode cX6_count 73 = .ok (.getfield 40, 3) := by decide +kernel
theorem dX6_count_76 : decode cX6_count 76 = .ok (.invokevirtual 180, 3) := by decide +kernel
theorem dX6_count_79 : decode cX6_count 79 = .ok (.ireturn, 1) := by decide +kernel
theorem dX6_count_80 : decode cX6_count 80 = .ok (.aload_n 0, 1) := by decide +kernel
theorem dX6_count_81 : decode cX6_count 81 = .ok (.getfield 10, 3) := by decide +kernel
theorem dX6_count_84 : decode cX6_count 84 = .ok (.invokevirtual 183, 3) := by decide +kernel
theorem dX6_count_87 : decode cX6_count 87 = .ok (.ireturn, 1) := by decide +kernel
theorem dX6_count_88 : decode cX6_count 88 = .ok (.aload_n 0, 1) := by decide +kernel
theorem dX6_count_89 : decode cX6_count 89 = .ok (.getfield 26, 3) := by decide +kernel
theorem dX6_count_92 : decode cX6_count 92 = .ok (.invokevirtual 184, 3) := by decide +kernel
theorem dX6_count_95 : decode cX6_count 95 = .ok (.ireturn, 1) := by decide +kernel
theorem dX6_count_96 : decode cX6_count 96 = .ok (.aload_n 0, 1) := by decide +kernel
theorem dX6_count_97 : decode cX6_count 97 = .ok (.getfield 40, 3) := by decide +kernel
theorem dX6_count_100 : decode cX6_count 100 = .ok (.invokevirtual 187, 3) := by decide +kernel
theorem dX6_count_103 : decode cX6_count 103 = .ok (.ireturn, 1) := by decide +kernel
theorem dX6_count_104 : decode cX6_count 104 = .ok (.aload_n 0, 1) := by decide +kernel
theorem dX6_count_105 : decode cX6_count 105 = .ok (.invokevirtual 190, 3) := by decide +kernel
theorem dX6_count_108 : decode cX6_count 108 = .ok (.ireturn, 1) := by decide +kernel
theorem dX6_count_109 : decode cX6_count 109 = .ok (.iconst (-1), 1) := by decide +kernel
theorem dX6_count_110 : decode cX6_count 110 = .ok (.ireturn, 1) := by decide +kernel
set_option maxRecDepth 20000 in
theorem ggX6_cameBack_X3_versionOf : GoodIn wsX6_cameBack wsX3_versionOf := goodIn_r _ [8, 9, 38, 39, 40, 41, 42, 43] (by decide +kernel) (by decide +kernel)
set_option maxRecDepth 20000 in
theorem gX6_cameBack_X3_versionOf : GoodIn wsX6_cameBack (wsV RX6 158 RX3 yX3_versionOf wsX3_versionOf) := goodIn_app (goodIn_of _ (by decide +kernel)) ggX6_cameBack_X3_versionOf
set_option maxRecDepth 20000 in
theorem ggX6_cameBack_X3_howMany : GoodIn wsX6_cameBack wsX3_howMany := goodIn_r _ [13, 14, 38, 39, 40, 41, 42, 43] (by decide +kernel) (by decide +kernel)
set_option maxRecDepth 20000 in
theorem gX6_cameBack_X3_howMany : GoodIn wsX6_cameBack (wsV RX6 178 RX3 yX3_howMany wsX3_howMany) := goodIn_app (goodIn_of _ (by decide +kernel)) ggX6_cameBack_X3_howMany
set_option maxRecDepth 20000 in
theorem ggX6_cameBack_X3_fixedAt : GoodIn wsX6_cameBack wsX3_fixedAt := goodIn_r _ [18, 19, 38, 39, 40, 41, 42, 43] (by decide +kernel) (by decide +kernel)
set_option maxRecDepth 20000 in
theorem gX6_cameBack_X3_fixedAt : GoodIn wsX6_cameBack (wsV RX6 164 RX3 yX3_fixedAt wsX3_fixedAt) := goodIn_app (goodIn_of _ (by decide +kernel)) ggX6_cameBack_X3_fixedAt
set_option maxRecDepth 20000 in
theorem ggX6_cameBack_X1_areTogether : GoodIn wsX6_cameBack wsX1_areTogether := goodIn_r _ [24, 25, 44, 45, 46, 47, 48, 49, 50, 51, 52, 53, 54, 55, 56, 57, 58] (by decide +kernel) (by decide +kernel)
set_option maxRecDepth 20000 in
theorem gX6_cameBack_X1_areTogether : GoodIn wsX6_cameBack (wsV RX6 193 RX1 yX1_areTogether wsX1_areTogether) := goodIn_app (goodIn_of _ (by decide +kernel)) ggX6_cameBack_X1_areTogether
set_option maxRecDepth 20000 in
theorem ggX6_cameBack_X5_isOrIsBehind : GoodIn wsX6_cameBack wsX5_isOrIsBehind := goodIn_r _ [30, 31, 59, 60] (by decide +kernel) (by decide +kernel)
set_option maxRecDepth 20000 in
theorem gX6_cameBack_X5_isOrIsBehind : GoodIn wsX6_cameBack (wsV RX6 175 RX5 yX5_isOrIsBehind wsX5_isOrIsBehind) := goodIn_app (goodIn_of _ (by decide +kernel)) ggX6_cameBack_X5_isOrIsBehind
theorem dX6_cameBack_0 : decode cX6_cameBack 0 = .ok (.aload_n 0, 1) := by decide +kernel
theorem dX6_cameBack_1 : decode cX6_cameBack 1 = .ok (.getfield 26, 3) := by decide +kernel
theorem dX6_cameBack_4 : decode cX6_cameBack 4 = .ok (.iload_n 1, 1) := by decide +kernel
theorem dX6_cameBack_5 : decode cX6_cameBack 5 = .ok (.invokevirtual 158, 3) := by decide +kernel
theorem dX6_cameBack_8 : decode cX6_cameBack 8 = .ok (.istore_n 2, 1) := by decide +kernel
theorem dX6_cameBack_9 : decode cX6_cameBack 9 = .ok (.iconst 0, 1) := by decide +kernel
theorem dX6_cameBack_10 : decode cX6_cameBack 10 = .ok (.istore_n 3, 1) := by decide +kernel
theorem dX6_cameBack_11 : decode cX6_cameBack 11 = .ok (.iload_n 3, 1) := by decide +kernel
theorem dX6_cameBack_12 : decode cX6_cameBack 12 = .ok (.aload_n 0, 1) := by decide +kernel
theorem dX6_cameBack_13 : decode cX6_cameBack 13 = .ok (.getfield 26, 3) := by decide +kernel
theorem dX6_cameBack_16 : decode cX6_cameBack 16 = .ok (.invokevirtual 178, 3) := by decide +kernel
theorem dX6_cameBack_19 : decode cX6_cameBack 19 = .ok (.if_icmp .ge 52, 3) := by decide +kernel
theorem dX6_cameBack_22 : decode cX6_cameBack 22 = .ok (.aload_n 0, 1) := by decide +kernel
theorem dX6_cameBack_23 : decode cX6_cameBack 23 = .ok (.getfield 26, 3) := by decide +kernel
theorem dX6_cameBack_26 : decode cX6_cameBack 26 = .ok (.iload_n 3, 1) := by decide +kernel
theorem dX6_cameBack_27 : decode cX6_cameBack 27 = .ok (.invokevirtual 164, 3) := by decide +kernel
theorem dX6_cameBack_30 : decode cX6_cameBack 30 = .ok (.istore 4, 2) := by decide +kernel
theorem dX6_cameBack_32 : decode cX6_cameBack 32 = .ok (.iload 4, 2) := by decide +kernel
theorem dX6_cameBack_34 : decode cX6_cameBack 34 = .ok (.iconst (-1), 1) := by decide +kernel
theorem dX6_cameBack_35 : decode cX6_cameBack 35 = .ok (.if_icmp .eq 30, 3) := by decide +kernel
theorem dX6_cameBack_38 : decode cX6_cameBack 38 = .ok (.aload_n 0, 1) := by decide +kernel
theorem dX6_cameBack_39 : decode cX6_cameBack 39 = .ok (.getfield 40, 3) := by decide +kernel
theorem dX6_cameBack_42 : decode cX6_cameBack 42 = .ok (.iload_n 1, 1) := by decide +kernel
theorem dX6_cameBack_43 : decode cX6_cameBack 43 = .ok (.iload_n 3, 1) := by decide +kernel
theorem dX6_cameBack_44 : decode cX6_cameBack 44 = .ok (.invokevirtual 193, 3) := by decide +kernel
theorem dX6_cameBack_47 : decode cX6_cameBack 47 = .ok (.ifCond .eq 18, 3) := by decide +kernel
theorem dX6_cameBack_50 : decode cX6_cameBack 50 = .ok (.aload_n 0, 1) := by decide +kernel
theorem dX6_cameBack_51 : decode cX6_cameBack 51 = .ok (.getfield 19, 3) := by decide +kernel
theorem dX6_cameBack_54 : decode cX6_cameBack 54 = .ok (.iload_n 2, 1) := by decide +kernel
theorem dX6_cameBack_55 : decode cX6_cameBack 55 = .ok (.iload 4, 2) := by decide +kernel
theorem dX6_cameBack_57 : decode cX6_cameBack 57 = .ok (.invokevirtual 175, 3) := by decide +kernel
theorem dX6_cameBack_60 : decode cX6_cameBack 60 = .ok (.ifCond .eq 5, 3) := by decide +kernel
theorem dX6_cameBack_63 : decode cX6_cameBack 63 = .ok (.iconst 1, 1) := by decide +kernel
theorem dX6_cameBack_64 : decode cX6_cameBack 64 = .ok (.ireturn, 1) := by decide +kernel
theorem dX6_cameBack_65 : decode cX6_cameBack 65 = .ok (.iinc 3 1, 3) := by decide +kernel
theorem dX6_cameBack_68 : decode cX6_cameBack 68 = .ok (.goto (-57), 3) := by decide +kernel
theorem dX6_cameBack_71 : decode cX6_cameBack 71 = .ok (.iconst 0, 1) := by decide +kernel
theorem dX6_cameBack_72 : decode cX6_cameBack 72 = .ok (.ireturn, 1) := by decide +kernel
set_option maxRecDepth 20000 in
theorem ggX6_howManyCameBack_X3_howMany : GoodIn wsX6_howManyCameBack wsX3_howMany := goodIn_r _ [6, 7, 43, 44, 45, 46, 47, 48] (by decide +kernel) (by decide +kernel)
set_option maxRecDepth 20000 in
theorem gX6_howManyCameBack_X3_howMany : GoodIn wsX6_howManyCameBack (wsV RX6 178 RX3 yX3_howMany wsX3_howMany) := goodIn_app (goodIn_of _ (by decide +kernel)) ggX6_howManyCameBack_X3_howMany
set_option maxRecDepth 20000 in
theorem ggX6_howManyCameBack_X6_cameBack : GoodIn wsX6_howManyCameBack wsX6_cameBack := goodIn_r _ [12, 1, 13, 14, 15, 16, 17, 5, 18, 19, 2, 3, 4, 6, 7, 20, 21, 22, 23, 24, 25, 26, 27, 28, 29, 30, 31, 32, 33, 34, 35, 36, 37, 38, 39, 40, 41, 42, 43, 44, 45, 46, 47, 48, 49, 50, 51, 52, 53, 54, 55, 56, 57, 58, 59, 60, 61, 62, 63, 64, 65] (by decide +kernel) (by decide +kernel)
set_option maxRecDepth 20000 in
theorem gX6_howManyCameBack_X6_cameBack : GoodIn wsX6_howManyCameBack (wsV RX6 167 RX6 yX6_cameBack wsX6_cameBack) := goodIn_app (goodIn_of _ (by decide +kernel)) ggX6_howManyCameBack_X6_cameBack
theorem dX6_howManyCameBack_0 : decode cX6_howManyCameBack 0 = .ok (.iconst 0, 1) := by decide +kernel
theorem dX6_howManyCameBack_1 : decode cX6_howManyCameBack 1 = .ok (.istore_n 1, 1) := by decide +kernel
theorem dX6_howManyCameBack_2 : decode cX6_howManyCameBack 2 = .ok (.iconst 0, 1) := by decide +kernel
theorem dX6_howManyCameBack_3 : decode cX6_howManyCameBack 3 = .ok (.istore_n 2, 1) := by decide +kernel
theorem dX6_howManyCameBack_4 : decode cX6_howManyCameBack 4 = .ok (.iload_n 2, 1) := by decide +kernel
theorem dX6_howManyCameBack_5 : decode cX6_howManyCameBack 5 = .ok (.aload_n 0, 1) := by decide +kernel
theorem dX6_howManyCameBack_6 : decode cX6_howManyCameBack 6 = .ok (.getfield 26, 3) := by decide +kernel
theorem dX6_howManyCameBack_9 : decode cX6_howManyCameBack 9 = .ok (.invokevirtual 178, 3) := by decide +kernel
theorem dX6_howManyCameBack_12 : decode cX6_howManyCameBack 12 = .ok (.if_icmp .ge 20, 3) := by decide +kernel
theorem dX6_howManyCameBack_15 : decode cX6_howManyCameBack 15 = .ok (.aload_n 0, 1) := by decide +kernel
theorem dX6_howManyCameBack_16 : decode cX6_howManyCameBack 16 = .ok (.iload_n 2, 1) := by decide +kernel
theorem dX6_howManyCameBack_17 : decode cX6_howManyCameBack 17 = .ok (.invokevirtual 167, 3) := by decide +kernel
theorem dX6_howManyCameBack_20 : decode cX6_howManyCameBack 20 = .ok (.ifCond .eq 6, 3) := by decide +kernel
theorem dX6_howManyCameBack_23 : decode cX6_howManyCameBack 23 = .ok (.iinc 1 1, 3) := by decide +kernel
theorem dX6_howManyCameBack_26 : decode cX6_howManyCameBack 26 = .ok (.iinc 2 1, 3) := by decide +kernel
theorem dX6_howManyCameBack_29 : decode cX6_howManyCameBack 29 = .ok (.goto (-25), 3) := by decide +kernel
theorem dX6_howManyCameBack_32 : decode cX6_howManyCameBack 32 = .ok (.iload_n 1, 1) := by decide +kernel
theorem dX6_howManyCameBack_33 : decode cX6_howManyCameBack 33 = .ok (.ireturn, 1) := by decide +kernel
theorem dX7_thrown_0 : decode cX7_thrown 0 = .ok (.aload_n 0, 1) := by decide +kernel
theorem dX7_thrown_1 : decode cX7_thrown 1 = .ok (.getfield 1, 3) := by decide +kernel
theorem dX7_thrown_4 : decode cX7_thrown 4 = .ok (.ireturn, 1) := by decide +kernel
theorem dX7_init_0 : decode cX7_init 0 = .ok (.aload_n 0, 1) := by decide +kernel
theorem dX7_init_1 : decode cX7_init 1 = .ok (.invokespecial 7, 3) := by decide +kernel
theorem dX7_init_4 : decode cX7_init 4 = .ok (.aload_n 0, 1) := by decide +kernel
theorem dX7_init_5 : decode cX7_init 5 = .ok (.iconst 1, 1) := by decide +kernel
theorem dX7_init_6 : decode cX7_init 6 = .ok (.putfield 13, 3) := by decide +kernel
theorem dX7_init_9 : decode cX7_init 9 = .ok (.aload_n 0, 1) := by decide +kernel
theorem dX7_init_10 : decode cX7_init 10 = .ok (.bipush 30, 2) := by decide +kernel
theorem dX7_init_12 : decode cX7_init 12 = .ok (.newarray .int, 2) := by decide +kernel
theorem dX7_init_14 : decode cX7_init 14 = .ok (.putfield 16, 3) := by decide +kernel
theorem dX7_init_17 : decode cX7_init 17 = .ok (.aload_n 0, 1) := by decide +kernel
theorem dX7_init_18 : decode cX7_init 18 = .ok (.bipush 12, 2) := by decide +kernel
theorem dX7_init_20 : decode cX7_init 20 = .ok (.newarray .int, 2) := by decide +kernel
theorem dX7_init_22 : decode cX7_init 22 = .ok (.putfield 20, 3) := by decide +kernel
theorem dX7_init_25 : decode cX7_init 25 = .ok (.aload_n 0, 1) := by decide +kernel
theorem dX7_init_26 : decode cX7_init 26 = .ok (.sipush 480, 3) := by decide +kernel
theorem dX7_init_29 : decode cX7_init 29 = .ok (.newarray .int, 2) := by decide +kernel
theorem dX7_init_31 : decode cX7_init 31 = .ok (.putfield 23, 3) := by decide +kernel
theorem dX7_init_34 : decode cX7_init 34 = .ok (.aload_n 0, 1) := by decide +kernel
theorem dX7_init_35 : decode cX7_init 35 = .ok (.bipush 40, 2) := by decide +kernel
theorem dX7_init_37 : decode cX7_init 37 = .ok (.newarray .int, 2) := by decide +kernel
theorem dX7_init_39 : decode cX7_init 39 = .ok (.putfield 26, 3) := by decide +kernel
theorem dX7_init_42 : decode cX7_init 42 = .ok (.aload_n 0, 1) := by decide +kernel
theorem dX7_init_43 : decode cX7_init 43 = .ok (.bipush 40, 2) := by decide +kernel
theorem dX7_init_45 : decode cX7_init 45 = .ok (.newarray .int, 2) := by decide +kernel
theorem dX7_init_47 : decode cX7_init 47 = .ok (.putfield 29, 3) := by decide +kernel
theorem dX7_init_50 : decode cX7_init 50 = .ok (.aload_n 0, 1) := by decide +kernel
theorem dX7_init_51 : decode cX7_init 51 = .ok (.bipush 40, 2) := by decide +kernel
theorem dX7_init_53 : decode cX7_init 53 = .ok (.newarray .int, 2) := by decide +kernel
theorem dX7_init_55 : decode cX7_init 55 = .ok (.putfield 32, 3) := by decide +kernel
theorem dX7_init_58 : decode cX7_init 58 = .ok (.aload_n 0, 1) := by decide +kernel
theorem dX7_init_59 : decode cX7_init 59 = .ok (.bipush 40, 2) := by decide +kernel
theorem dX7_init_61 : decode cX7_init 61 = .ok (.newarray .int, 2) := by decide +kernel
theorem dX7_init_63 : decode cX7_init 63 = .ok (.putfield 35, 3) := by decide +kernel
theorem dX7_init_66 : decode cX7_init 66 = .ok (.aload_n 0, 1) := by decide +kernel
theorem dX7_init_67 : decode cX7_init 67 = .ok (.bipush 12, 2) := by decide +kernel
theorem dX7_init_69 : decode cX7_init 69 = .ok (.newarray .int, 2) := by decide +kernel
theorem dX7_init_71 : decode cX7_init 71 = .ok (.putfield 38, 3) := by decide +kernel
theorem dX7_init_74 : decode cX7_init 74 = .ok (.aload_n 0, 1) := by decide +kernel
theorem dX7_init_75 : decode cX7_init 75 = .ok (.bipush 12, 2) := by decide +kernel
theorem dX7_init_77 : decode cX7_init 77 = .ok (.newarray .int, 2) := by decide +kernel
theorem dX7_init_79 : decode cX7_init 79 = .ok (.putfield 41, 3) := by decide +kernel
theorem dX7_init_82 : decode cX7_init 82 = .ok (.aload_n 0, 1) := by decide +kernel
theorem dX7_init_83 : decode cX7_init 83 = .ok (.sipush 169, 3) := by decide +kernel
theorem dX7_init_86 : decode cX7_init 86 = .ok (.newarray .int, 2) := by decide +kernel
theorem dX7_init_88 : decode cX7_init 88 = .ok (.putfield 44, 3) := by decide +kernel
theorem dX7_init_91 : decode cX7_init 91 = .ok (.aload_n 0, 1) := by decide +kernel
theorem dX7_init_92 : decode cX7_init 92 = .ok (.sipush 1600, 3) := by decide +kernel
theorem dX7_init_95 : decode cX7_init 95 = .ok (.newarray .int, 2) := by decide +kernel
theorem dX7_init_97 : decode cX7_init 97 = .ok (.putfield 47, 3) := by decide +kernel
theorem dX7_init_100 : decode cX7_init 100 = .ok (.aload_n 0, 1) := by decide +kernel
theorem dX7_init_101 : decode cX7_init 101 = .ok (.sipush 501, 3) := by decide +kernel
theorem dX7_init_104 : decode cX7_init 104 = .ok (.newarray .boolean, 2) := by decide +kernel
theorem dX7_init_106 : decode cX7_init 106 = .ok (.putfield 50, 3) := by decide +kernel
theorem dX7_init_109 : decode cX7_init 109 = .ok (.aload_n 0, 1) := by decide +kernel
theorem dX7_init_110 : decode cX7_init 110 = .ok (.bipush 6, 2) := by decide +kernel
theorem dX7_init_112 : decode cX7_init 112 = .ok (.putfield 54, 3) := by decide +kernel
theorem dX7_init_115 : decode cX7_init 115 = .ok (.aload_n 0, 1) := by decide +kernel
theorem dX7_init_116 : decode cX7_init 116 = .ok (.sipush 1600, 3) := by decide +kernel
theorem dX7_init_119 : decode cX7_init 119 = .ok (.newarray .int, 2) := by decide +kernel
theorem dX7_init_121 : decode cX7_init 121 = .ok (.putfield 57, 3) := by decide +kernel
theorem dX7_init_124 : decode cX7_init 124 = .ok (.aload_n 0, 1) := by decide +kernel
theorem dX7_init_125 : decode cX7_init 125 = .ok (.bipush 40, 2) := by decide +kernel
theorem dX7_init_127 : decode cX7_init 127 = .ok (.newarray .int, 2) := by decide +kernel
theorem dX7_init_129 : decode cX7_init 129 = .ok (.putfield 60, 3) := by decide +kernel
theorem dX7_init_132 : decode cX7_init 132 = .ok (.aload_n 0, 1) := by decide +kernel
theorem dX7_init_133 : decode cX7_init 133 = .ok (.iconst 3, 1) := by decide +kernel
theorem dX7_init_134 : decode cX7_init 134 = .ok (.newarray .int, 2) := by decide +kernel
theorem dX7_init_136 : decode cX7_init 136 = .ok (.putfield 63, 3) := by decide +kernel
theorem dX7_init_139 : decode cX7_init 139 = .ok (.aload_n 0, 1) := by decide +kernel
theorem dX7_init_140 : decode cX7_init 140 = .ok (.iconst 3, 1) := by decide +kernel
theorem dX7_init_141 : decode cX7_init 141 = .ok (.newarray .int, 2) := by decide +kernel
theorem dX7_init_143 : decode cX7_init 143 = .ok (.putfield 66, 3) := by decide +kernel
theorem dX7_init_146 : decode cX7_init 146 = .ok (.aload_n 0, 1) := by decide +kernel
theorem dX7_init_147 : decode cX7_init 147 = .ok (.bipush 12, 2) := by decide +kernel
theorem dX7_init_149 : decode cX7_init 149 = .ok (.newarray .int, 2) := by decide +kernel
theorem dX7_init_151 : decode cX7_init 151 = .ok (.putfield 69, 3) := by decide +kernel
theorem dX7_init_154 : decode cX7_init 154 = .ok (.aload_n 0, 1) := by decide +kernel
theorem dX7_init_155 : decode cX7_init 155 = .ok (.getfield 16, 3) := by decide +kernel
theorem dX7_init_158 : decode cX7_init 158 = .ok (.iconst 0, 1) := by decide +kernel
theorem dX7_init_159 : decode cX7_init 159 = .ok (.iconst (-1), 1) := by decide +kernel
theorem dX7_init_160 : decode cX7_init 160 = .ok (.iastore, 1) := by decide +kernel
theorem dX7_init_161 : decode cX7_init 161 = .ok (.return_, 1) := by decide +kernel
theorem dX7_isVersion_0 : decode cX7_isVersion 0 = .ok (.iload_n 1, 1) := by decide +kernel
theorem dX7_isVersion_1 : decode cX7_isVersion 1 = .ok (.ifCond .lt 15, 3) := by decide +kernel
theorem dX7_isVersion_4 : decode cX7_isVersion 4 = .ok (.iload_n 1, 1) := by decide +kernel
theorem dX7_isVersion_5 : decode cX7_isVersion 5 = .ok (.aload_n 0, 1) := by decide +kernel
theorem dX7_isVersion_6 : decode cX7_isVersion 6 = .ok (.getfield 13, 3) := by decide +kernel
theorem dX7_isVersion_9 : decode cX7_isVersion 9 = .ok (.if_icmp .ge 7, 3) := by decide +kernel
theorem dX7_isVersion_12 : decode cX7_isVersion 12 = .ok (.iconst 1, 1) := by decide +kernel
theorem dX7_isVersion_13 : decode cX7_isVersion 13 = .ok (.goto 4, 3) := by decide +kernel
theorem dX7_isVersion_16 : decode cX7_isVersion 16 = .ok (.iconst 0, 1) := by decide +kernel
theorem dX7_isVersion_17 : decode cX7_isVersion 17 = .ok (.ireturn, 1) := by decide +kernel
set_option maxRecDepth 20000 in
theorem ggX7_version_X7_isVersion : GoodIn wsX7_version wsX7_isVersion := goodIn_r _ [8, 2, 9, 10, 11, 12, 13, 14, 15, 16, 17, 18, 19, 20, 21, 22, 23, 24, 25, 26, 27, 28, 29, 30, 31, 32, 33, 34, 35, 36, 37, 38, 39] (by decide +kernel) (by decide +kernel)
set_option maxRecDepth 20000 in
theorem gX7_version_X7_isVersion : GoodIn wsX7_version (wsV RX7 72 RX7 yX7_isVersion wsX7_isVersion) := goodIn_app (goodIn_of _ (by decide +kernel)) ggX7_version_X7_isVersion
theorem dX7_version_0 : decode cX7_version 0 = .ok (.aload_n 0, 1) := by decide +kernel
theorem dX7_version_1 : decode cX7_version 1 = .ok (.iconst 0, 1) := by decide +kernel
theorem dX7_version_2 : decode cX7_version 2 = .ok (.putfield 1, 3) := by decide +kernel
theorem dX7_version_5 : decode cX7_version 5 = .ok (.aload_n 0, 1) := by decide +kernel
theorem dX7_version_6 : decode cX7_version 6 = .ok (.iload_n 1, 1) := by decide +kernel
theorem dX7_version_7 : decode cX7_version 7 = .ok (.invokevirtual 72, 3) := by decide +kernel
theorem dX7_version_10 : decode cX7_version 10 = .ok (.ifCond .eq 12, 3) := by decide +kernel
theorem dX7_version_13 : decode cX7_version 13 = .ok (.aload_n 0, 1) := by decide +kernel
theorem dX7_version_14 : decode cX7_version 14 = .ok (.getfield 13, 3) := by decide +kernel
theorem dX7_version_17 : decode cX7_version 17 = .ok (.bipush 30, 2) := by decide +kernel
theorem dX7_version_19 : decode cX7_version 19 = .ok (.if_icmp .ne 5, 3) := by decide +kernel
theorem dX7_version_22 : decode cX7_version 22 = .ok (.iconst (-1), 1) := by decide +kernel
theorem dX7_version_23 : decode cX7_version 23 = .ok (.ireturn, 1) := by decide +kernel
theorem dX7_version_24 : decode cX7_version 24 = .ok (.aload_n 0, 1) := by decide +kernel
theorem dX7_version_25 : decode cX7_version 25 = .ok (.getfield 16, 3) := by decide +kernel
theorem dX7_version_28 : decode cX7_version 28 = .ok (.aload_n 0, 1) := by decide +kernel
theorem dX7_version_29 : decode cX7_version 29 = .ok (.getfield 13, 3) := by decide +kernel
theorem dX7_version_32 : decode cX7_version 32 = .ok (.iload_n 1, 1) := by decide +kernel
theorem dX7_version_33 : decode cX7_version 33 = .ok (.iastore, 1) := by decide +kernel
theorem dX7_version_34 : decode cX7_version 34 = .ok (.aload_n 0, 1) := by decide +kernel
theorem dX7_version_35 : decode cX7_version 35 = .ok (.dup, 1) := by decide +kernel
theorem dX7_version_36 : decode cX7_version 36 = .ok (.getfield 13, 3) := by decide +kernel
theorem dX7_version_39 : decode cX7_version 39 = .ok (.iconst 1, 1) := by decide +kernel
theorem dX7_version_40 : decode cX7_version 40 = .ok (.iadd, 1) := by decide +kernel
theorem dX7_version_41 : decode cX7_version 41 = .ok (.putfield 13, 3) := by decide +kernel
theorem dX7_version_44 : decode cX7_version 44 = .ok (.aload_n 0, 1) := by decide +kernel
theorem dX7_version_45 : decode cX7_version 45 = .ok (.getfield 13, 3) := by decide +kernel
theorem dX7_version_48 : decode cX7_version 48 = .ok (.iconst 1, 1) := by decide +kernel
theorem dX7_version_49 : decode cX7_version 49 = .ok (.isub, 1) := by decide +kernel
theorem dX7_version_50 : decode cX7_version 50 = .ok (.ireturn, 1) := by decide +kernel
theorem dX7_isBehind_0 : decode cX7_isBehind 0 = .ok (.iload_n 1, 1) := by decide +kernel
theorem dX7_isBehind_1 : decode cX7_isBehind 1 = .ok (.istore_n 3, 1) := by decide +kernel
theorem dX7_isBehind_2 : decode cX7_isBehind 2 = .ok (.iload_n 3, 1) := by decide +kernel
theorem dX7_isBehind_3 : decode cX7_isBehind 3 = .ok (.ifCond .lt 18, 3) := by decide +kernel
theorem dX7_isBehind_6 : decode cX7_isBehind 6 = .ok (.iload_n 3, 1) := by decide +kernel
theorem dX7_isBehind_7 : decode cX7_isBehind 7 = .ok (.iload_n 2, 1) := by decide +kernel
theorem dX7_isBehind_8 : decode cX7_isBehind 8 = .ok (.if_icmp .eq 13, 3) := by decide +kernel
theorem dX7_isBehind_11 : decode cX7_isBehind 11 = .ok (.aload_n 0, 1) := by decide +kernel
theorem dX7_isBehind_12 : decode cX7_isBehind 12 = .ok (.getfield 16, 3) := by decide +kernel
theorem dX7_isBehind_15 : decode cX7_isBehind 15 = .ok (.iload_n 3, 1) := by decide +kernel
theorem dX7_isBehind_16 : decode cX7_isBehind 16 = .ok (.iaload, 1) := by decide +kernel
theorem dX7_isBehind_17 : decode cX7_isBehind 17 = .ok (.istore_n 3, 1) := by decide +kernel
theorem dX7_isBehind_18 : decode cX7_isBehind 18 = .ok (.goto (-16), 3) := by decide +kernel
theorem dX7_isBehind_21 : decode cX7_isBehind 21 = .ok (.iload_n 3, 1) := by decide +kernel
theorem dX7_isBehind_22 : decode cX7_isBehind 22 = .ok (.iload_n 2, 1) := by decide +kernel
theorem dX7_isBehind_23 : decode cX7_isBehind 23 = .ok (.if_icmp .ne 7, 3) := by decide +kernel
theorem dX7_isBehind_26 : decode cX7_isBehind 26 = .ok (.iconst 1, 1) := by decide +kernel
theorem dX7_isBehind_27 : decode cX7_isBehind 27 = .ok (.goto 4, 3) := by decide +kernel
theorem dX7_isBehind_30 : decode cX7_isBehind 30 = .ok (.iconst 0, 1) := by decide +kernel
theorem dX7_isBehind_31 : decode cX7_isBehind 31 = .ok (.ireturn, 1) := by decide +kernel
set_option maxRecDepth 20000 in
theorem ggX7_behind_X7_isVersion : GoodIn wsX7_behind wsX7_isVersion := goodIn_r _ [6, 7, 13, 14, 15, 16, 17, 18, 19, 20, 21, 22, 23, 24, 25, 26, 27, 28, 29, 30, 31, 32, 33, 34, 35, 36, 37, 38, 39, 40, 41, 42, 43] (by decide +kernel) (by decide +kernel)
set_option maxRecDepth 20000 in
theorem gX7_behind_X7_isVersion : GoodIn wsX7_behind (wsV RX7 72 RX7 yX7_isVersion wsX7_isVersion) := goodIn_app (goodIn_of _ (by decide +kernel)) ggX7_behind_X7_isVersion
set_option maxRecDepth 20000 in
theorem ggX7_behind_X7_isBehind : GoodIn wsX7_behind wsX7_isBehind := goodIn_r _ [11, 12, 13, 14, 15, 16, 17, 18, 19, 20, 21, 22, 23, 24, 25, 26, 27, 28, 29, 30, 31, 32, 33, 34, 35, 36, 37, 38, 39, 40, 41, 42, 43] (by decide +kernel) (by decide +kernel)
set_option maxRecDepth 20000 in
theorem gX7_behind_X7_isBehind : GoodIn wsX7_behind (wsV RX7 76 RX7 yX7_isBehind wsX7_isBehind) := goodIn_app (goodIn_of _ (by decide +kernel)) ggX7_behind_X7_isBehind
theorem dX7_behind_0 : decode cX7_behind 0 = .ok (.aload_n 0, 1) := by decide +kernel
theorem dX7_behind_1 : decode cX7_behind 1 = .ok (.iconst 0, 1) := by decide +kernel
theorem dX7_behind_2 : decode cX7_behind 2 = .ok (.putfield 1, 3) := by decide +kernel
theorem dX7_behind_5 : decode cX7_behind 5 = .ok (.aload_n 0, 1) := by decide +kernel
theorem dX7_behind_6 : decode cX7_behind 6 = .ok (.iload_n 1, 1) := by decide +kernel
theorem dX7_behind_7 : decode cX7_behind 7 = .ok (.invokevirtual 72, 3) := by decide +kernel
theorem dX7_behind_10 : decode cX7_behind 10 = .ok (.ifCond .eq 11, 3) := by decide +kernel
theorem dX7_behind_13 : decode cX7_behind 13 = .ok (.aload_n 0, 1) := by decide +kernel
theorem dX7_behind_14 : decode cX7_behind 14 = .ok (.iload_n 2, 1) := by decide +kernel
theorem dX7_behind_15 : decode cX7_behind 15 = .ok (.invokevirtual 72, 3) := by decide +kernel
theorem dX7_behind_18 : decode cX7_behind 18 = .ok (.ifCond .ne 7, 3) := by decide +kernel
theorem dX7_behind_21 : decode cX7_behind 21 = .ok (.iconst (-1), 1) := by decide +kernel
theorem dX7_behind_22 : decode cX7_behind 22 = .ok (.goto 17, 3) := by decide +kernel
theorem dX7_behind_25 : decode cX7_behind 25 = .ok (.aload_n 0, 1) := by decide +kernel
theorem dX7_behind_26 : decode cX7_behind 26 = .ok (.iload_n 1, 1) := by decide +kernel
theorem dX7_behind_27 : decode cX7_behind 27 = .ok (.iload_n 2, 1) := by decide +kernel
theorem dX7_behind_28 : decode cX7_behind 28 = .ok (.invokevirtual 76, 3) := by decide +kernel
theorem dX7_behind_31 : decode cX7_behind 31 = .ok (.ifCond .eq 7, 3) := by decide +kernel
theorem dX7_behind_34 : decode cX7_behind 34 = .ok (.iconst 1, 1) := by decide +kernel
theorem dX7_behind_35 : decode cX7_behind 35 = .ok (.goto 4, 3) := by decide +kernel
theorem dX7_behind_38 : decode cX7_behind 38 = .ok (.iconst 0, 1) := by decide +kernel
theorem dX7_behind_39 : decode cX7_behind 39 = .ok (.ireturn, 1) := by decide +kernel
theorem dX7_frame_0 : decode cX7_frame 0 = .ok (.aload_n 0, 1) := by decide +kernel
theorem dX7_frame_1 : decode cX7_frame 1 = .ok (.iconst 0, 1) := by decide +kernel
theorem dX7_frame_2 : decode cX7_frame 2 = .ok (.putfield 1, 3) := by decide +kernel
theorem dX7_frame_5 : decode cX7_frame 5 = .ok (.iload_n 1, 1) := by decide +kernel
theorem dX7_frame_6 : decode cX7_frame 6 = .ok (.ifCond .lt 19, 3) := by decide +kernel
theorem dX7_frame_9 : decode cX7_frame 9 = .ok (.iload_n 1, 1) := by decide +kernel
theorem dX7_frame_10 : decode cX7_frame 10 = .ok (.sipush 500, 3) := by decide +kernel
theorem dX7_frame_13 : decode cX7_frame 13 = .ok (.if_icmp .gt 12, 3) := by decide +kernel
theorem dX7_frame_16 : decode cX7_frame 16 = .ok (.aload_n 0, 1) := by decide +kernel
theorem dX7_frame_17 : decode cX7_frame 17 = .ok (.getfield 80, 3) := by decide +kernel
theorem dX7_frame_20 : decode cX7_frame 20 = .ok (.bipush 12, 2) := by decide +kernel
theorem dX7_frame_22 : decode cX7_frame 22 = .ok (.if_icmp .ne 5, 3) := by decide +kernel
theorem dX7_frame_25 : decode cX7_frame 25 = .ok (.iconst (-1), 1) := by decide +kernel
theorem dX7_frame_26 : decode cX7_frame 26 = .ok (.ireturn, 1) := by decide +kernel
theorem dX7_frame_27 : decode cX7_frame 27 = .ok (.aload_n 0, 1) := by decide +kernel
theorem dX7_frame_28 : decode cX7_frame 28 = .ok (.getfield 20, 3) := by decide +kernel
theorem dX7_frame_31 : decode cX7_frame 31 = .ok (.aload_n 0, 1) := by decide +kernel
theorem dX7_frame_32 : decode cX7_frame 32 = .ok (.getfield 80, 3) := by decide +kernel
theorem dX7_frame_35 : decode cX7_frame 35 = .ok (.iload_n 1, 1) := by decide +kernel
theorem dX7_frame_36 : decode cX7_frame 36 = .ok (.iastore, 1) := by decide +kernel
theorem dX7_frame_37 : decode cX7_frame 37 = .ok (.aload_n 0, 1) := by decide +kernel
theorem dX7_frame_38 : decode cX7_frame 38 = .ok (.dup, 1) := by decide +kernel
theorem dX7_frame_39 : decode cX7_frame 39 = .ok (.getfield 80, 3) := by decide +kernel
theorem dX7_frame_42 : decode cX7_frame 42 = .ok (.iconst 1, 1) := by decide +kernel
theorem dX7_frame_43 : decode cX7_frame 43 = .ok (.iadd, 1) := by decide +kernel
theorem dX7_frame_44 : decode cX7_frame 44 = .ok (.putfield 80, 3) := by decide +kernel
theorem dX7_frame_47 : decode cX7_frame 47 = .ok (.aload_n 0, 1) := by decide +kernel
theorem dX7_frame_48 : decode cX7_frame 48 = .ok (.getfield 80, 3) := by decide +kernel
theorem dX7_frame_51 : decode cX7_frame 51 = .ok (.ireturn, 1) := by decide +kernel
theorem dX7_isTwice_0 : decode cX7_isTwice 0 = .ok (.iload_n 1, 1) := by decide +kernel
theorem dX7_isTwice_1 : decode cX7_isTwice 1 = .ok (.iconst 2, 1) := by decide +kernel
theorem dX7_isTwice_2 : decode cX7_isTwice 2 = .ok (.iload_n 2, 1) := by decide +kernel
theorem dX7_isTwice_3 : decode cX7_isTwice 3 = .ok (.imul, 1) := by decide +kernel
theorem dX7_isTwice_4 : decode cX7_isTwice 4 = .ok (.iadd, 1) := by decide +kernel
theorem dX7_isTwice_5 : decode cX7_isTwice 5 = .ok (.aload_n 0, 1) := by decide +kernel
theorem dX7_isTwice_6 : decode cX7_isTwice 6 = .ok (.getfield 80, 3) := by decide +kernel
theorem dX7_isTwice_9 : decode cX7_isTwice 9 = .ok (.if_icmp .gt 7, 3) := by decide +kernel
theorem dX7_isTwice_12 : decode cX7_isTwice 12 = .ok (.iconst 1, 1) := by decide +kernel
theorem dX7_isTwice_13 : decode cX7_isTwice 13 = .ok (.goto 4, 3) := by decide +kernel
theorem dX7_isTwice_16 : decode cX7_isTwice 16 = .ok (.iconst 0, 1) := by decide +kernel
theorem dX7_isTwice_17 : decode cX7_isTwice 17 = .ok (.istore_n 3, 1) := by decide +kernel
theorem dX7_isTwice_18 : decode cX7_isTwice 18 = .ok (.iload_n 1, 1) := by decide +kernel
theorem dX7_isTwice_19 : decode cX7_isTwice 19 = .ok (.istore 4, 2) := by decide +kernel
theorem dX7_isTwice_21 : decode cX7_isTwice 21 = .ok (.iload 4, 2) := by decide +kernel
theorem dX7_isTwice_23 : decode cX7_isTwice 23 = .ok (.iload_n 1, 1) := by decide +kernel
theorem dX7_isTwice_24 : decode cX7_isTwice 24 = .ok (.iload_n 2, 1) := by decide +kernel
theorem dX7_isTwice_25 : decode cX7_isTwice 25 = .ok (.iadd, 1) := by decide +kernel
theorem dX7_isTwice_26 : decode cX7_isTwice 26 = .ok (.if_icmp .ge 38, 3) := by decide +kernel
theorem dX7_isTwice_29 : decode cX7_isTwice 29 = .ok (.iload_n 3, 1) := by decide +kernel
theorem dX7_isTwice_30 : decode cX7_isTwice 30 = .ok (.ifCond .eq 34, 3) := by decide +kernel
theorem dX7_isTwice_33 : decode cX7_isTwice 33 = .ok (.aload_n 0, 1) := by decide +kernel
theorem dX7_isTwice_34 : decode cX7_isTwice 34 = .ok (.getfield 20, 3) := by decide +kernel
theorem dX7_isTwice_37 : decode cX7_isTwice 37 = .ok (.iload 4, 2) := by decide +kernel
theorem dX7_isTwice_39 : decode cX7_isTwice 39 = .ok (.iaload, 1) := by decide +kernel
theorem dX7_isTwice_40 : decode cX7_isTwice 40 = .ok (.aload_n 0, 1) := by decide +kernel
theorem dX7_isTwice_41 : decode cX7_isTwice 41 = .ok (.getfield 20, 3) := by decide +kernel
theorem dX7_isTwice_44 : decode cX7_isTwice 44 = .ok (.iload 4, 2) := by decide +kernel
theorem dX7_isTwice_46 : decode cX7_isTwice 46 = .ok (.iload_n 2, 1) := by decide +kernel
theorem dX7_isTwice_47 : decode cX7_isTwice 47 = .ok (.iadd, 1) := by decide +kernel
theorem dX7_isTwice_48 : decode cX7_isTwice 48 = .ok (.iaload, 1) := by decide +kernel
theorem dX7_isTwice_49 : decode cX7_isTwice 49 = .ok (.if_icmp .ne 7, 3) := by decide +kernel
theorem dX7_isTwice_52 : decode cX7_isTwice 52 = .ok (.iconst 1, 1) := by decide +kernel
theorem dX7_isTwice_53 : decode cX7_isTwice 53 = .ok (.goto 4, 3) := by decide +kernel
theorem dX7_isTwice_56 : decode cX7_isTwice 56 = .ok (.iconst 0, 1) := by decide +kernel
theorem dX7_isTwice_57 : decode cX7_isTwice 57 = .ok (.istore_n 3, 1) := by decide +kernel
theorem dX7_isTwice_58 : decode cX7_isTwice 58 = .ok (.iinc 4 1, 3) := by decide +kernel
theorem dX7_isTwice_61 : decode cX7_isTwice 61 = .ok (.goto (-40), 3) := by decide +kernel
theorem dX7_isTwice_64 : decode cX7_isTwice 64 = .ok (.iload_n 3, 1) := by decide +kernel
theorem dX7_isTwice_65 : decode cX7_isTwice 65 = .ok (.ireturn, 1) := by decide +kernel
set_option maxRecDepth 20000 in
theorem ggX7_folds_X7_isTwice : GoodIn wsX7_folds wsX7_isTwice := goodIn_r _ [7, 1, 2, 8, 9, 10, 11, 12, 13, 14, 15, 16, 17, 18, 19, 20, 21, 22, 23, 24, 25, 26, 27, 28, 29, 30, 31, 32, 33, 34, 35, 36, 37, 38] (by decide +kernel) (by decide +kernel)
set_option maxRecDepth 20000 in
theorem gX7_folds_X7_isTwice : GoodIn wsX7_folds (wsV RX7 83 RX7 yX7_isTwice wsX7_isTwice) := goodIn_app (goodIn_of _ (by decide +kernel)) ggX7_folds_X7_isTwice
theorem dX7_folds_0 : decode cX7_folds 0 = .ok (.iconst 1, 1) := by decide +kernel
theorem dX7_folds_1 : decode cX7_folds 1 = .ok (.istore_n 1, 1) := by decide +kernel
theorem dX7_folds_2 : decode cX7_folds 2 = .ok (.iload_n 1, 1) := by decide +kernel
theorem dX7_folds_3 : decode cX7_folds 3 = .ok (.iconst 3, 1) := by decide +kernel
theorem dX7_folds_4 : decode cX7_folds 4 = .ok (.if_icmp .gt 76, 3) := by decide +kernel
theorem dX7_folds_7 : decode cX7_folds 7 = .ok (.iconst 0, 1) := by decide +kernel
theorem dX7_folds_8 : decode cX7_folds 8 = .ok (.istore_n 2, 1) := by decide +kernel
theorem dX7_folds_9 : decode cX7_folds 9 = .ok (.iload_n 2, 1) := by decide +kernel
theorem dX7_folds_10 : decode cX7_folds 10 = .ok (.aload_n 0, 1) := by decide +kernel
theorem dX7_folds_11 : decode cX7_folds 11 = .ok (.getfield 80, 3) := by decide +kernel
theorem dX7_folds_14 : decode cX7_folds 14 = .ok (.if_icmp .ge 60, 3) := by decide +kernel
theorem dX7_folds_17 : decode cX7_folds 17 = .ok (.aload_n 0, 1) := by decide +kernel
theorem dX7_folds_18 : decode cX7_folds 18 = .ok (.iload_n 2, 1) := by decide +kernel
theorem dX7_folds_19 : decode cX7_folds 19 = .ok (.iload_n 1, 1) := by decide +kernel
theorem dX7_folds_20 : decode cX7_folds 20 = .ok (.invokevirtual 83, 3) := by decide +kernel
theorem dX7_folds_23 : decode cX7_folds 23 = .ok (.ifCond .eq 45, 3) := by decide +kernel
theorem dX7_folds_26 : decode cX7_folds 26 = .ok (.aload_n 0, 1) := by decide +kernel
theorem dX7_folds_27 : decode cX7_folds 27 = .ok (.dup, 1) := by decide +kernel
theorem dX7_folds_28 : decode cX7_folds 28 = .ok (.getfield 80, 3) := by decide +kernel
theorem dX7_folds_31 : decode cX7_folds 31 = .ok (.iload_n 1, 1) := by decide +kernel
theorem dX7_folds_32 : decode cX7_folds 32 = .ok (.isub, 1) := by decide +kernel
theorem dX7_folds_33 : decode cX7_folds 33 = .ok (.putfield 80, 3) := by decide +kernel
theorem dX7_folds_36 : decode cX7_folds 36 = .ok (.iload_n 2, 1) := by decide +kernel
theorem dX7_folds_37 : decode cX7_folds 37 = .ok (.istore_n 3, 1) := by decide +kernel
theorem dX7_folds_38 : decode cX7_folds 38 = .ok (.iload_n 3, 1) := by decide +kernel
theorem dX7_folds_39 : decode cX7_folds 39 = .ok (.aload_n 0, 1) := by decide +kernel
theorem dX7_folds_40 : decode cX7_folds 40 = .ok (.getfield 80, 3) := by decide +kernel
theorem dX7_folds_43 : decode cX7_folds 43 = .ok (.if_icmp .ge 23, 3) := by decide +kernel
theorem dX7_folds_46 : decode cX7_folds 46 = .ok (.aload_n 0, 1) := by decide +kernel
theorem dX7_folds_47 : decode cX7_folds 47 = .ok (.getfield 20, 3) := by decide +kernel
theorem dX7_folds_50 : decode cX7_folds 50 = .ok (.iload_n 3, 1) := by decide +kernel
theorem dX7_folds_51 : decode cX7_folds 51 = .ok (.aload_n 0, 1) := by decide +kernel
theorem dX7_folds_52 : decode cX7_folds 52 = .ok (.getfield 20, 3) := by decide +kernel
theorem dX7_folds_55 : decode cX7_folds 55 = .ok (.iload_n 3, 1) := by decide +kernel
theorem dX7_folds_56 : decode cX7_folds 56 = .ok (.iload_n 1, 1) := by decide +kernel
theorem dX7_folds_57 : decode cX7_folds 57 = .ok (.iadd, 1) := by decide +kernel
theorem dX7_folds_58 : decode cX7_folds 58 = .ok (.iaload, 1) := by decide +kernel
theorem dX7_folds_59 : decode cX7_folds 59 = .ok (.iastore, 1) := by decide +kernel
theorem dX7_folds_60 : decode cX7_folds 60 = .ok (.iinc 3 1, 3) := by decide +kernel
theorem dX7_folds_63 : decode cX7_folds 63 = .ok (.goto (-25), 3) := by decide +kernel
theorem dX7_folds_66 : decode cX7_folds 66 = .ok (.iconst 1, 1) := by decide +kernel
theorem dX7_folds_67 : decode cX7_folds 67 = .ok (.ireturn, 1) := by decide +kernel
theorem dX7_folds_68 : decode cX7_folds 68 = .ok (.iinc 2 1, 3) := by decide +kernel
theorem dX7_folds_71 : decode cX7_folds 71 = .ok (.goto (-62), 3) := by decide +kernel
theorem dX7_folds_74 : decode cX7_folds 74 = .ok (.iinc 1 1, 3) := by decide +kernel
theorem dX7_folds_77 : decode cX7_folds 77 = .ok (.goto (-75), 3) := by decide +kernel
theorem dX7_folds_80 : decode cX7_folds 80 = .ok (.iconst 0, 1) := by decide +kernel
theorem dX7_folds_81 : decode cX7_folds 81 = .ok (.ireturn, 1) := by decide +kernel
set_option maxRecDepth 20000 in
theorem ggX7_report_X7_isVersion : GoodIn wsX7_report wsX7_isVersion := goodIn_r _ [14, 15, 108, 109, 110, 111, 112, 113, 114, 115, 116, 117, 118, 119, 120, 121, 122, 123, 124, 125, 126, 127, 128, 129, 130, 131, 132, 133, 134, 135, 136, 137, 138] (by decide +kernel) (by decide +kernel)
set_option maxRecDepth 20000 in
theorem gX7_report_X7_isVersion : GoodIn wsX7_report (wsV RX7 72 RX7 yX7_isVersion wsX7_isVersion) := goodIn_app (goodIn_of _ (by decide +kernel)) ggX7_report_X7_isVersion
set_option maxRecDepth 20000 in
theorem ggX7_report_X7_folds : GoodIn wsX7_report wsX7_folds := goodIn_r _ [19, 2, 5, 20, 21, 22, 13, 23, 108, 109, 110, 111, 112, 113, 114, 115, 116, 117, 118, 119, 120, 121, 122, 123, 124, 125, 126, 127, 128, 129, 130, 131, 132, 133, 134, 135, 136, 137, 138] (by decide +kernel) (by decide +kernel)
set_option maxRecDepth 20000 in
theorem gX7_report_X7_folds : GoodIn wsX7_report (wsV RX7 89 RX7 yX7_folds wsX7_folds) := goodIn_app (goodIn_of _ (by decide +kernel)) ggX7_report_X7_folds
set_option maxRecDepth 20000 in
theorem ggX7_report_X7_settles : GoodIn wsX7_report wsX7_settles := goodIn_r _ [27, 28, 3, 29, 9, 30, 31, 32, 33, 34, 35, 13, 36, 37, 38, 39, 40, 41, 42, 43, 44, 45, 46, 47, 48, 49, 50, 6, 4, 51, 52, 53, 54, 55, 56, 57, 58, 59, 60, 61, 62, 63, 64, 65, 66, 67, 68, 69, 70, 71, 72, 73, 74, 75, 76, 77, 78, 79, 80, 81, 82, 83, 84, 85, 86, 87, 88, 89, 90, 91, 92, 93, 94, 95, 96, 97, 98, 99, 100, 101, 102, 103, 104, 105, 106, 107, 108, 109, 110, 111, 112, 113, 114, 115, 116, 117, 118, 119, 120, 121, 122, 123, 124, 125, 126, 127, 128, 129, 130, 131, 132, 133, 134, 135, 136, 137, 138] (by decide +kernel) (by decide +kernel)
set_option maxRecDepth 20000 in
theorem gX7_report_X7_settles : GoodIn wsX7_report (wsV RX7 93 RX7 yX7_settles wsX7_settles) := goodIn_app (goodIn_of _ (by decide +kernel)) ggX7_report_X7_settles
theorem dX7_report_0 : decode cX7_report 0 = .ok (.aload_n 0, 1) := by decide +kernel
theorem dX7_report_1 : decode cX7_report 1 = .ok (.iconst 0, 1) := by decide +kernel
theorem dX7_report_2 : decode cX7_report 2 = .ok (.putfield 1, 3) := by decide +kernel
theorem dX7_report_5 : decode cX7_report 5 = .ok (.aload_n 0, 1) := by decide +kernel
theorem dX7_report_6 : decode cX7_report 6 = .ok (.getfield 80, 3) := by decide +kernel
theorem dX7_report_9 : decode cX7_report 9 = .ok (.ifCond .eq 20, 3) := by decide +kernel
theorem dX7_report_12 : decode cX7_report 12 = .ok (.aload_n 0, 1) := by decide +kernel
theorem dX7_report_13 : decode cX7_report 13 = .ok (.iload_n 1, 1) := by decide +kernel
theorem dX7_report_14 : decode cX7_report 14 = .ok (.invokevirtual 72, 3) := by decide +kernel
theorem dX7_report_17 : decode cX7_report 17 = .ok (.ifCond .eq 12, 3) := by decide +kernel
theorem dX7_report_20 : decode cX7_report 20 = .ok (.aload_n 0, 1) := by decide +kernel
theorem dX7_report_21 : decode cX7_report 21 = .ok (.getfield 86, 3) := by decide +kernel
theorem dX7_report_24 : decode cX7_report 24 = .ok (.bipush 40, 2) := by decide +kernel
theorem dX7_report_26 : decode cX7_report 26 = .ok (.if_icmp .ne 5, 3) := by decide +kernel
theorem dX7_report_29 : decode cX7_report 29 = .ok (.iconst (-1), 1) := by decide +kernel
theorem dX7_report_30 : decode cX7_report 30 = .ok (.ireturn, 1) := by decide +kernel
theorem dX7_report_31 : decode cX7_report 31 = .ok (.iconst 1, 1) := by decide +kernel
theorem dX7_report_32 : decode cX7_report 32 = .ok (.istore_n 2, 1) := by decide +kernel
theorem dX7_report_33 : decode cX7_report 33 = .ok (.iload_n 2, 1) := by decide +kernel
theorem dX7_report_34 : decode cX7_report 34 = .ok (.ifCond .eq 11, 3) := by decide +kernel
theorem dX7_report_37 : decode cX7_report 37 = .ok (.aload_n 0, 1) := by decide +kernel
theorem dX7_report_38 : decode cX7_report 38 = .ok (.invokevirtual 89, 3) := by decide +kernel
theorem dX7_report_41 : decode cX7_report 41 = .ok (.istore_n 2, 1) := by decide +kernel
theorem dX7_report_42 : decode cX7_report 42 = .ok (.goto (-9), 3) := by decide +kernel
theorem dX7_report_45 : decode cX7_report 45 = .ok (.iconst 0, 1) := by decide +kernel
theorem dX7_report_46 : decode cX7_report 46 = .ok (.istore_n 3, 1) := by decide +kernel
theorem dX7_report_47 : decode cX7_report 47 = .ok (.iload_n 3, 1) := by decide +kernel
theorem dX7_report_48 : decode cX7_report 48 = .ok (.aload_n 0, 1) := by decide +kernel
theorem dX7_report_49 : decode cX7_report 49 = .ok (.getfield 80, 3) := by decide +kernel
theorem dX7_report_52 : decode cX7_report 52 = .ok (.if_icmp .ge 29, 3) := by decide +kernel
theorem dX7_report_55 : decode cX7_report 55 = .ok (.aload_n 0, 1) := by decide +kernel
theorem dX7_report_56 : decode cX7_report 56 = .ok (.getfield 23, 3) := by decide +kernel
theorem dX7_report_59 : decode cX7_report 59 = .ok (.bipush 12, 2) := by decide +kernel
theorem dX7_report_61 : decode cX7_report 61 = .ok (.aload_n 0, 1) := by decide +kernel
theorem dX7_report_62 : decode cX7_report 62 = .ok (.getfield 86, 3) := by decide +kernel
theorem dX7_report_65 : decode cX7_report 65 = .ok (.imul, 1) := by decide +kernel
theorem dX7_report_66 : decode cX7_report 66 = .ok (.iload_n 3, 1) := by decide +kernel
theorem dX7_report_67 : decode cX7_report 67 = .ok (.iadd, 1) := by decide +kernel
theorem dX7_report_68 : decode cX7_report 68 = .ok (.aload_n 0, 1) := by decide +kernel
theorem dX7_report_69 : decode cX7_report 69 = .ok (.getfield 20, 3) := by decide +kernel
theorem dX7_report_72 : decode cX7_report 72 = .ok (.iload_n 3, 1) := by decide +kernel
theorem dX7_report_73 : decode cX7_report 73 = .ok (.iaload, 1) := by decide +kernel
theorem dX7_report_74 : decode cX7_report 74 = .ok (.iastore, 1) := by decide +kernel
theorem dX7_report_75 : decode cX7_report 75 = .ok (.iinc 3 1, 3) := by decide +kernel
theorem dX7_report_78 : decode cX7_report 78 = .ok (.goto (-31), 3) := by decide +kernel
theorem dX7_report_81 : decode cX7_report 81 = .ok (.aload_n 0, 1) := by decide +kernel
theorem dX7_report_82 : decode cX7_report 82 = .ok (.getfield 26, 3) := by decide +kernel
theorem dX7_report_85 : decode cX7_report 85 = .ok (.aload_n 0, 1) := by decide +kernel
theorem dX7_report_86 : decode cX7_report 86 = .ok (.getfield 86, 3) := by decide +kernel
theorem dX7_report_89 : decode cX7_report 89 = .ok (.aload_n 0, 1) := by decide +kernel
theorem dX7_report_90 : decode cX7_report 90 = .ok (.getfield 80, 3) := by decide +kernel
theorem dX7_report_93 : decode cX7_report 93 = .ok (.iastore, 1) := by decide +kernel
theorem dX7_report_94 : decode cX7_report 94 = .ok (.aload_n 0, 1) := by decide +kernel
theorem dX7_report_95 : decode cX7_report 95 = .ok (.getfield 29, 3) := by decide +kernel
theorem dX7_report_98 : decode cX7_report 98 = .ok (.aload_n 0, 1) := by decide +kernel
theorem dX7_report_99 : decode cX7_report 99 = .ok (.getfield 86, 3) := by decide +kernel
theorem dX7_report_102 : decode cX7_report 102 = .ok (.iload_n 1, 1) := by decide +kernel
theorem dX7_report_103 : decode cX7_report 103 = .ok (.iastore, 1) := by decide +kernel
theorem dX7_report_104 : decode cX7_report 104 = .ok (.aload_n 0, 1) := by decide +kernel
theorem dX7_report_105 : decode cX7_report 105 = .ok (.getfield 32, 3) := by decide +kernel
theorem dX7_report_108 : decode cX7_report 108 = .ok (.aload_n 0, 1) := by decide +kernel
theorem dX7_report_109 : decode cX7_report 109 = .ok (.getfield 86, 3) := by decide +kernel
theorem dX7_report_112 : decode cX7_report 112 = .ok (.iconst (-1), 1) := by decide +kernel
theorem dX7_report_113 : decode cX7_report 113 = .ok (.iastore, 1) := by decide +kernel
theorem dX7_report_114 : decode cX7_report 114 = .ok (.aload_n 0, 1) := by decide +kernel
theorem dX7_report_115 : decode cX7_report 115 = .ok (.getfield 35, 3) := by decide +kernel
theorem dX7_report_118 : decode cX7_report 118 = .ok (.aload_n 0, 1) := by decide +kernel
theorem dX7_report_119 : decode cX7_report 119 = .ok (.getfield 86, 3) := by decide +kernel
theorem dX7_report_122 : decode cX7_report 122 = .ok (.aload_n 0, 1) := by decide +kernel
theorem dX7_report_123 : decode cX7_report 123 = .ok (.getfield 86, 3) := by decide +kernel
theorem dX7_report_126 : decode cX7_report 126 = .ok (.iastore, 1) := by decide +kernel
theorem dX7_report_127 : decode cX7_report 127 = .ok (.aload_n 0, 1) := by decide +kernel
theorem dX7_report_128 : decode cX7_report 128 = .ok (.iconst 0, 1) := by decide +kernel
theorem dX7_report_129 : decode cX7_report 129 = .ok (.putfield 80, 3) := by decide +kernel
theorem dX7_report_132 : decode cX7_report 132 = .ok (.aload_n 0, 1) := by decide +kernel
theorem dX7_report_133 : decode cX7_report 133 = .ok (.dup, 1) := by decide +kernel
theorem dX7_report_134 : decode cX7_report 134 = .ok (.getfield 86, 3) := by decide +kernel
theorem dX7_report_137 : decode cX7_report 137 = .ok (.iconst 1, 1) := by decide +kernel
theorem dX7_report_138 : decode cX7_report 138 = .ok (.iadd, 1) := by decide +kernel
theorem dX7_report_139 : decode cX7_report 139 = .ok (.putfield 86, 3) := by decide +kernel
theorem dX7_report_142 : decode cX7_report 142 = .ok (.aload_n 0, 1) := by decide +kernel
theorem dX7_report_143 : decode cX7_report 143 = .ok (.invokevirtual 93, 3) := by decide +kernel
theorem dX7_report_146 : decode cX7_report 146 = .ok (.aload_n 0, 1) := by decide +kernel
theorem dX7_report_147 : decode cX7_report 147 = .ok (.getfield 86, 3) := by decide +kernel
theorem dX7_report_150 : decode cX7_report 150 = .ok (.iconst 1, 1) := by decide +kernel
theorem dX7_report_151 : decode cX7_report 151 = .ok (.isub, 1) := by decide +kernel
theorem dX7_report_152 : decode cX7_report 152 = .ok (.ireturn, 1) := by decide +kernel
theorem dX7_isReport_0 : decode cX7_isReport 0 = .ok (.iload_n 1, 1) := by decide +kernel
theorem dX7_isReport_1 : decode cX7_isReport 1 = .ok (.ifCond .lt 15, 3) := by decide +kernel
theorem dX7_isReport_4 : decode cX7_isReport 4 = .ok (.iload_n 1, 1) := by decide +kernel
theorem dX7_isReport_5 : decode cX7_isReport 5 = .ok (.aload_n 0, 1) := by decide +kernel
theorem dX7_isReport_6 : decode cX7_isReport 6 = .ok (.getfield 86, 3) := by decide +kernel
theorem dX7_isReport_9 : decode cX7_isReport 9 = .ok (.if_icmp .ge 7, 3) := by decide +kernel
theorem dX7_isReport_12 : decode cX7_isReport 12 = .ok (.iconst 1, 1) := by decide +kernel
theorem dX7_isReport_13 : decode cX7_isReport 13 = .ok (.goto 4, 3) := by decide +kernel
theorem dX7_isReport_16 : decode cX7_isReport 16 = .ok (.iconst 0, 1) := by decide +kernel
theorem dX7_isReport_17 : decode cX7_isReport 17 = .ok (.ireturn, 1) := by decide +kernel
theorem dX7_stands_0 : decode cX7_stands 0 = .ok (.iconst 0, 1) := by decide +kernel
theorem dX7_stands_1 : decode cX7_stands 1 = .ok (.istore_n 3, 1) := by decide +kernel
theorem dX7_stands_2 : decode cX7_stands 2 = .ok (.iconst 0, 1) := by decide +kernel
theorem dX7_stands_3 : decode cX7_stands 3 = .ok (.istore 4, 2) := by decide +kernel
theorem dX7_stands_5 : decode cX7_stands 5 = .ok (.iload 4, 2) := by decide +kernel
theorem dX7_stands_7 : decode cX7_stands 7 = .ok (.aload_n 0, 1) := by decide +kernel
theorem dX7_stands_8 : decode cX7_stands 8 = .ok (.getfield 26, 3) := by decide +kernel
theorem dX7_stands_11 : decode cX7_stands 11 = .ok (.iload_n 2, 1) := by decide +kernel
theorem dX7_stands_12 : decode cX7_stands 12 = .ok (.iaload, 1) := by decide +kernel
theorem dX7_stands_13 : decode cX7_stands 13 = .ok (.if_icmp .ge 35, 3) := by decide +kernel
theorem dX7_stands_16 : decode cX7_stands 16 = .ok (.iload_n 3, 1) := by decide +kernel
theorem dX7_stands_17 : decode cX7_stands 17 = .ok (.ifCond .ne 19, 3) := by decide +kernel
theorem dX7_stands_20 : decode cX7_stands 20 = .ok (.aload_n 0, 1) := by decide +kernel
theorem dX7_stands_21 : decode cX7_stands 21 = .ok (.getfield 23, 3) := by decide +kernel
theorem dX7_stands_24 : decode cX7_stands 24 = .ok (.bipush 12, 2) := by decide +kernel
theorem dX7_stands_26 : decode cX7_stands 26 = .ok (.iload_n 2, 1) := by decide +kernel
theorem dX7_stands_27 : decode cX7_stands 27 = .ok (.imul, 1) := by decide +kernel
theorem dX7_stands_28 : decode cX7_stands 28 = .ok (.iload 4, 2) := by decide +kernel
theorem dX7_stands_30 : decode cX7_stands 30 = .ok (.iadd, 1) := by decide +kernel
theorem dX7_stands_31 : decode cX7_stands 31 = .ok (.iaload, 1) := by decide +kernel
theorem dX7_stands_32 : decode cX7_stands 32 = .ok (.iload_n 1, 1) := by decide +kernel
theorem dX7_stands_33 : decode cX7_stands 33 = .ok (.if_icmp .ne 7, 3) := by decide +kernel
theorem dX7_stands_36 : decode cX7_stands 36 = .ok (.iconst 1, 1) := by decide +kernel
theorem dX7_stands_37 : decode cX7_stands 37 = .ok (.goto 4, 3) := by decide +kernel
theorem dX7_stands_40 : decode cX7_stands 40 = .ok (.iconst 0, 1) := by decide +kernel
theorem dX7_stands_41 : decode cX7_stands 41 = .ok (.istore_n 3, 1) := by decide +kernel
theorem dX7_stands_42 : decode cX7_stands 42 = .ok (.iinc 4 1, 3) := by decide +kernel
theorem dX7_stands_45 : decode cX7_stands 45 = .ok (.goto (-40), 3) := by decide +kernel
theorem dX7_stands_48 : decode cX7_stands 48 = .ok (.iload_n 3, 1) := by decide +kernel
theorem dX7_stands_49 : decode cX7_stands 49 = .ok (.ireturn, 1) := by decide +kernel
set_option maxRecDepth 20000 in
theorem ggX7_isCommon_X7_stands : GoodIn wsX7_isCommon wsX7_stands := goodIn_r _ [6, 7, 8, 9, 10, 11, 12, 13, 14, 15, 16, 17, 18, 19, 20, 21, 22, 23, 24, 25, 26, 27, 28, 29, 30, 31, 32, 33, 34, 35, 36, 37, 38, 39] (by decide +kernel) (by decide +kernel)
set_option maxRecDepth 20000 in
theorem gX7_isCommon_X7_stands : GoodIn wsX7_isCommon (wsV RX7 96 RX7 yX7_stands wsX7_stands) := goodIn_app (goodIn_of _ (by decide +kernel)) ggX7_isCommon_X7_stands
theorem dX7_isCommon_0 : decode cX7_isCommon 0 = .ok (.iload_n 1, 1) := by decide +kernel
theorem dX7_isCommon_1 : decode cX7_isCommon 1 = .ok (.ifCond .le 11, 3) := by decide +kernel
theorem dX7_isCommon_4 : decode cX7_isCommon 4 = .ok (.aload_n 0, 1) := by decide +kernel
theorem dX7_isCommon_5 : decode cX7_isCommon 5 = .ok (.getfield 86, 3) := by decide +kernel
theorem dX7_isCommon_8 : decode cX7_isCommon 8 = .ok (.iconst 5, 1) := by decide +kernel
theorem dX7_isCommon_9 : decode cX7_isCommon 9 = .ok (.if_icmp .ge 5, 3) := by decide +kernel
theorem dX7_isCommon_12 : decode cX7_isCommon 12 = .ok (.iconst 0, 1) := by decide +kernel
theorem dX7_isCommon_13 : decode cX7_isCommon 13 = .ok (.ireturn, 1) := by decide +kernel
theorem dX7_isCommon_14 : decode cX7_isCommon 14 = .ok (.iconst 0, 1) := by decide +kernel
theorem dX7_isCommon_15 : decode cX7_isCommon 15 = .ok (.istore_n 2, 1) := by decide +kernel
theorem dX7_isCommon_16 : decode cX7_isCommon 16 = .ok (.iconst 0, 1) := by decide +kernel
theorem dX7_isCommon_17 : decode cX7_isCommon 17 = .ok (.istore_n 3, 1) := by decide +kernel
theorem dX7_isCommon_18 : decode cX7_isCommon 18 = .ok (.iload_n 3, 1) := by decide +kernel
theorem dX7_isCommon_19 : decode cX7_isCommon 19 = .ok (.aload_n 0, 1) := by decide +kernel
theorem dX7_isCommon_20 : decode cX7_isCommon 20 = .ok (.getfield 86, 3) := by decide +kernel
theorem dX7_isCommon_23 : decode cX7_isCommon 23 = .ok (.if_icmp .ge 26, 3) := by decide +kernel
theorem dX7_isCommon_26 : decode cX7_isCommon 26 = .ok (.iload_n 2, 1) := by decide +kernel
theorem dX7_isCommon_27 : decode cX7_isCommon 27 = .ok (.aload_n 0, 1) := by decide +kernel
theorem dX7_isCommon_28 : decode cX7_isCommon 28 = .ok (.iload_n 1, 1) := by decide +kernel
theorem dX7_isCommon_29 : decode cX7_isCommon 29 = .ok (.iload_n 3, 1) := by decide +kernel
theorem dX7_isCommon_30 : decode cX7_isCommon 30 = .ok (.invokevirtual 96, 3) := by decide +kernel
theorem dX7_isCommon_33 : decode cX7_isCommon 33 = .ok (.ifCond .eq 7, 3) := by decide +kernel
theorem dX7_isCommon_36 : decode cX7_isCommon 36 = .ok (.iconst 1, 1) := by decide +kernel
theorem dX7_isCommon_37 : decode cX7_isCommon 37 = .ok (.goto 4, 3) := by decide +kernel
theorem dX7_isCommon_40 : decode cX7_isCommon 40 = .ok (.iconst 0, 1) := by decide +kernel
theorem dX7_isCommon_41 : decode cX7_isCommon 41 = .ok (.iadd, 1) := by decide +kernel
theorem dX7_isCommon_42 : decode cX7_isCommon 42 = .ok (.istore_n 2, 1) := by decide +kernel
theorem dX7_isCommon_43 : decode cX7_isCommon 43 = .ok (.iinc 3 1, 3) := by decide +kernel
theorem dX7_isCommon_46 : decode cX7_isCommon 46 = .ok (.goto (-28), 3) := by decide +kernel
theorem dX7_isCommon_49 : decode cX7_isCommon 49 = .ok (.iconst 5, 1) := by decide +kernel
theorem dX7_isCommon_50 : decode cX7_isCommon 50 = .ok (.iload_n 2, 1) := by decide +kernel
theorem dX7_isCommon_51 : decode cX7_isCommon 51 = .ok (.imul, 1) := by decide +kernel
theorem dX7_isCommon_52 : decode cX7_isCommon 52 = .ok (.iconst 4, 1) := by decide +kernel
theorem dX7_isCommon_53 : decode cX7_isCommon 53 = .ok (.aload_n 0, 1) := by decide +kernel
theorem dX7_isCommon_54 : decode cX7_isCommon 54 = .ok (.getfield 86, 3) := by decide +kernel
theorem dX7_isCommon_57 : decode cX7_isCommon 57 = .ok (.imul, 1) := by decide +kernel
theorem dX7_isCommon_58 : decode cX7_isCommon 58 = .ok (.if_icmp .lt 7, 3) := by decide +kernel
theorem dX7_isCommon_61 : decode cX7_isCommon 61 = .ok (.iconst 1, 1) := by decide +kernel
theorem dX7_isCommon_62 : decode cX7_isCommon 62 = .ok (.goto 4, 3) := by decide +kernel
theorem dX7_isCommon_65 : decode cX7_isCommon 65 = .ok (.iconst 0, 1) := by decide +kernel
theorem dX7_isCommon_66 : decode cX7_isCommon 66 = .ok (.ireturn, 1) := by decide +kernel
set_option maxRecDepth 20000 in
theorem ggX7_findCommon_X7_isCommon : GoodIn wsX7_findCommon wsX7_isCommon := goodIn_r _ [6, 7, 8, 9, 10, 5, 11, 12, 13, 14, 15, 16, 17, 18, 19, 20, 21, 22, 23, 24, 25, 26, 27, 28, 29, 30, 31, 32, 33, 34, 35, 36, 37, 38, 39, 40, 41, 42, 43, 44] (by decide +kernel) (by decide +kernel)
set_option maxRecDepth 20000 in
theorem gX7_findCommon_X7_isCommon : GoodIn wsX7_findCommon (wsV RX7 99 RX7 yX7_isCommon wsX7_isCommon) := goodIn_app (goodIn_of _ (by decide +kernel)) ggX7_findCommon_X7_isCommon
theorem dX7_findCommon_0 : decode cX7_findCommon 0 = .ok (.iconst 0, 1) := by decide +kernel
theorem dX7_findCommon_1 : decode cX7_findCommon 1 = .ok (.istore_n 1, 1) := by decide +kernel
theorem dX7_findCommon_2 : decode cX7_findCommon 2 = .ok (.iload_n 1, 1) := by decide +kernel
theorem dX7_findCommon_3 : decode cX7_findCommon 3 = .ok (.sipush 500, 3) := by decide +kernel
theorem dX7_findCommon_6 : decode cX7_findCommon 6 = .ok (.if_icmp .gt 20, 3) := by decide +kernel
theorem dX7_findCommon_9 : decode cX7_findCommon 9 = .ok (.aload_n 0, 1) := by decide +kernel
theorem dX7_findCommon_10 : decode cX7_findCommon 10 = .ok (.getfield 50, 3) := by decide +kernel
theorem dX7_findCommon_13 : decode cX7_findCommon 13 = .ok (.iload_n 1, 1) := by decide +kernel
theorem dX7_findCommon_14 : decode cX7_findCommon 14 = .ok (.aload_n 0, 1) := by decide +kernel
theorem dX7_findCommon_15 : decode cX7_findCommon 15 = .ok (.iload_n 1, 1) := by decide +kernel
theorem dX7_findCommon_16 : decode cX7_findCommon 16 = .ok (.invokevirtual 99, 3) := by decide +kernel
theorem dX7_findCommon_19 : decode cX7_findCommon 19 = .ok (.bastore, 1) := by decide +kernel
theorem dX7_findCommon_20 : decode cX7_findCommon 20 = .ok (.iinc 1 1, 3) := by decide +kernel
theorem dX7_findCommon_23 : decode cX7_findCommon 23 = .ok (.goto (-21), 3) := by decide +kernel
theorem dX7_findCommon_26 : decode cX7_findCommon 26 = .ok (.return_, 1) := by decide +kernel
theorem dX7_withoutCommon_0 : decode cX7_withoutCommon 0 = .ok (.iconst 0, 1) := by decide +kernel
theorem dX7_withoutCommon_1 : decode cX7_withoutCommon 1 = .ok (.istore_n 3, 1) := by decide +kernel
theorem dX7_withoutCommon_2 : decode cX7_withoutCommon 2 = .ok (.iconst 0, 1) := by decide +kernel
theorem dX7_withoutCommon_3 : decode cX7_withoutCommon 3 = .ok (.istore 4, 2) := by decide +kernel
theorem dX7_withoutCommon_5 : decode cX7_withoutCommon 5 = .ok (.iload 4, 2) := by decide +kernel
theorem dX7_withoutCommon_7 : decode cX7_withoutCommon 7 = .ok (.aload_n 0, 1) := by decide +kernel
theorem dX7_withoutCommon_8 : decode cX7_withoutCommon 8 = .ok (.getfield 26, 3) := by decide +kernel
theorem dX7_withoutCommon_11 : decode cX7_withoutCommon 11 = .ok (.iload_n 1, 1) := by decide +kernel
theorem dX7_withoutCommon_12 : decode cX7_withoutCommon 12 = .ok (.iaload, 1) := by decide +kernel
theorem dX7_withoutCommon_13 : decode cX7_withoutCommon 13 = .ok (.if_icmp .ge 41, 3) := by decide +kernel
theorem dX7_withoutCommon_16 : decode cX7_withoutCommon 16 = .ok (.aload_n 0, 1) := by decide +kernel
theorem dX7_withoutCommon_17 : decode cX7_withoutCommon 17 = .ok (.getfield 23, 3) := by decide +kernel
theorem dX7_withoutCommon_20 : decode cX7_withoutCommon 20 = .ok (.bipush 12, 2) := by decide +kernel
theorem dX7_withoutCommon_22 : decode cX7_withoutCommon 22 = .ok (.iload_n 1, 1) := by decide +kernel
theorem dX7_withoutCommon_23 : decode cX7_withoutCommon 23 = .ok (.imul, 1) := by decide +kernel
theorem dX7_withoutCommon_24 : decode cX7_withoutCommon 24 = .ok (.iload 4, 2) := by decide +kernel
theorem dX7_withoutCommon_26 : decode cX7_withoutCommon 26 = .ok (.iadd, 1) := by decide +kernel
theorem dX7_withoutCommon_27 : decode cX7_withoutCommon 27 = .ok (.iaload, 1) := by decide +kernel
theorem dX7_withoutCommon_28 : decode cX7_withoutCommon 28 = .ok (.istore 5, 2) := by decide +kernel
theorem dX7_withoutCommon_30 : decode cX7_withoutCommon 30 = .ok (.aload_n 0, 1) := by decide +kernel
theorem dX7_withoutCommon_31 : decode cX7_withoutCommon 31 = .ok (.getfield 50, 3) := by decide +kernel
theorem dX7_withoutCommon_34 : decode cX7_withoutCommon 34 = .ok (.iload 5, 2) := by decide +kernel
theorem dX7_withoutCommon_36 : decode cX7_withoutCommon 36 = .ok (.baload, 1) := by decide +kernel
theorem dX7_withoutCommon_37 : decode cX7_withoutCommon 37 = .ok (.ifCond .ne 11, 3) := by decide +kernel
theorem dX7_withoutCommon_40 : decode cX7_withoutCommon 40 = .ok (.aload_n 2, 1) := by decide +kernel
theorem dX7_withoutCommon_41 : decode cX7_withoutCommon 41 = .ok (.iload_n 3, 1) := by decide +kernel
theorem dX7_withoutCommon_42 : decode cX7_withoutCommon 42 = .ok (.iload 5, 2) := by decide +kernel
theorem dX7_withoutCommon_44 : decode cX7_withoutCommon 44 = .ok (.iastore, 1) := by decide +kernel
theorem dX7_withoutCommon_45 : decode cX7_withoutCommon 45 = .ok (.iinc 3 1, 3) := by decide +kernel
theorem dX7_withoutCommon_48 : decode cX7_withoutCommon 48 = .ok (.iinc 4 1, 3) := by decide +kernel
theorem dX7_withoutCommon_51 : decode cX7_withoutCommon 51 = .ok (.goto (-46), 3) := by decide +kernel
theorem dX7_withoutCommon_54 : decode cX7_withoutCommon 54 = .ok (.iload_n 3, 1) := by decide +kernel
theorem dX7_withoutCommon_55 : decode cX7_withoutCommon 55 = .ok (.ireturn, 1) := by decide +kernel
theorem dX7_alone_0 : decode cX7_alone 0 = .ok (.iload_n 0, 1) := by decide +kernel
theorem dX7_alone_1 : decode cX7_alone 1 = .ok (.ifCond .ne 7, 3) := by decide +kernel
theorem dX7_alone_4 : decode cX7_alone 4 = .ok (.iconst 1, 1) := by decide +kernel
theorem dX7_alone_5 : decode cX7_alone 5 = .ok (.goto 4, 3) := by decide +kernel
theorem dX7_alone_8 : decode cX7_alone 8 = .ok (.iconst 2, 1) := by decide +kernel
theorem dX7_alone_9 : decode cX7_alone 9 = .ok (.ireturn, 1) := by decide +kernel
theorem dX7_change_0 : decode cX7_change 0 = .ok (.iload_n 0, 1) := by decide +kernel
theorem dX7_change_1 : decode cX7_change 1 = .ok (.iload_n 1, 1) := by decide +kernel
theorem dX7_change_2 : decode cX7_change 2 = .ok (.if_icmp .ne 7, 3) := by decide +kernel
theorem dX7_change_5 : decode cX7_change 5 = .ok (.iconst 0, 1) := by decide +kernel
theorem dX7_change_6 : decode cX7_change 6 = .ok (.goto 16, 3) := by decide +kernel
theorem dX7_change_9 : decode cX7_change 9 = .ok (.iload_n 0, 1) := by decide +kernel
theorem dX7_change_10 : decode cX7_change 10 = .ok (.ifCond .eq 7, 3) := by decide +kernel
theorem dX7_change_13 : decode cX7_change 13 = .ok (.iload_n 1, 1) := by decide +kernel
theorem dX7_change_14 : decode cX7_change 14 = .ok (.ifCond .ne 7, 3) := by decide +kernel
theorem dX7_change_17 : decode cX7_change 17 = .ok (.iconst 2, 1) := by decide +kernel
theorem dX7_change_18 : decode cX7_change 18 = .ok (.goto 4, 3) := by decide +kernel
theorem dX7_change_21 : decode cX7_change 21 = .ok (.iconst 3, 1) := by decide +kernel
theorem dX7_change_22 : decode cX7_change 22 = .ok (.ireturn, 1) := by decide +kernel
set_option maxRecDepth 20000 in
theorem ggX7_turns_X7_withoutCommon : GoodIn wsX7_turns wsX7_withoutCommon := goodIn_r _ [10, 11, 12, 13, 23, 24, 25, 26, 27, 28, 29, 30, 31, 32, 33, 34, 35, 36, 37, 38, 39, 40, 41, 42, 43, 44, 45, 46, 47, 48, 49, 50, 51, 52, 53] (by decide +kernel) (by decide +kernel)
set_option maxRecDepth 20000 in
theorem gX7_turns_X7_withoutCommon : GoodIn wsX7_turns (wsV RX7 102 RX7 yX7_withoutCommon wsX7_withoutCommon) := goodIn_app (goodIn_of _ (by decide +kernel)) ggX7_turns_X7_withoutCommon
set_option maxRecDepth 20000 in
theorem ggX7_turns_X7_alone : GoodIn wsX7_turns wsX7_alone := goodIn_r _ [16] (by decide +kernel) (by decide +kernel)
set_option maxRecDepth 20000 in
theorem gX7_turns_X7_alone : GoodIn wsX7_turns (va_wsS RX7 112 yX7_alone wsX7_alone) := goodIn_app (goodIn_of _ (by decide +kernel)) ggX7_turns_X7_alone
set_option maxRecDepth 20000 in
theorem ggX7_turns_X7_least : GoodIn wsX7_turns wsX7_least := goodIn_r _ [19] (by decide +kernel) (by decide +kernel)
set_option maxRecDepth 20000 in
theorem gX7_turns_X7_least : GoodIn wsX7_turns (va_wsS RX7 116 yX7_least wsX7_least) := goodIn_app (goodIn_of _ (by decide +kernel)) ggX7_turns_X7_least
set_option maxRecDepth 20000 in
theorem ggX7_turns_X7_change : GoodIn wsX7_turns wsX7_change := goodIn_r _ [22] (by decide +kernel) (by decide +kernel)
set_option maxRecDepth 20000 in
theorem gX7_turns_X7_change : GoodIn wsX7_turns (va_wsS RX7 120 yX7_change wsX7_change) := goodIn_app (goodIn_of _ (by decide +kernel)) ggX7_turns_X7_change
theorem dX7_turns_0 : decode cX7_turns 0 = .ok (.aload_n 0, 1) := by decide +kernel
theorem dX7_turns_1 : decode cX7_turns 1 = .ok (.aload_n 0, 1) := by decide +kernel
theorem dX7_turns_2 : decode cX7_turns 2 = .ok (.iload_n 1, 1) := by decide +kernel
theorem dX7_turns_3 : decode cX7_turns 3 = .ok (.aload_n 0, 1) := by decide +kernel
theorem dX7_turns_4 : decode cX7_turns 4 = .ok (.getfield 38, 3) := by decide +kernel
theorem dX7_turns_7 : decode cX7_turns 7 = .ok (.invokevirtual 102, 3) := by decide +kernel
theorem dX7_turns_10 : decode cX7_turns 10 = .ok (.putfield 106, 3) := by decide +kernel
theorem dX7_turns_13 : decode cX7_turns 13 = .ok (.aload_n 0, 1) := by decide +kernel
theorem dX7_turns_14 : decode cX7_turns 14 = .ok (.aload_n 0, 1) := by decide +kernel
theorem dX7_turns_15 : decode cX7_turns 15 = .ok (.iload_n 2, 1) := by decide +kernel
theorem dX7_turns_16 : decode cX7_turns 16 = .ok (.aload_n 0, 1) := by decide +kernel
theorem dX7_turns_17 : decode cX7_turns 17 = .ok (.getfield 41, 3) := by decide +kernel
theorem dX7_turns_20 : decode cX7_turns 20 = .ok (.invokevirtual 102, 3) := by decide +kernel
theorem dX7_turns_23 : decode cX7_turns 23 = .ok (.putfield 109, 3) := by decide +kernel
theorem dX7_turns_26 : decode cX7_turns 26 = .ok (.aload_n 0, 1) := by decide +kernel
theorem dX7_turns_27 : decode cX7_turns 27 = .ok (.getfield 44, 3) := by decide +kernel
theorem dX7_turns_30 : decode cX7_turns 30 = .ok (.iconst 0, 1) := by decide +kernel
theorem dX7_turns_31 : decode cX7_turns 31 = .ok (.iconst 0, 1) := by decide +kernel
theorem dX7_turns_32 : decode cX7_turns 32 = .ok (.iastore, 1) := by decide +kernel
theorem dX7_turns_33 : decode cX7_turns 33 = .ok (.iconst 0, 1) := by decide +kernel
theorem dX7_turns_34 : decode cX7_turns 34 = .ok (.istore_n 3, 1) := by decide +kernel
theorem dX7_turns_35 : decode cX7_turns 35 = .ok (.iload_n 3, 1) := by decide +kernel
theorem dX7_turns_36 : decode cX7_turns 36 = .ok (.aload_n 0, 1) := by decide +kernel
theorem dX7_turns_37 : decode cX7_turns 37 = .ok (.getfield 106, 3) := by decide +kernel
theorem dX7_turns_40 : decode cX7_turns 40 = .ok (.if_icmp .gt 186, 3) := by decide +kernel
theorem dX7_turns_43 : decode cX7_turns 43 = .ok (.iconst 0, 1) := by decide +kernel
theorem dX7_turns_44 : decode cX7_turns 44 = .ok (.istore 4, 2) := by decide +kernel
theorem dX7_turns_46 : decode cX7_turns 46 = .ok (.iload 4, 2) := by decide +kernel
theorem dX7_turns_48 : decode cX7_turns 48 = .ok (.aload_n 0, 1) := by decide +kernel
theorem dX7_turns_49 : decode cX7_turns 49 = .ok (.getfield 109, 3) := by decide +kernel
theorem dX7_turns_52 : decode cX7_turns 52 = .ok (.if_icmp .gt 168, 3) := by decide +kernel
theorem dX7_turns_55 : decode cX7_turns 55 = .ok (.iload_n 3, 1) := by decide +kernel
theorem dX7_turns_56 : decode cX7_turns 56 = .ok (.iload 4, 2) := by decide +kernel
theorem dX7_turns_58 : decode cX7_turns 58 = .ok (.iadd, 1) := by decide +kernel
theorem dX7_turns_59 : decode cX7_turns 59 = .ok (.ifCond .ne 7, 3) := by decide +kernel
theorem dX7_turns_62 : decode cX7_turns 62 = .ok (.iconst 0, 1) := by decide +kernel
theorem dX7_turns_63 : decode cX7_turns 63 = .ok (.goto 6, 3) := by decide +kernel
theorem dX7_turns_66 : decode cX7_turns 66 = .ok (.sipush 1000, 3) := by decide +kernel
theorem dX7_turns_69 : decode cX7_turns 69 = .ok (.istore 5, 2) := by decide +kernel
theorem dX7_turns_71 : decode cX7_turns 71 = .ok (.iload_n 3, 1) := by decide +kernel
theorem dX7_turns_72 : decode cX7_turns 72 = .ok (.ifCond .le 36, 3) := by decide +kernel
theorem dX7_turns_75 : decode cX7_turns 75 = .ok (.iload 5, 2) := by decide +kernel
theorem dX7_turns_77 : decode cX7_turns 77 = .ok (.aload_n 0, 1) := by decide +kernel
theorem dX7_turns_78 : decode cX7_turns 78 = .ok (.getfield 44, 3) := by decide +kernel
theorem dX7_turns_81 : decode cX7_turns 81 = .ok (.bipush 13, 2) := by decide +kernel
theorem dX7_turns_83 : decode cX7_turns 83 = .ok (.iload_n 3, 1) := by decide +kernel
theorem dX7_turns_84 : decode cX7_turns 84 = .ok (.iconst 1, 1) := by decide +kernel
theorem dX7_turns_85 : decode cX7_turns 85 = .ok (.isub, 1) := by decide +kernel
theorem dX7_turns_86 : decode cX7_turns 86 = .ok (.imul, 1) := by decide +kernel
theorem dX7_turns_87 : decode cX7_turns 87 = .ok (.iload 4, 2) := by decide +kernel
theorem dX7_turns_89 : decode cX7_turns 89 = .ok (.iadd, 1) := by decide +kernel
theorem dX7_turns_90 : decode cX7_turns 90 = .ok (.iaload, 1) := by decide +kernel
theorem dX7_turns_91 : decode cX7_turns 91 = .ok (.aload_n 0, 1) := by decide +kernel
theorem dX7_turns_92 : decode cX7_turns 92 = .ok (.getfield 38, 3) := by decide +kernel
theorem dX7_turns_95 : decode cX7_turns 95 = .ok (.iload_n 3, 1) := by decide +kernel
theorem dX7_turns_96 : decode cX7_turns 96 = .ok (.iconst 1, 1) := by decide +kernel
theorem dX7_turns_97 : decode cX7_turns 97 = .ok (.isub, 1) := by decide +kernel
theorem dX7_turns_98 : decode cX7_turns 98 = .ok (.iaload, 1) := by decide +kernel
theorem dX7_turns_99 : decode cX7_turns 99 = .ok (.invokestatic 112, 3) := by decide +kernel
theorem dX7_turns_102 : decode cX7_turns 102 = .ok (.iadd, 1) := by decide +kernel
theorem dX7_turns_103 : decode cX7_turns 103 = .ok (.invokestatic 116, 3) := by decide +kernel
theorem dX7_turns_106 : decode cX7_turns 106 = .ok (.istore 5, 2) := by decide +kernel
theorem dX7_turns_108 : decode cX7_turns 108 = .ok (.iload 4, 2) := by decide +kernel
theorem dX7_turns_110 : decode cX7_turns 110 = .ok (.ifCond .le 37, 3) := by decide +kernel
theorem dX7_turns_113 : decode cX7_turns 113 = .ok (.iload 5, 2) := by decide +kernel
theorem dX7_turns_115 : decode cX7_turns 115 = .ok (.aload_n 0, 1) := by decide +kernel
theorem dX7_turns_116 : decode cX7_turns 116 = .ok (.getfield 44, 3) := by decide +kernel
theorem dX7_turns_119 : decode cX7_turns 119 = .ok (.bipush 13, 2) := by decide +kernel
theorem dX7_turns_121 : decode cX7_turns 121 = .ok (.iload_n 3, 1) := by decide +kernel
theorem dX7_turns_122 : decode cX7_turns 122 = .ok (.imul, 1) := by decide +kernel
theorem dX7_turns_123 : decode cX7_turns 123 = .ok (.iload 4, 2) := by decide +kernel
theorem dX7_turns_125 : decode cX7_turns 125 = .ok (.iadd, 1) := by decide +kernel
theorem dX7_turns_126 : decode cX7_turns 126 = .ok (.iconst 1, 1) := by decide +kernel
theorem dX7_turns_127 : decode cX7_turns 127 = .ok (.isub, 1) := by decide +kernel
theorem dX7_turns_128 : decode cX7_turns 128 = .ok (.iaload, 1) := by decide +kernel
theorem dX7_turns_129 : decode cX7_turns 129 = .ok (.aload_n 0, 1) := by decide +kernel
theorem dX7_turns_130 : decode cX7_turns 130 = .ok (.getfield 41, 3) := by decide +kernel
theorem dX7_turns_133 : decode cX7_turns 133 = .ok (.iload 4, 2) := by decide +kernel
theorem dX7_turns_135 : decode cX7_turns 135 = .ok (.iconst 1, 1) := by decide +kernel
theorem dX7_turns_136 : decode cX7_turns 136 = .ok (.isub, 1) := by decide +kernel
theorem dX7_turns_137 : decode cX7_turns 137 = .ok (.iaload, 1) := by decide +kernel
theorem dX7_turns_138 : decode cX7_turns 138 = .ok (.invokestatic 112, 3) := by decide +kernel
theorem dX7_turns_141 : decode cX7_turns 141 = .ok (.iadd, 1) := by decide +kernel
theorem dX7_turns_142 : decode cX7_turns 142 = .ok (.invokestatic 116, 3) := by decide +kernel
theorem dX7_turns_145 : decode cX7_turns 145 = .ok (.istore 5, 2) := by decide +kernel
theorem dX7_turns_147 : decode cX7_turns 147 = .ok (.iload_n 3, 1) := by decide +kernel
theorem dX7_turns_148 : decode cX7_turns 148 = .ok (.ifCond .le 52, 3) := by decide +kernel
theorem dX7_turns_151 : decode cX7_turns 151 = .ok (.iload 4, 2) := by decide +kernel
theorem dX7_turns_153 : decode cX7_turns 153 = .ok (.ifCond .le 47, 3) := by decide +kernel
theorem dX7_turns_156 : decode cX7_turns 156 = .ok (.iload 5, 2) := by decide +kernel
theorem dX7_turns_158 : decode cX7_turns 158 = .ok (.aload_n 0, 1) := by decide +kernel
theorem dX7_turns_159 : decode cX7_turns 159 = .ok (.getfield 44, 3) := by decide +kernel
theorem dX7_turns_162 : decode cX7_turns 162 = .ok (.bipush 13, 2) := by decide +kernel
theorem dX7_turns_164 : decode cX7_turns 164 = .ok (.iload_n 3, 1) := by decide +kernel
theorem dX7_turns_165 : decode cX7_turns 165 = .ok (.iconst 1, 1) := by decide +kernel
theorem dX7_turns_166 : decode cX7_turns 166 = .ok (.isub, 1) := by decide +kernel
theorem dX7_turns_167 : decode cX7_turns 167 = .ok (.imul, 1) := by decide +kernel
theorem dX7_turns_168 : decode cX7_turns 168 = .ok (.iload 4, 2) := by decide +kernel
theorem dX7_turns_170 : decode cX7_turns 170 = .ok (.iadd, 1) := by decide +kernel
theorem dX7_turns_171 : decode cX7_turns 171 = .ok (.iconst 1, 1) := by decide +kernel
theorem dX7_turns_172 : decode cX7_turns 172 = .ok (.isub, 1) := by decide +kernel
theorem dX7_turns_173 : decode cX7_turns 173 = .ok (.iaload, 1) := by decide +kernel
theorem dX7_turns_174 : decode cX7_turns 174 = .ok (.aload_n 0, 1) := by decide +kernel
theorem dX7_turns_175 : decode cX7_turns 175 = .ok (.getfield 38, 3) := by decide +kernel
theorem dX7_turns_178 : decode cX7_turns 178 = .ok (.iload_n 3, 1) := by decide +kernel
theorem dX7_turns_179 : decode cX7_turns 179 = .ok (.iconst 1, 1) := by decide +kernel
theorem dX7_turns_180 : decode cX7_turns 180 = .ok (.isub, 1) := by decide +kernel
theorem dX7_turns_181 : decode cX7_turns 181 = .ok (.iaload, 1) := by decide +kernel
theorem dX7_turns_182 : decode cX7_turns 182 = .ok (.aload_n 0, 1) := by decide +kernel
theorem dX7_turns_183 : decode cX7_turns 183 = .ok (.getfield 41, 3) := by decide +kernel
theorem dX7_turns_186 : decode cX7_turns 186 = .ok (.iload 4, 2) := by decide +kernel
theorem dX7_turns_188 : decode cX7_turns 188 = .ok (.iconst 1, 1) := by decide +kernel
theorem dX7_turns_189 : decode cX7_turns 189 = .ok (.isub, 1) := by decide +kernel
theorem dX7_turns_190 : decode cX7_turns 190 = .ok (.iaload, 1) := by decide +kernel
theorem dX7_turns_191 : decode cX7_turns 191 = .ok (.invokestatic 120, 3) := by decide +kernel
theorem dX7_turns_194 : decode cX7_turns 194 = .ok (.iadd, 1) := by decide +kernel
theorem dX7_turns_195 : decode cX7_turns 195 = .ok (.invokestatic 116, 3) := by decide +kernel
theorem dX7_turns_198 : decode cX7_turns 198 = .ok (.istore 5, 2) := by decide +kernel
theorem dX7_turns_200 : decode cX7_turns 200 = .ok (.aload_n 0, 1) := by decide +kernel
theorem dX7_turns_201 : decode cX7_turns 201 = .ok (.getfield 44, 3) := by decide +kernel
theorem dX7_turns_204 : decode cX7_turns 204 = .ok (.bipush 13, 2) := by decide +kernel
theorem dX7_turns_206 : decode cX7_turns 206 = .ok (.iload_n 3, 1) := by decide +kernel
theorem dX7_turns_207 : decode cX7_turns 207 = .ok (.imul, 1) := by decide +kernel
theorem dX7_turns_208 : decode cX7_turns 208 = .ok (.iload 4, 2) := by decide +kernel
theorem dX7_turns_210 : decode cX7_turns 210 = .ok (.iadd, 1) := by decide +kernel
theorem dX7_turns_211 : decode cX7_turns 211 = .ok (.iload 5, 2) := by decide +kernel
theorem dX7_turns_213 : decode cX7_turns 213 = .ok (.iastore, 1) := by decide +kernel
theorem dX7_turns_214 : decode cX7_turns 214 = .ok (.iinc 4 1, 3) := by decide +kernel
theorem dX7_turns_217 : decode cX7_turns 217 = .ok (.goto (-171), 3) := by decide +kernel
theorem dX7_turns_220 : decode cX7_turns 220 = .ok (.iinc 3 1, 3) := by decide +kernel
theorem dX7_turns_223 : decode cX7_turns 223 = .ok (.goto (-188), 3) := by decide +kernel
theorem dX7_turns_226 : decode cX7_turns 226 = .ok (.aload_n 0, 1) := by decide +kernel
theorem dX7_turns_227 : decode cX7_turns 227 = .ok (.getfield 44, 3) := by decide +kernel
theorem dX7_turns_230 : decode cX7_turns 230 = .ok (.bipush 13, 2) := by decide +kernel
theorem dX7_turns_232 : decode cX7_turns 232 = .ok (.aload_n 0, 1) := by decide +kernel
theorem dX7_turns_233 : decode cX7_turns 233 = .ok (.getfield 106, 3) := by decide +kernel
theorem dX7_turns_236 : decode cX7_turns 236 = .ok (.imul, 1) := by decide +kernel
theorem dX7_turns_237 : decode cX7_turns 237 = .ok (.aload_n 0, 1) := by decide +kernel
theorem dX7_turns_238 : decode cX7_turns 238 = .ok (.getfield 109, 3) := by decide +kernel
theorem dX7_turns_241 : decode cX7_turns 241 = .ok (.iadd, 1) := by decide +kernel
theorem dX7_turns_242 : decode cX7_turns 242 = .ok (.iaload, 1) := by decide +kernel
theorem dX7_turns_243 : decode cX7_turns 243 = .ok (.ireturn, 1) := by decide +kernel
theorem dX7_least_0 : decode cX7_least 0 = .ok (.iload_n 0, 1) := by decide +kernel
theorem dX7_least_1 : decode cX7_least 1 = .ok (.iload_n 1, 1) := by decide +kernel
theorem dX7_least_2 : decode cX7_least 2 = .ok (.if_icmp .ge 7, 3) := by decide +kernel
theorem dX7_least_5 : decode cX7_least 5 = .ok (.iload_n 0, 1) := by decide +kernel
theorem dX7_least_6 : decode cX7_least 6 = .ok (.goto 4, 3) := by decide +kernel
theorem dX7_least_9 : decode cX7_least 9 = .ok (.iload_n 1, 1) := by decide +kernel
theorem dX7_least_10 : decode cX7_least 10 = .ok (.ireturn, 1) := by decide +kernel
set_option maxRecDepth 20000 in
theorem ggX7_findDistances_X7_findCommon : GoodIn wsX7_findDistances wsX7_findCommon := goodIn_r _ [7, 8, 9, 10, 11, 6, 12, 1, 13, 14, 15, 16, 17, 18, 41, 42, 43, 44, 45, 46, 47, 48, 49, 50, 51, 52, 53, 54, 55, 56, 57, 58, 59, 60, 61, 62, 63, 64, 65, 66, 67, 68, 69, 70, 71] (by decide +kernel) (by decide +kernel)
set_option maxRecDepth 20000 in
theorem gX7_findDistances_X7_findCommon : GoodIn wsX7_findDistances (wsV RX7 123 RX7 yX7_findCommon wsX7_findCommon) := goodIn_app (goodIn_of _ (by decide +kernel)) ggX7_findDistances_X7_findCommon
set_option maxRecDepth 20000 in
theorem ggX7_findDistances_X7_turns : GoodIn wsX7_findDistances wsX7_turns := goodIn_r _ [22, 23, 24, 25, 26, 27, 28, 29, 30, 6, 31, 17, 18, 8, 32, 33, 34, 35, 36, 37, 38, 39, 40, 41, 42, 43, 44, 45, 46, 47, 48, 49, 50, 51, 52, 53, 54, 55, 56, 57, 58, 59, 60, 61, 62, 63, 64, 65, 66, 67, 68, 69, 70, 71] (by decide +kernel) (by decide +kernel)
set_option maxRecDepth 20000 in
theorem gX7_findDistances_X7_turns : GoodIn wsX7_findDistances (wsV RX7 126 RX7 yX7_turns wsX7_turns) := goodIn_app (goodIn_of _ (by decide +kernel)) ggX7_findDistances_X7_turns
theorem dX7_findDistances_0 : decode cX7_findDistances 0 = .ok (.aload_n 0, 1) := by decide +kernel
theorem dX7_findDistances_1 : decode cX7_findDistances 1 = .ok (.invokevirtual 123, 3) := by decide +kernel
theorem dX7_findDistances_4 : decode cX7_findDistances 4 = .ok (.iconst 0, 1) := by decide +kernel
theorem dX7_findDistances_5 : decode cX7_findDistances 5 = .ok (.istore_n 1, 1) := by decide +kernel
theorem dX7_findDistances_6 : decode cX7_findDistances 6 = .ok (.iload_n 1, 1) := by decide +kernel
theorem dX7_findDistances_7 : decode cX7_findDistances 7 = .ok (.aload_n 0, 1) := by decide +kernel
theorem dX7_findDistances_8 : decode cX7_findDistances 8 = .ok (.getfield 86, 3) := by decide +kernel
theorem dX7_findDistances_11 : decode cX7_findDistances 11 = .ok (.if_icmp .ge 42, 3) := by decide +kernel
theorem dX7_findDistances_14 : decode cX7_findDistances 14 = .ok (.iconst 0, 1) := by decide +kernel
theorem dX7_findDistances_15 : decode cX7_findDistances 15 = .ok (.istore_n 2, 1) := by decide +kernel
theorem dX7_findDistances_16 : decode cX7_findDistances 16 = .ok (.iload_n 2, 1) := by decide +kernel
theorem dX7_findDistances_17 : decode cX7_findDistances 17 = .ok (.aload_n 0, 1) := by decide +kernel
theorem dX7_findDistances_18 : decode cX7_findDistances 18 = .ok (.getfield 86, 3) := by decide +kernel
theorem dX7_findDistances_21 : decode cX7_findDistances 21 = .ok (.if_icmp .ge 26, 3) := by decide +kernel
theorem dX7_findDistances_24 : decode cX7_findDistances 24 = .ok (.aload_n 0, 1) := by decide +kernel
theorem dX7_findDistances_25 : decode cX7_findDistances 25 = .ok (.getfield 47, 3) := by decide +kernel
theorem dX7_findDistances_28 : decode cX7_findDistances 28 = .ok (.bipush 40, 2) := by decide +kernel
theorem dX7_findDistances_30 : decode cX7_findDistances 30 = .ok (.iload_n 1, 1) := by decide +kernel
theorem dX7_findDistances_31 : decode cX7_findDistances 31 = .ok (.imul, 1) := by decide +kernel
theorem dX7_findDistances_32 : decode cX7_findDistances 32 = .ok (.iload_n 2, 1) := by decide +kernel
theorem dX7_findDistances_33 : decode cX7_findDistances 33 = .ok (.iadd, 1) := by decide +kernel
theorem dX7_findDistances_34 : decode cX7_findDistances 34 = .ok (.aload_n 0, 1) := by decide +kernel
theorem dX7_findDistances_35 : decode cX7_findDistances 35 = .ok (.iload_n 1, 1) := by decide +kernel
theorem dX7_findDistances_36 : decode cX7_findDistances 36 = .ok (.iload_n 2, 1) := by decide +kernel
theorem dX7_findDistances_37 : decode cX7_findDistances 37 = .ok (.invokevirtual 126, 3) := by decide +kernel
theorem dX7_findDistances_40 : decode cX7_findDistances 40 = .ok (.iastore, 1) := by decide +kernel
theorem dX7_findDistances_41 : decode cX7_findDistances 41 = .ok (.iinc 2 1, 3) := by decide +kernel
theorem dX7_findDistances_44 : decode cX7_findDistances 44 = .ok (.goto (-28), 3) := by decide +kernel
theorem dX7_findDistances_47 : decode cX7_findDistances 47 = .ok (.iinc 1 1, 3) := by decide +kernel
theorem dX7_findDistances_50 : decode cX7_findDistances 50 = .ok (.goto (-44), 3) := by decide +kernel
theorem dX7_findDistances_53 : decode cX7_findDistances 53 = .ok (.return_, 1) := by decide +kernel
theorem dX7_pairCost_0 : decode cX7_pairCost 0 = .ok (.aload_n 0, 1) := by decide +kernel
theorem dX7_pairCost_1 : decode cX7_pairCost 1 = .ok (.getfield 47, 3) := by decide +kernel
theorem dX7_pairCost_4 : decode cX7_pairCost 4 = .ok (.bipush 40, 2) := by decide +kernel
theorem dX7_pairCost_6 : decode cX7_pairCost 6 = .ok (.iload_n 1, 1) := by decide +kernel
theorem dX7_pairCost_7 : decode cX7_pairCost 7 = .ok (.imul, 1) := by decide +kernel
theorem dX7_pairCost_8 : decode cX7_pairCost 8 = .ok (.iload_n 2, 1) := by decide +kernel
theorem dX7_pairCost_9 : decode cX7_pairCost 9 = .ok (.iadd, 1) := by decide +kernel
theorem dX7_pairCost_10 : decode cX7_pairCost 10 = .ok (.iaload, 1) := by decide +kernel
theorem dX7_pairCost_11 : decode cX7_pairCost 11 = .ok (.istore 4, 2) := by decide +kernel
theorem dX7_pairCost_13 : decode cX7_pairCost 13 = .ok (.aload_n 0, 1) := by decide +kernel
theorem dX7_pairCost_14 : decode cX7_pairCost 14 = .ok (.getfield 57, 3) := by decide +kernel
theorem dX7_pairCost_17 : decode cX7_pairCost 17 = .ok (.bipush 40, 2) := by decide +kernel
theorem dX7_pairCost_19 : decode cX7_pairCost 19 = .ok (.iload_n 1, 1) := by decide +kernel
theorem dX7_pairCost_20 : decode cX7_pairCost 20 = .ok (.imul, 1) := by decide +kernel
theorem dX7_pairCost_21 : decode cX7_pairCost 21 = .ok (.iload_n 2, 1) := by decide +kernel
theorem dX7_pairCost_22 : decode cX7_pairCost 22 = .ok (.iadd, 1) := by decide +kernel
theorem dX7_pairCost_23 : decode cX7_pairCost 23 = .ok (.iaload, 1) := by decide +kernel
theorem dX7_pairCost_24 : decode cX7_pairCost 24 = .ok (.istore 5, 2) := by decide +kernel
theorem dX7_pairCost_26 : decode cX7_pairCost 26 = .ok (.iload_n 3, 1) := by decide +kernel
theorem dX7_pairCost_27 : decode cX7_pairCost 27 = .ok (.ifCond .eq 38, 3) := by decide +kernel
theorem dX7_pairCost_30 : decode cX7_pairCost 30 = .ok (.iload 4, 2) := by decide +kernel
theorem dX7_pairCost_32 : decode cX7_pairCost 32 = .ok (.aload_n 0, 1) := by decide +kernel
theorem dX7_pairCost_33 : decode cX7_pairCost 33 = .ok (.getfield 54, 3) := by decide +kernel
theorem dX7_pairCost_36 : decode cX7_pairCost 36 = .ok (.if_icmp .le 13, 3) := by decide +kernel
theorem dX7_pairCost_39 : decode cX7_pairCost 39 = .ok (.iload 4, 2) := by decide +kernel
theorem dX7_pairCost_41 : decode cX7_pairCost 41 = .ok (.aload_n 0, 1) := by decide +kernel
theorem dX7_pairCost_42 : decode cX7_pairCost 42 = .ok (.getfield 54, 3) := by decide +kernel
theorem dX7_pairCost_45 : decode cX7_pairCost 45 = .ok (.isub, 1) := by decide +kernel
theorem dX7_pairCost_46 : decode cX7_pairCost 46 = .ok (.goto 4, 3) := by decide +kernel
theorem dX7_pairCost_49 : decode cX7_pairCost 49 = .ok (.iconst 0, 1) := by decide +kernel
theorem dX7_pairCost_50 : decode cX7_pairCost 50 = .ok (.iload 5, 2) := by decide +kernel
theorem dX7_pairCost_52 : decode cX7_pairCost 52 = .ok (.iconst 2, 1) := by decide +kernel
theorem dX7_pairCost_53 : decode cX7_pairCost 53 = .ok (.if_icmp .ne 9, 3) := by decide +kernel
theorem dX7_pairCost_56 : decode cX7_pairCost 56 = .ok (.sipush 1000, 3) := by decide +kernel
theorem dX7_pairCost_59 : decode cX7_pairCost 59 = .ok (.goto 4, 3) := by decide +kernel
theorem dX7_pairCost_62 : decode cX7_pairCost 62 = .ok (.iconst 0, 1) := by decide +kernel
theorem dX7_pairCost_63 : decode cX7_pairCost 63 = .ok (.iadd, 1) := by decide +kernel
theorem dX7_pairCost_64 : decode cX7_pairCost 64 = .ok (.ireturn, 1) := by decide +kernel
theorem dX7_pairCost_65 : decode cX7_pairCost 65 = .ok (.iload 4, 2) := by decide +kernel
theorem dX7_pairCost_67 : decode cX7_pairCost 67 = .ok (.aload_n 0, 1) := by decide +kernel
theorem dX7_pairCost_68 : decode cX7_pairCost 68 = .ok (.getfield 54, 3) := by decide +kernel
theorem dX7_pairCost_71 : decode cX7_pairCost 71 = .ok (.if_icmp .ge 13, 3) := by decide +kernel
theorem dX7_pairCost_74 : decode cX7_pairCost 74 = .ok (.aload_n 0, 1) := by decide +kernel
theorem dX7_pairCost_75 : decode cX7_pairCost 75 = .ok (.getfield 54, 3) := by decide +kernel
theorem dX7_pairCost_78 : decode cX7_pairCost 78 = .ok (.iload 4, 2) := by decide +kernel
theorem dX7_pairCost_80 : decode cX7_pairCost 80 = .ok (.isub, 1) := by decide +kernel
theorem dX7_pairCost_81 : decode cX7_pairCost 81 = .ok (.goto 4, 3) := by decide +kernel
theorem dX7_pairCost_84 : decode cX7_pairCost 84 = .ok (.iconst 0, 1) := by decide +kernel
theorem dX7_pairCost_85 : decode cX7_pairCost 85 = .ok (.iload 5, 2) := by decide +kernel
theorem dX7_pairCost_87 : decode cX7_pairCost 87 = .ok (.iconst 1, 1) := by decide +kernel
theorem dX7_pairCost_88 : decode cX7_pairCost 88 = .ok (.if_icmp .ne 9, 3) := by decide +kernel
theorem dX7_pairCost_91 : decode cX7_pairCost 91 = .ok (.sipush 1000, 3) := by decide +kernel
theorem dX7_pairCost_94 : decode cX7_pairCost 94 = .ok (.goto 4, 3) := by decide +kernel
theorem dX7_pairCost_97 : decode cX7_pairCost 97 = .ok (.iconst 0, 1) := by decide +kernel
theorem dX7_pairCost_98 : decode cX7_pairCost 98 = .ok (.iadd, 1) := by decide +kernel
theorem dX7_pairCost_99 : decode cX7_pairCost 99 = .ok (.ireturn, 1) := by decide +kernel
set_option maxRecDepth 20000 in
theorem ggX7_gain_X7_pairCost : GoodIn wsX7_gain wsX7_pairCost := goodIn_r _ [5, 6, 7, 8, 9, 10, 11, 12, 13, 14, 15, 16, 17, 18, 19, 20, 21, 22, 23, 24, 25, 26, 27, 28, 29, 30, 31, 32, 33, 34, 35, 36, 37, 38, 39] (by decide +kernel) (by decide +kernel)
set_option maxRecDepth 20000 in
theorem gX7_gain_X7_pairCost : GoodIn wsX7_gain (wsV RX7 129 RX7 yX7_pairCost wsX7_pairCost) := goodIn_app (goodIn_of _ (by decide +kernel)) ggX7_gain_X7_pairCost
theorem dX7_gain_0 : decode cX7_gain 0 = .ok (.aload_n 0, 1) := by decide +kernel
theorem dX7_gain_1 : decode cX7_gain 1 = .ok (.iload_n 1, 1) := by decide +kernel
theorem dX7_gain_2 : decode cX7_gain 2 = .ok (.iload_n 2, 1) := by decide +kernel
theorem dX7_gain_3 : decode cX7_gain 3 = .ok (.iconst 1, 1) := by decide +kernel
theorem dX7_gain_4 : decode cX7_gain 4 = .ok (.invokevirtual 129, 3) := by decide +kernel
theorem dX7_gain_7 : decode cX7_gain 7 = .ok (.aload_n 0, 1) := by decide +kernel
theorem dX7_gain_8 : decode cX7_gain 8 = .ok (.iload_n 1, 1) := by decide +kernel
theorem dX7_gain_9 : decode cX7_gain 9 = .ok (.iload_n 2, 1) := by decide +kernel
theorem dX7_gain_10 : decode cX7_gain 10 = .ok (.iconst 0, 1) := by decide +kernel
theorem dX7_gain_11 : decode cX7_gain 11 = .ok (.invokevirtual 129, 3) := by decide +kernel
theorem dX7_gain_14 : decode cX7_gain 14 = .ok (.isub, 1) := by decide +kernel
theorem dX7_gain_15 : decode cX7_gain 15 = .ok (.ireturn, 1) := by decide +kernel
set_option maxRecDepth 20000 in
theorem ggX7_moved_X7_gain : GoodIn wsX7_moved wsX7_gain := goodIn_r _ [7, 8, 9, 10, 6, 11, 12, 13, 14, 15, 16, 17, 18, 19, 20, 21, 22, 23, 24, 25, 26, 27, 28, 29, 30, 31, 32, 33, 34, 35, 36, 37, 38, 39, 40, 41, 42, 43, 44, 45] (by decide +kernel) (by decide +kernel)
set_option maxRecDepth 20000 in
theorem gX7_moved_X7_gain : GoodIn wsX7_moved (wsV RX7 133 RX7 yX7_gain wsX7_gain) := goodIn_app (goodIn_of _ (by decide +kernel)) ggX7_moved_X7_gain
theorem dX7_moved_0 : decode cX7_moved 0 = .ok (.iconst 0, 1) := by decide +kernel
theorem dX7_moved_1 : decode cX7_moved 1 = .ok (.istore_n 3, 1) := by decide +kernel
theorem dX7_moved_2 : decode cX7_moved 2 = .ok (.iconst 0, 1) := by decide +kernel
theorem dX7_moved_3 : decode cX7_moved 3 = .ok (.istore 4, 2) := by decide +kernel
theorem dX7_moved_5 : decode cX7_moved 5 = .ok (.iload 4, 2) := by decide +kernel
theorem dX7_moved_7 : decode cX7_moved 7 = .ok (.aload_n 0, 1) := by decide +kernel
theorem dX7_moved_8 : decode cX7_moved 8 = .ok (.getfield 86, 3) := by decide +kernel
theorem dX7_moved_11 : decode cX7_moved 11 = .ok (.if_icmp .ge 67, 3) := by decide +kernel
theorem dX7_moved_14 : decode cX7_moved 14 = .ok (.iload 4, 2) := by decide +kernel
theorem dX7_moved_16 : decode cX7_moved 16 = .ok (.iload_n 1, 1) := by decide +kernel
theorem dX7_moved_17 : decode cX7_moved 17 = .ok (.if_icmp .eq 55, 3) := by decide +kernel
theorem dX7_moved_20 : decode cX7_moved 20 = .ok (.iload_n 3, 1) := by decide +kernel
theorem dX7_moved_21 : decode cX7_moved 21 = .ok (.aload_n 0, 1) := by decide +kernel
theorem dX7_moved_22 : decode cX7_moved 22 = .ok (.getfield 35, 3) := by decide +kernel
theorem dX7_moved_25 : decode cX7_moved 25 = .ok (.iload 4, 2) := by decide +kernel
theorem dX7_moved_27 : decode cX7_moved 27 = .ok (.iaload, 1) := by decide +kernel
theorem dX7_moved_28 : decode cX7_moved 28 = .ok (.iload_n 2, 1) := by decide +kernel
theorem dX7_moved_29 : decode cX7_moved 29 = .ok (.if_icmp .ne 13, 3) := by decide +kernel
theorem dX7_moved_32 : decode cX7_moved 32 = .ok (.aload_n 0, 1) := by decide +kernel
theorem dX7_moved_33 : decode cX7_moved 33 = .ok (.iload_n 1, 1) := by decide +kernel
theorem dX7_moved_34 : decode cX7_moved 34 = .ok (.iload 4, 2) := by decide +kernel
theorem dX7_moved_36 : decode cX7_moved 36 = .ok (.invokevirtual 133, 3) := by decide +kernel
theorem dX7_moved_39 : decode cX7_moved 39 = .ok (.goto 31, 3) := by decide +kernel
theorem dX7_moved_42 : decode cX7_moved 42 = .ok (.aload_n 0, 1) := by decide +kernel
theorem dX7_moved_43 : decode cX7_moved 43 = .ok (.getfield 35, 3) := by decide +kernel
theorem dX7_moved_46 : decode cX7_moved 46 = .ok (.iload 4, 2) := by decide +kernel
theorem dX7_moved_48 : decode cX7_moved 48 = .ok (.iaload, 1) := by decide +kernel
theorem dX7_moved_49 : decode cX7_moved 49 = .ok (.aload_n 0, 1) := by decide +kernel
theorem dX7_moved_50 : decode cX7_moved 50 = .ok (.getfield 35, 3) := by decide +kernel
theorem dX7_moved_53 : decode cX7_moved 53 = .ok (.iload_n 1, 1) := by decide +kernel
theorem dX7_moved_54 : decode cX7_moved 54 = .ok (.iaload, 1) := by decide +kernel
theorem dX7_moved_55 : decode cX7_moved 55 = .ok (.if_icmp .ne 14, 3) := by decide +kernel
theorem dX7_moved_58 : decode cX7_moved 58 = .ok (.aload_n 0, 1) := by decide +kernel
theorem dX7_moved_59 : decode cX7_moved 59 = .ok (.iload_n 1, 1) := by decide +kernel
theorem dX7_moved_60 : decode cX7_moved 60 = .ok (.iload 4, 2) := by decide +kernel
theorem dX7_moved_62 : decode cX7_moved 62 = .ok (.invokevirtual 133, 3) := by decide +kernel
theorem dX7_moved_65 : decode cX7_moved 65 = .ok (.ineg, 1) := by decide +kernel
theorem dX7_moved_66 : decode cX7_moved 66 = .ok (.goto 4, 3) := by decide +kernel
theorem dX7_moved_69 : decode cX7_moved 69 = .ok (.iconst 0, 1) := by decide +kernel
theorem dX7_moved_70 : decode cX7_moved 70 = .ok (.iadd, 1) := by decide +kernel
theorem dX7_moved_71 : decode cX7_moved 71 = .ok (.istore_n 3, 1) := by decide +kernel
theorem dX7_moved_72 : decode cX7_moved 72 = .ok (.iinc 4 1, 3) := by decide +kernel
theorem dX7_moved_75 : decode cX7_moved 75 = .ok (.goto (-70), 3) := by decide +kernel
theorem dX7_moved_78 : decode cX7_moved 78 = .ok (.iload_n 3, 1) := by decide +kernel
theorem dX7_moved_79 : decode cX7_moved 79 = .ok (.ireturn, 1) := by decide +kernel
set_option maxRecDepth 20000 in
theorem ggX7_melted_X7_gain : GoodIn wsX7_melted wsX7_gain := goodIn_r _ [7, 8, 9, 10, 6, 11, 12, 13, 14, 15, 16, 17, 18, 19, 20, 21, 22, 23, 24, 25, 26, 27, 28, 29, 30, 31, 32, 33, 34, 35, 36, 37, 38, 39, 40, 41, 42, 43, 44, 45] (by decide +kernel) (by decide +kernel)
set_option maxRecDepth 20000 in
theorem gX7_melted_X7_gain : GoodIn wsX7_melted (wsV RX7 133 RX7 yX7_gain wsX7_gain) := goodIn_app (goodIn_of _ (by decide +kernel)) ggX7_melted_X7_gain
theorem dX7_melted_0 : decode cX7_melted 0 = .ok (.iconst 0, 1) := by decide +kernel
theorem dX7_melted_1 : decode cX7_melted 1 = .ok (.istore_n 3, 1) := by decide +kernel
theorem dX7_melted_2 : decode cX7_melted 2 = .ok (.iconst 0, 1) := by decide +kernel
theorem dX7_melted_3 : decode cX7_melted 3 = .ok (.istore 4, 2) := by decide +kernel
theorem dX7_melted_5 : decode cX7_melted 5 = .ok (.iload 4, 2) := by decide +kernel
theorem dX7_melted_7 : decode cX7_melted 7 = .ok (.aload_n 0, 1) := by decide +kernel
theorem dX7_melted_8 : decode cX7_melted 8 = .ok (.getfield 86, 3) := by decide +kernel
theorem dX7_melted_11 : decode cX7_melted 11 = .ok (.if_icmp .ge 64, 3) := by decide +kernel
theorem dX7_melted_14 : decode cX7_melted 14 = .ok (.iconst 0, 1) := by decide +kernel
theorem dX7_melted_15 : decode cX7_melted 15 = .ok (.istore 5, 2) := by decide +kernel
theorem dX7_melted_17 : decode cX7_melted 17 = .ok (.iload 5, 2) := by decide +kernel
theorem dX7_melted_19 : decode cX7_melted 19 = .ok (.aload_n 0, 1) := by decide +kernel
theorem dX7_melted_20 : decode cX7_melted 20 = .ok (.getfield 86, 3) := by decide +kernel
theorem dX7_melted_23 : decode cX7_melted 23 = .ok (.if_icmp .ge 46, 3) := by decide +kernel
theorem dX7_melted_26 : decode cX7_melted 26 = .ok (.aload_n 0, 1) := by decide +kernel
theorem dX7_melted_27 : decode cX7_melted 27 = .ok (.getfield 35, 3) := by decide +kernel
theorem dX7_melted_30 : decode cX7_melted 30 = .ok (.iload 4, 2) := by decide +kernel
theorem dX7_melted_32 : decode cX7_melted 32 = .ok (.iaload, 1) := by decide +kernel
theorem dX7_melted_33 : decode cX7_melted 33 = .ok (.iload_n 1, 1) := by decide +kernel
theorem dX7_melted_34 : decode cX7_melted 34 = .ok (.if_icmp .ne 35, 3) := by decide +kernel
theorem dX7_melted_37 : decode cX7_melted 37 = .ok (.iload_n 3, 1) := by decide +kernel
theorem dX7_melted_38 : decode cX7_melted 38 = .ok (.aload_n 0, 1) := by decide +kernel
theorem dX7_melted_39 : decode cX7_melted 39 = .ok (.getfield 35, 3) := by decide +kernel
theorem dX7_melted_42 : decode cX7_melted 42 = .ok (.iload 5, 2) := by decide +kernel
theorem dX7_melted_44 : decode cX7_melted 44 = .ok (.iaload, 1) := by decide +kernel
theorem dX7_melted_45 : decode cX7_melted 45 = .ok (.iload_n 2, 1) := by decide +kernel
theorem dX7_melted_46 : decode cX7_melted 46 = .ok (.if_icmp .ne 14, 3) := by decide +kernel
theorem dX7_melted_49 : decode cX7_melted 49 = .ok (.aload_n 0, 1) := by decide +kernel
theorem dX7_melted_50 : decode cX7_melted 50 = .ok (.iload 4, 2) := by decide +kernel
theorem dX7_melted_52 : decode cX7_melted 52 = .ok (.iload 5, 2) := by decide +kernel
theorem dX7_melted_54 : decode cX7_melted 54 = .ok (.invokevirtual 133, 3) := by decide +kernel
theorem dX7_melted_57 : decode cX7_melted 57 = .ok (.goto 4, 3) := by decide +kernel
theorem dX7_melted_60 : decode cX7_melted 60 = .ok (.iconst 0, 1) := by decide +kernel
theorem dX7_melted_61 : decode cX7_melted 61 = .ok (.iadd, 1) := by decide +kernel
theorem dX7_melted_62 : decode cX7_melted 62 = .ok (.istore_n 3, 1) := by decide +kernel
theorem dX7_melted_63 : decode cX7_melted 63 = .ok (.iinc 5 1, 3) := by decide +kernel
theorem dX7_melted_66 : decode cX7_melted 66 = .ok (.goto (-49), 3) := by decide +kernel
theorem dX7_melted_69 : decode cX7_melted 69 = .ok (.iinc 4 1, 3) := by decide +kernel
theorem dX7_melted_72 : decode cX7_melted 72 = .ok (.goto (-67), 3) := by decide +kernel
theorem dX7_melted_75 : decode cX7_melted 75 = .ok (.iload_n 3, 1) := by decide +kernel
theorem dX7_melted_76 : decode cX7_melted 76 = .ok (.ireturn, 1) := by decide +kernel
theorem dX7_inHeap_0 : decode cX7_inHeap 0 = .ok (.iconst 0, 1) := by decide +kernel
theorem dX7_inHeap_1 : decode cX7_inHeap 1 = .ok (.istore_n 2, 1) := by decide +kernel
theorem dX7_inHeap_2 : decode cX7_inHeap 2 = .ok (.iconst 0, 1) := by decide +kernel
theorem dX7_inHeap_3 : decode cX7_inHeap 3 = .ok (.istore_n 3, 1) := by decide +kernel
theorem dX7_inHeap_4 : decode cX7_inHeap 4 = .ok (.iload_n 3, 1) := by decide +kernel
theorem dX7_inHeap_5 : decode cX7_inHeap 5 = .ok (.aload_n 0, 1) := by decide +kernel
theorem dX7_inHeap_6 : decode cX7_inHeap 6 = .ok (.getfield 86, 3) := by decide +kernel
theorem dX7_inHeap_9 : decode cX7_inHeap 9 = .ok (.if_icmp .ge 27, 3) := by decide +kernel
theorem dX7_inHeap_12 : decode cX7_inHeap 12 = .ok (.iload_n 2, 1) := by decide +kernel
theorem dX7_inHeap_13 : decode cX7_inHeap 13 = .ok (.aload_n 0, 1) := by decide +kernel
theorem dX7_inHeap_14 : decode cX7_inHeap 14 = .ok (.getfield 35, 3) := by decide +kernel
theorem dX7_inHeap_17 : decode cX7_inHeap 17 = .ok (.iload_n 3, 1) := by decide +kernel
theorem dX7_inHeap_18 : decode cX7_inHeap 18 = .ok (.iaload, 1) := by decide +kernel
theorem dX7_inHeap_19 : decode cX7_inHeap 19 = .ok (.iload_n 1, 1) := by decide +kernel
theorem dX7_inHeap_20 : decode cX7_inHeap 20 = .ok (.if_icmp .ne 7, 3) := by decide +kernel
theorem dX7_inHeap_23 : decode cX7_inHeap 23 = .ok (.iconst 1, 1) := by decide +kernel
theorem dX7_inHeap_24 : decode cX7_inHeap 24 = .ok (.goto 4, 3) := by decide +kernel
theorem dX7_inHeap_27 : decode cX7_inHeap 27 = .ok (.iconst 0, 1) := by decide +kernel
theorem dX7_inHeap_28 : decode cX7_inHeap 28 = .ok (.iadd, 1) := by decide +kernel
theorem dX7_inHeap_29 : decode cX7_inHeap 29 = .ok (.istore_n 2, 1) := by decide +kernel
theorem dX7_inHeap_30 : decode cX7_inHeap 30 = .ok (.iinc 3 1, 3) := by decide +kernel
theorem dX7_inHeap_33 : decode cX7_inHeap 33 = .ok (.goto (-29), 3) := by decide +kernel
theorem dX7_inHeap_36 : decode cX7_inHeap 36 = .ok (.iload_n 2, 1) := by decide +kernel
theorem dX7_inHeap_37 : decode cX7_inHeap 37 = .ok (.ireturn, 1) := by decide +kernel
theorem dX7_names_0 : decode cX7_names 0 = .ok (.iconst 0, 1) := by decide +kernel
theorem dX7_names_1 : decode cX7_names 1 = .ok (.istore_n 1, 1) := by decide +kernel
theorem dX7_names_2 : decode cX7_names 2 = .ok (.iload_n 1, 1) := by decide +kernel
theorem dX7_names_3 : decode cX7_names 3 = .ok (.aload_n 0, 1) := by decide +kernel
theorem dX7_names_4 : decode cX7_names 4 = .ok (.getfield 86, 3) := by decide +kernel
theorem dX7_names_7 : decode cX7_names 7 = .ok (.if_icmp .ge 39, 3) := by decide +kernel
theorem dX7_names_10 : decode cX7_names 10 = .ok (.iconst 0, 1) := by decide +kernel
theorem dX7_names_11 : decode cX7_names 11 = .ok (.istore_n 2, 1) := by decide +kernel
theorem dX7_names_12 : decode cX7_names 12 = .ok (.aload_n 0, 1) := by decide +kernel
theorem dX7_names_13 : decode cX7_names 13 = .ok (.getfield 35, 3) := by decide +kernel
theorem dX7_names_16 : decode cX7_names 16 = .ok (.iload_n 2, 1) := by decide +kernel
theorem dX7_names_17 : decode cX7_names 17 = .ok (.iaload, 1) := by decide +kernel
theorem dX7_names_18 : decode cX7_names 18 = .ok (.aload_n 0, 1) := by decide +kernel
theorem dX7_names_19 : decode cX7_names 19 = .ok (.getfield 35, 3) := by decide +kernel
theorem dX7_names_22 : decode cX7_names 22 = .ok (.iload_n 1, 1) := by decide +kernel
theorem dX7_names_23 : decode cX7_names 23 = .ok (.iaload, 1) := by decide +kernel
theorem dX7_names_24 : decode cX7_names 24 = .ok (.if_icmp .eq 9, 3) := by decide +kernel
theorem dX7_names_27 : decode cX7_names 27 = .ok (.iinc 2 1, 3) := by decide +kernel
theorem dX7_names_30 : decode cX7_names 30 = .ok (.goto (-18), 3) := by decide +kernel
theorem dX7_names_33 : decode cX7_names 33 = .ok (.aload_n 0, 1) := by decide +kernel
theorem dX7_names_34 : decode cX7_names 34 = .ok (.getfield 60, 3) := by decide +kernel
theorem dX7_names_37 : decode cX7_names 37 = .ok (.iload_n 1, 1) := by decide +kernel
theorem dX7_names_38 : decode cX7_names 38 = .ok (.iload_n 2, 1) := by decide +kernel
theorem dX7_names_39 : decode cX7_names 39 = .ok (.iastore, 1) := by decide +kernel
theorem dX7_names_40 : decode cX7_names 40 = .ok (.iinc 1 1, 3) := by decide +kernel
theorem dX7_names_43 : decode cX7_names 43 = .ok (.goto (-41), 3) := by decide +kernel
theorem dX7_names_46 : decode cX7_names 46 = .ok (.iconst 0, 1) := by decide +kernel
theorem dX7_names_47 : decode cX7_names 47 = .ok (.istore_n 1, 1) := by decide +kernel
theorem dX7_names_48 : decode cX7_names 48 = .ok (.iload_n 1, 1) := by decide +kernel
theorem dX7_names_49 : decode cX7_names 49 = .ok (.aload_n 0, 1) := by decide +kernel
theorem dX7_names_50 : decode cX7_names 50 = .ok (.getfield 86, 3) := by decide +kernel
theorem dX7_names_53 : decode cX7_names 53 = .ok (.if_icmp .ge 21, 3) := by decide +kernel
theorem dX7_names_56 : decode cX7_names 56 = .ok (.aload_n 0, 1) := by decide +kernel
theorem dX7_names_57 : decode cX7_names 57 = .ok (.getfield 35, 3) := by decide +kernel
theorem dX7_names_60 : decode cX7_names 60 = .ok (.iload_n 1, 1) := by decide +kernel
theorem dX7_names_61 : decode cX7_names 61 = .ok (.aload_n 0, 1) := by decide +kernel
theorem dX7_names_62 : decode cX7_names 62 = .ok (.getfield 60, 3) := by decide +kernel
theorem dX7_names_65 : decode cX7_names 65 = .ok (.iload_n 1, 1) := by decide +kernel
theorem dX7_names_66 : decode cX7_names 66 = .ok (.iaload, 1) := by decide +kernel
theorem dX7_names_67 : decode cX7_names 67 = .ok (.iastore, 1) := by decide +kernel
theorem dX7_names_68 : decode cX7_names 68 = .ok (.iinc 1 1, 3) := by decide +kernel
theorem dX7_names_71 : decode cX7_names 71 = .ok (.goto (-23), 3) := by decide +kernel
theorem dX7_names_74 : decode cX7_names 74 = .ok (.return_, 1) := by decide +kernel
theorem dX7_asks_0 : decode cX7_asks 0 = .ok (.iload_n 1, 1) := by decide +kernel
theorem dX7_asks_1 : decode cX7_asks 1 = .ok (.aload_n 0, 1) := by decide +kernel
theorem dX7_asks_2 : decode cX7_asks 2 = .ok (.getfield 136, 3) := by decide +kernel
theorem dX7_asks_5 : decode cX7_asks 5 = .ok (.if_icmp .ge 24, 3) := by decide +kernel
theorem dX7_asks_8 : decode cX7_asks 8 = .ok (.aload_n 0, 1) := by decide +kernel
theorem dX7_asks_9 : decode cX7_asks 9 = .ok (.iload_n 1, 1) := by decide +kernel
theorem dX7_asks_10 : decode cX7_asks 10 = .ok (.putfield 136, 3) := by decide +kernel
theorem dX7_asks_13 : decode cX7_asks 13 = .ok (.aload_n 0, 1) := by decide +kernel
theorem dX7_asks_14 : decode cX7_asks 14 = .ok (.iload_n 2, 1) := by decide +kernel
theorem dX7_asks_15 : decode cX7_asks 15 = .ok (.putfield 139, 3) := by decide +kernel
theorem dX7_asks_18 : decode cX7_asks 18 = .ok (.aload_n 0, 1) := by decide +kernel
theorem dX7_asks_19 : decode cX7_asks 19 = .ok (.iload_n 3, 1) := by decide +kernel
theorem dX7_asks_20 : decode cX7_asks 20 = .ok (.putfield 142, 3) := by decide +kernel
theorem dX7_asks_23 : decode cX7_asks 23 = .ok (.aload_n 0, 1) := by decide +kernel
theorem dX7_asks_24 : decode cX7_asks 24 = .ok (.iload 4, 2) := by decide +kernel
theorem dX7_asks_26 : decode cX7_asks 26 = .ok (.putfield 145, 3) := by decide +kernel
theorem dX7_asks_29 : decode cX7_asks 29 = .ok (.return_, 1) := by decide +kernel
set_option maxRecDepth 20000 in
theorem ggX7_findBest_X7_moved : GoodIn wsX7_findBest wsX7_moved := goodIn_r _ [8, 2, 3, 9, 10, 11, 7, 12, 13, 14, 15, 16, 17, 18, 19, 35, 36, 37, 38, 39, 40, 41, 42, 43, 44, 45, 46, 47, 48, 49, 50, 51, 52, 53, 54, 55, 56, 57, 58, 59, 60, 61, 62, 63, 64, 65] (by decide +kernel) (by decide +kernel)
set_option maxRecDepth 20000 in
theorem gX7_findBest_X7_moved : GoodIn wsX7_findBest (wsV RX7 149 RX7 yX7_moved wsX7_moved) := goodIn_app (goodIn_of _ (by decide +kernel)) ggX7_findBest_X7_moved
set_option maxRecDepth 20000 in
theorem ggX7_findBest_X7_asks : GoodIn wsX7_findBest wsX7_asks := goodIn_r _ [23, 1, 24, 25, 26, 35, 36, 37, 38, 39, 40, 41, 42, 43, 44, 45, 46, 47, 48, 49, 50, 51, 52, 53, 54, 55, 56, 57, 58, 59, 60, 61, 62, 63, 64, 65] (by decide +kernel) (by decide +kernel)
set_option maxRecDepth 20000 in
theorem gX7_findBest_X7_asks : GoodIn wsX7_findBest (wsV RX7 152 RX7 yX7_asks wsX7_asks) := goodIn_app (goodIn_of _ (by decide +kernel)) ggX7_findBest_X7_asks
set_option maxRecDepth 20000 in
theorem ggX7_findBest_X7_inHeap : GoodIn wsX7_findBest wsX7_inHeap := goodIn_r _ [30, 2, 3, 35, 36, 37, 38, 39, 40, 41, 42, 43, 44, 45, 46, 47, 48, 49, 50, 51, 52, 53, 54, 55, 56, 57, 58, 59, 60, 61, 62, 63, 64, 65] (by decide +kernel) (by decide +kernel)
set_option maxRecDepth 20000 in
theorem gX7_findBest_X7_inHeap : GoodIn wsX7_findBest (wsV RX7 156 RX7 yX7_inHeap wsX7_inHeap) := goodIn_app (goodIn_of _ (by decide +kernel)) ggX7_findBest_X7_inHeap
set_option maxRecDepth 20000 in
theorem ggX7_findBest_X7_melted : GoodIn wsX7_findBest wsX7_melted := goodIn_r _ [34, 2, 3, 9, 10, 11, 7, 12, 13, 14, 15, 16, 17, 18, 19, 35, 36, 37, 38, 39, 40, 41, 42, 43, 44, 45, 46, 47, 48, 49, 50, 51, 52, 53, 54, 55, 56, 57, 58, 59, 60, 61, 62, 63, 64, 65] (by decide +kernel) (by decide +kernel)
set_option maxRecDepth 20000 in
theorem gX7_findBest_X7_melted : GoodIn wsX7_findBest (wsV RX7 159 RX7 yX7_melted wsX7_melted) := goodIn_app (goodIn_of _ (by decide +kernel)) ggX7_findBest_X7_melted
theorem dX7_findBest_0 : decode cX7_findBest 0 = .ok (.aload_n 0, 1) := by decide +kernel
theorem dX7_findBest_1 : decode cX7_findBest 1 = .ok (.iconst 0, 1) := by decide +kernel
theorem dX7_findBest_2 : decode cX7_findBest 2 = .ok (.putfield 136, 3) := by decide +kernel
theorem dX7_findBest_5 : decode cX7_findBest 5 = .ok (.iconst 0, 1) := by decide +kernel
theorem dX7_findBest_6 : decode cX7_findBest 6 = .ok (.istore_n 1, 1) := by decide +kernel
theorem dX7_findBest_7 : decode cX7_findBest 7 = .ok (.iload_n 1, 1) := by decide +kernel
theorem dX7_findBest_8 : decode cX7_findBest 8 = .ok (.aload_n 0, 1) := by decide +kernel
theorem dX7_findBest_9 : decode cX7_findBest 9 = .ok (.getfield 86, 3) := by decide +kernel
theorem dX7_findBest_12 : decode cX7_findBest 12 = .ok (.if_icmp .ge 87, 3) := by decide +kernel
theorem dX7_findBest_15 : decode cX7_findBest 15 = .ok (.iconst 0, 1) := by decide +kernel
theorem dX7_findBest_16 : decode cX7_findBest 16 = .ok (.istore_n 2, 1) := by decide +kernel
theorem dX7_findBest_17 : decode cX7_findBest 17 = .ok (.iload_n 2, 1) := by decide +kernel
theorem dX7_findBest_18 : decode cX7_findBest 18 = .ok (.aload_n 0, 1) := by decide +kernel
theorem dX7_findBest_19 : decode cX7_findBest 19 = .ok (.getfield 86, 3) := by decide +kernel
theorem dX7_findBest_22 : decode cX7_findBest 22 = .ok (.if_icmp .ge 42, 3) := by decide +kernel
theorem dX7_findBest_25 : decode cX7_findBest 25 = .ok (.aload_n 0, 1) := by decide +kernel
theorem dX7_findBest_26 : decode cX7_findBest 26 = .ok (.getfield 35, 3) := by decide +kernel
theorem dX7_findBest_29 : decode cX7_findBest 29 = .ok (.iload_n 2, 1) := by decide +kernel
theorem dX7_findBest_30 : decode cX7_findBest 30 = .ok (.iaload, 1) := by decide +kernel
theorem dX7_findBest_31 : decode cX7_findBest 31 = .ok (.iload_n 2, 1) := by decide +kernel
theorem dX7_findBest_32 : decode cX7_findBest 32 = .ok (.if_icmp .ne 26, 3) := by decide +kernel
theorem dX7_findBest_35 : decode cX7_findBest 35 = .ok (.iload_n 2, 1) := by decide +kernel
theorem dX7_findBest_36 : decode cX7_findBest 36 = .ok (.aload_n 0, 1) := by decide +kernel
theorem dX7_findBest_37 : decode cX7_findBest 37 = .ok (.getfield 35, 3) := by decide +kernel
theorem dX7_findBest_40 : decode cX7_findBest 40 = .ok (.iload_n 1, 1) := by decide +kernel
theorem dX7_findBest_41 : decode cX7_findBest 41 = .ok (.iaload, 1) := by decide +kernel
theorem dX7_findBest_42 : decode cX7_findBest 42 = .ok (.if_icmp .eq 16, 3) := by decide +kernel
theorem dX7_findBest_45 : decode cX7_findBest 45 = .ok (.aload_n 0, 1) := by decide +kernel
theorem dX7_findBest_46 : decode cX7_findBest 46 = .ok (.aload_n 0, 1) := by decide +kernel
theorem dX7_findBest_47 : decode cX7_findBest 47 = .ok (.iload_n 1, 1) := by decide +kernel
theorem dX7_findBest_48 : decode cX7_findBest 48 = .ok (.iload_n 2, 1) := by decide +kernel
theorem dX7_findBest_49 : decode cX7_findBest 49 = .ok (.invokevirtual 149, 3) := by decide +kernel
theorem dX7_findBest_52 : decode cX7_findBest 52 = .ok (.iload_n 1, 1) := by decide +kernel
theorem dX7_findBest_53 : decode cX7_findBest 53 = .ok (.iload_n 2, 1) := by decide +kernel
theorem dX7_findBest_54 : decode cX7_findBest 54 = .ok (.iconst 0, 1) := by decide +kernel
theorem dX7_findBest_55 : decode cX7_findBest 55 = .ok (.invokevirtual 152, 3) := by decide +kernel
theorem dX7_findBest_58 : decode cX7_findBest 58 = .ok (.iinc 2 1, 3) := by decide +kernel
theorem dX7_findBest_61 : decode cX7_findBest 61 = .ok (.goto (-44), 3) := by decide +kernel
theorem dX7_findBest_64 : decode cX7_findBest 64 = .ok (.aload_n 0, 1) := by decide +kernel
theorem dX7_findBest_65 : decode cX7_findBest 65 = .ok (.aload_n 0, 1) := by decide +kernel
theorem dX7_findBest_66 : decode cX7_findBest 66 = .ok (.getfield 35, 3) := by decide +kernel
theorem dX7_findBest_69 : decode cX7_findBest 69 = .ok (.iload_n 1, 1) := by decide +kernel
theorem dX7_findBest_70 : decode cX7_findBest 70 = .ok (.iaload, 1) := by decide +kernel
theorem dX7_findBest_71 : decode cX7_findBest 71 = .ok (.invokevirtual 156, 3) := by decide +kernel
theorem dX7_findBest_74 : decode cX7_findBest 74 = .ok (.iconst 1, 1) := by decide +kernel
theorem dX7_findBest_75 : decode cX7_findBest 75 = .ok (.if_icmp .le 18, 3) := by decide +kernel
theorem dX7_findBest_78 : decode cX7_findBest 78 = .ok (.aload_n 0, 1) := by decide +kernel
theorem dX7_findBest_79 : decode cX7_findBest 79 = .ok (.aload_n 0, 1) := by decide +kernel
theorem dX7_findBest_80 : decode cX7_findBest 80 = .ok (.iload_n 1, 1) := by decide +kernel
theorem dX7_findBest_81 : decode cX7_findBest 81 = .ok (.bipush 100, 2) := by decide +kernel
theorem dX7_findBest_83 : decode cX7_findBest 83 = .ok (.invokevirtual 149, 3) := by decide +kernel
theorem dX7_findBest_86 : decode cX7_findBest 86 = .ok (.iload_n 1, 1) := by decide +kernel
theorem dX7_findBest_87 : decode cX7_findBest 87 = .ok (.bipush 100, 2) := by decide +kernel
theorem dX7_findBest_89 : decode cX7_findBest 89 = .ok (.iconst 0, 1) := by decide +kernel
theorem dX7_findBest_90 : decode cX7_findBest 90 = .ok (.invokevirtual 152, 3) := by decide +kernel
theorem dX7_findBest_93 : decode cX7_findBest 93 = .ok (.iinc 1 1, 3) := by decide +kernel
theorem dX7_findBest_96 : decode cX7_findBest 96 = .ok (.goto (-89), 3) := by decide +kernel
theorem dX7_findBest_99 : decode cX7_findBest 99 = .ok (.iconst 0, 1) := by decide +kernel
theorem dX7_findBest_100 : decode cX7_findBest 100 = .ok (.istore_n 1, 1) := by decide +kernel
theorem dX7_findBest_101 : decode cX7_findBest 101 = .ok (.iload_n 1, 1) := by decide +kernel
theorem dX7_findBest_102 : decode cX7_findBest 102 = .ok (.aload_n 0, 1) := by decide +kernel
theorem dX7_findBest_103 : decode cX7_findBest 103 = .ok (.getfield 86, 3) := by decide +kernel
theorem dX7_findBest_106 : decode cX7_findBest 106 = .ok (.if_icmp .ge 60, 3) := by decide +kernel
theorem dX7_findBest_109 : decode cX7_findBest 109 = .ok (.iload_n 1, 1) := by decide +kernel
theorem dX7_findBest_110 : decode cX7_findBest 110 = .ok (.iconst 1, 1) := by decide +kernel
theorem dX7_findBest_111 : decode cX7_findBest 111 = .ok (.iadd, 1) := by decide +kernel
theorem dX7_findBest_112 : decode cX7_findBest 112 = .ok (.istore_n 2, 1) := by decide +kernel
theorem dX7_findBest_113 : decode cX7_findBest 113 = .ok (.iload_n 2, 1) := by decide +kernel
theorem dX7_findBest_114 : decode cX7_findBest 114 = .ok (.aload_n 0, 1) := by decide +kernel
theorem dX7_findBest_115 : decode cX7_findBest 115 = .ok (.getfield 86, 3) := by decide +kernel
theorem dX7_findBest_118 : decode cX7_findBest 118 = .ok (.if_icmp .ge 42, 3) := by decide +kernel
theorem dX7_findBest_121 : decode cX7_findBest 121 = .ok (.aload_n 0, 1) := by decide +kernel
theorem dX7_findBest_122 : decode cX7_findBest 122 = .ok (.getfield 35, 3) := by decide +kernel
theorem dX7_findBest_125 : decode cX7_findBest 125 = .ok (.iload_n 1, 1) := by decide +kernel
theorem dX7_findBest_126 : decode cX7_findBest 126 = .ok (.iaload, 1) := by decide +kernel
theorem dX7_findBest_127 : decode cX7_findBest 127 = .ok (.iload_n 1, 1) := by decide +kernel
theorem dX7_findBest_128 : decode cX7_findBest 128 = .ok (.if_icmp .ne 26, 3) := by decide +kernel
theorem dX7_findBest_131 : decode cX7_findBest 131 = .ok (.aload_n 0, 1) := by decide +kernel
theorem dX7_findBest_132 : decode cX7_findBest 132 = .ok (.getfield 35, 3) := by decide +kernel
theorem dX7_findBest_135 : decode cX7_findBest 135 = .ok (.iload_n 2, 1) := by decide +kernel
theorem dX7_findBest_136 : decode cX7_findBest 136 = .ok (.iaload, 1) := by decide +kernel
theorem dX7_findBest_137 : decode cX7_findBest 137 = .ok (.iload_n 2, 1) := by decide +kernel
theorem dX7_findBest_138 : decode cX7_findBest 138 = .ok (.if_icmp .ne 16, 3) := by decide +kernel
theorem dX7_findBest_141 : decode cX7_findBest 141 = .ok (.aload_n 0, 1) := by decide +kernel
theorem dX7_findBest_142 : decode cX7_findBest 142 = .ok (.aload_n 0, 1) := by decide +kernel
theorem dX7_findBest_143 : decode cX7_findBest 143 = .ok (.iload_n 1, 1) := by decide +kernel
theorem dX7_findBest_144 : decode cX7_findBest 144 = .ok (.iload_n 2, 1) := by decide +kernel
theorem dX7_findBest_145 : decode cX7_findBest 145 = .ok (.invokevirtual 159, 3) := by decide +kernel
theorem dX7_findBest_148 : decode cX7_findBest 148 = .ok (.iload_n 1, 1) := by decide +kernel
theorem dX7_findBest_149 : decode cX7_findBest 149 = .ok (.iload_n 2, 1) := by decide +kernel
theorem dX7_findBest_150 : decode cX7_findBest 150 = .ok (.iconst 1, 1) := by decide +kernel
theorem dX7_findBest_151 : decode cX7_findBest 151 = .ok (.invokevirtual 152, 3) := by decide +kernel
theorem dX7_findBest_154 : decode cX7_findBest 154 = .ok (.iinc 2 1, 3) := by decide +kernel
theorem dX7_findBest_157 : decode cX7_findBest 157 = .ok (.goto (-44), 3) := by decide +kernel
theorem dX7_findBest_160 : decode cX7_findBest 160 = .ok (.iinc 1 1, 3) := by decide +kernel
theorem dX7_findBest_163 : decode cX7_findBest 163 = .ok (.goto (-62), 3) := by decide +kernel
theorem dX7_findBest_166 : decode cX7_findBest 166 = .ok (.return_, 1) := by decide +kernel
set_option maxRecDepth 20000 in
theorem ggX7_settles_X7_findDistances : GoodIn wsX7_settles wsX7_findDistances := goodIn_r _ [12, 2, 13, 14, 15, 16, 11, 17, 18, 19, 20, 21, 22, 23, 24, 25, 26, 27, 28, 29, 30, 31, 32, 33, 34, 35, 36, 37, 38, 39, 40, 41, 42, 43, 44, 45, 46, 47, 48, 49, 50, 86, 87, 88, 89, 90, 91, 92, 93, 94, 95, 96, 97, 98, 99, 100, 101, 102, 103, 104, 105, 106, 107, 108, 109, 110, 111, 112, 113, 114, 115, 116] (by decide +kernel) (by decide +kernel)
set_option maxRecDepth 20000 in
theorem gX7_settles_X7_findDistances : GoodIn wsX7_settles (wsV RX7 162 RX7 yX7_findDistances wsX7_findDistances) := goodIn_app (goodIn_of _ (by decide +kernel)) ggX7_settles_X7_findDistances
set_option maxRecDepth 20000 in
theorem ggX7_settles_X7_findBest : GoodIn wsX7_settles wsX7_findBest := goodIn_r _ [54, 1, 2, 4, 55, 56, 57, 11, 58, 59, 60, 61, 62, 63, 64, 65, 66, 13, 67, 68, 69, 70, 71, 72, 6, 5, 3, 73, 74, 75, 76, 77, 78, 79, 80, 86, 87, 88, 89, 90, 91, 92, 93, 94, 95, 96, 97, 98, 99, 100, 101, 102, 103, 104, 105, 106, 107, 108, 109, 110, 111, 112, 113, 114, 115, 116] (by decide +kernel) (by decide +kernel)
set_option maxRecDepth 20000 in
theorem gX7_settles_X7_findBest : GoodIn wsX7_settles (wsV RX7 165 RX7 yX7_findBest wsX7_findBest) := goodIn_app (goodIn_of _ (by decide +kernel)) ggX7_settles_X7_findBest
set_option maxRecDepth 20000 in
theorem ggX7_settles_X7_names : GoodIn wsX7_settles wsX7_names := goodIn_r _ [84, 2, 4, 85, 86, 87, 88, 89, 90, 91, 92, 93, 94, 95, 96, 97, 98, 99, 100, 101, 102, 103, 104, 105, 106, 107, 108, 109, 110, 111, 112, 113, 114, 115, 116] (by decide +kernel) (by decide +kernel)
set_option maxRecDepth 20000 in
theorem gX7_settles_X7_names : GoodIn wsX7_settles (wsV RX7 168 RX7 yX7_names wsX7_names) := goodIn_app (goodIn_of _ (by decide +kernel)) ggX7_settles_X7_names
theorem dX7_settles_0 : decode cX7_settles 0 = .ok (.aload_n 0, 1) := by decide +kernel
theorem dX7_settles_1 : decode cX7_settles 1 = .ok (.invokevirtual 162, 3) := by decide +kernel
theorem dX7_settles_4 : decode cX7_settles 4 = .ok (.aload_n 0, 1) := by decide +kernel
theorem dX7_settles_5 : decode cX7_settles 5 = .ok (.invokevirtual 165, 3) := by decide +kernel
theorem dX7_settles_8 : decode cX7_settles 8 = .ok (.aload_n 0, 1) := by decide +kernel
theorem dX7_settles_9 : decode cX7_settles 9 = .ok (.getfield 136, 3) := by decide +kernel
theorem dX7_settles_12 : decode cX7_settles 12 = .ok (.ifCond .ge 95, 3) := by decide +kernel
theorem dX7_settles_15 : decode cX7_settles 15 = .ok (.iconst 0, 1) := by decide +kernel
theorem dX7_settles_16 : decode cX7_settles 16 = .ok (.istore_n 1, 1) := by decide +kernel
theorem dX7_settles_17 : decode cX7_settles 17 = .ok (.iload_n 1, 1) := by decide +kernel
theorem dX7_settles_18 : decode cX7_settles 18 = .ok (.aload_n 0, 1) := by decide +kernel
theorem dX7_settles_19 : decode cX7_settles 19 = .ok (.getfield 86, 3) := by decide +kernel
theorem dX7_settles_22 : decode cX7_settles 22 = .ok (.if_icmp .ge 64, 3) := by decide +kernel
theorem dX7_settles_25 : decode cX7_settles 25 = .ok (.aload_n 0, 1) := by decide +kernel
theorem dX7_settles_26 : decode cX7_settles 26 = .ok (.getfield 145, 3) := by decide +kernel
theorem dX7_settles_29 : decode cX7_settles 29 = .ok (.ifCond .eq 19, 3) := by decide +kernel
theorem dX7_settles_32 : decode cX7_settles 32 = .ok (.aload_n 0, 1) := by decide +kernel
theorem dX7_settles_33 : decode cX7_settles 33 = .ok (.getfield 35, 3) := by decide +kernel
theorem dX7_settles_36 : decode cX7_settles 36 = .ok (.iload_n 1, 1) := by decide +kernel
theorem dX7_settles_37 : decode cX7_settles 37 = .ok (.iaload, 1) := by decide +kernel
theorem dX7_settles_38 : decode cX7_settles 38 = .ok (.aload_n 0, 1) := by decide +kernel
theorem dX7_settles_39 : decode cX7_settles 39 = .ok (.getfield 142, 3) := by decide +kernel
theorem dX7_settles_42 : decode cX7_settles 42 = .ok (.if_icmp .ne 38, 3) := by decide +kernel
theorem dX7_settles_45 : decode cX7_settles 45 = .ok (.goto 11, 3) := by decide +kernel
theorem dX7_settles_48 : decode cX7_settles 48 = .ok (.iload_n 1, 1) := by decide +kernel
theorem dX7_settles_49 : decode cX7_settles 49 = .ok (.aload_n 0, 1) := by decide +kernel
theorem dX7_settles_50 : decode cX7_settles 50 = .ok (.getfield 139, 3) := by decide +kernel
theorem dX7_settles_53 : decode cX7_settles 53 = .ok (.if_icmp .ne 27, 3) := by decide +kernel
theorem dX7_settles_56 : decode cX7_settles 56 = .ok (.aload_n 0, 1) := by decide +kernel
theorem dX7_settles_57 : decode cX7_settles 57 = .ok (.getfield 35, 3) := by decide +kernel
theorem dX7_settles_60 : decode cX7_settles 60 = .ok (.iload_n 1, 1) := by decide +kernel
theorem dX7_settles_61 : decode cX7_settles 61 = .ok (.aload_n 0, 1) := by decide +kernel
