theorem dX7_settles_62 : decode cX7_settles 62 = .ok (.getfield 145, 3) := by decide +kernel
theorem dX7_settles_65 : decode cX7_settles 65 = .ok (.ifCond .eq 10, 3) := by decide +kernel
theorem dX7_settles_68 : decode cX7_settles 68 = .ok (.aload_n 0, 1) := by decide +kernel
theorem dX7_settles_69 : decode cX7_settles 69 = .ok (.getfield 139, 3) := by decide +kernel
theorem dX7_settles_72 : decode cX7_settles 72 = .ok (.goto 7, 3) := by decide +kernel
theorem dX7_settles_75 : decode cX7_settles 75 = .ok (.aload_n 0, 1) := by decide +kernel
theorem dX7_settles_76 : decode cX7_settles 76 = .ok (.getfield 142, 3) := by decide +kernel
theorem dX7_settles_79 : decode cX7_settles 79 = .ok (.iastore, 1) := by decide +kernel
theorem dX7_settles_80 : decode cX7_settles 80 = .ok (.iinc 1 1, 3) := by decide +kernel
theorem dX7_settles_83 : decode cX7_settles 83 = .ok (.goto (-66), 3) := by decide +kernel
theorem dX7_settles_86 : decode cX7_settles 86 = .ok (.aload_n 0, 1) := by decide +kernel
theorem dX7_settles_87 : decode cX7_settles 87 = .ok (.invokevirtual 168, 3) := by decide +kernel
theorem dX7_settles_90 : decode cX7_settles 90 = .ok (.aload_n 0, 1) := by decide +kernel
theorem dX7_settles_91 : decode cX7_settles 91 = .ok (.dup, 1) := by decide +kernel
theorem dX7_settles_92 : decode cX7_settles 92 = .ok (.getfield 171, 3) := by decide +kernel
theorem dX7_settles_95 : decode cX7_settles 95 = .ok (.iconst 1, 1) := by decide +kernel
theorem dX7_settles_96 : decode cX7_settles 96 = .ok (.iadd, 1) := by decide +kernel
theorem dX7_settles_97 : decode cX7_settles 97 = .ok (.putfield 171, 3) := by decide +kernel
theorem dX7_settles_100 : decode cX7_settles 100 = .ok (.aload_n 0, 1) := by decide +kernel
theorem dX7_settles_101 : decode cX7_settles 101 = .ok (.invokevirtual 165, 3) := by decide +kernel
theorem dX7_settles_104 : decode cX7_settles 104 = .ok (.goto (-96), 3) := by decide +kernel
theorem dX7_settles_107 : decode cX7_settles 107 = .ok (.return_, 1) := by decide +kernel
set_option maxRecDepth 20000 in
theorem ggX7_resettle_X7_settles : GoodIn wsX7_resettle wsX7_settles := goodIn_r _ [8, 9, 2, 10, 3, 11, 12, 13, 14, 15, 16, 7, 17, 18, 19, 20, 21, 22, 23, 24, 25, 26, 27, 28, 29, 30, 31, 32, 33, 34, 35, 36, 37, 38, 39, 40, 41, 42, 43, 44, 45, 46, 47, 48, 49, 50, 51, 52, 53, 54, 55, 56, 57, 58, 59, 60, 61, 62, 63, 64, 65, 66, 67, 68, 69, 70, 71, 72, 73, 74, 75, 76, 77, 78, 79, 80, 81, 82, 83, 84, 85, 86, 87, 88, 89, 90, 95, 96, 97, 98, 99, 100, 101, 102, 103, 104, 105, 106, 107, 108, 109, 110, 111, 112, 113, 114, 115, 116, 117, 118, 119, 120, 121, 122, 123, 124, 125] (by decide +kernel) (by decide +kernel)
set_option maxRecDepth 20000 in
theorem gX7_resettle_X7_settles : GoodIn wsX7_resettle (wsV RX7 93 RX7 yX7_settles wsX7_settles) := goodIn_app (goodIn_of _ (by decide +kernel)) ggX7_resettle_X7_settles
set_option maxRecDepth 20000 in
theorem ggX7_resettle_X7_heaps : GoodIn wsX7_resettle wsX7_heaps := goodIn_r _ [94, 2, 3, 95, 96, 97, 98, 99, 100, 101, 102, 103, 104, 105, 106, 107, 108, 109, 110, 111, 112, 113, 114, 115, 116, 117, 118, 119, 120, 121, 122, 123, 124, 125] (by decide +kernel) (by decide +kernel)
set_option maxRecDepth 20000 in
theorem gX7_resettle_X7_heaps : GoodIn wsX7_resettle (wsV RX7 174 RX7 yX7_heaps wsX7_heaps) := goodIn_app (goodIn_of _ (by decide +kernel)) ggX7_resettle_X7_heaps
theorem dX7_resettle_0 : decode cX7_resettle 0 = .ok (.aload_n 0, 1) := by decide +kernel
theorem dX7_resettle_1 : decode cX7_resettle 1 = .ok (.iconst 0, 1) := by decide +kernel
theorem dX7_resettle_2 : decode cX7_resettle 2 = .ok (.putfield 1, 3) := by decide +kernel
theorem dX7_resettle_5 : decode cX7_resettle 5 = .ok (.iconst 0, 1) := by decide +kernel
theorem dX7_resettle_6 : decode cX7_resettle 6 = .ok (.istore_n 1, 1) := by decide +kernel
theorem dX7_resettle_7 : decode cX7_resettle 7 = .ok (.iload_n 1, 1) := by decide +kernel
theorem dX7_resettle_8 : decode cX7_resettle 8 = .ok (.aload_n 0, 1) := by decide +kernel
theorem dX7_resettle_9 : decode cX7_resettle 9 = .ok (.getfield 86, 3) := by decide +kernel
theorem dX7_resettle_12 : decode cX7_resettle 12 = .ok (.if_icmp .ge 16, 3) := by decide +kernel
theorem dX7_resettle_15 : decode cX7_resettle 15 = .ok (.aload_n 0, 1) := by decide +kernel
theorem dX7_resettle_16 : decode cX7_resettle 16 = .ok (.getfield 35, 3) := by decide +kernel
theorem dX7_resettle_19 : decode cX7_resettle 19 = .ok (.iload_n 1, 1) := by decide +kernel
theorem dX7_resettle_20 : decode cX7_resettle 20 = .ok (.iload_n 1, 1) := by decide +kernel
theorem dX7_resettle_21 : decode cX7_resettle 21 = .ok (.iastore, 1) := by decide +kernel
theorem dX7_resettle_22 : decode cX7_resettle 22 = .ok (.iinc 1 1, 3) := by decide +kernel
theorem dX7_resettle_25 : decode cX7_resettle 25 = .ok (.goto (-18), 3) := by decide +kernel
theorem dX7_resettle_28 : decode cX7_resettle 28 = .ok (.aload_n 0, 1) := by decide +kernel
theorem dX7_resettle_29 : decode cX7_resettle 29 = .ok (.invokevirtual 93, 3) := by decide +kernel
theorem dX7_resettle_32 : decode cX7_resettle 32 = .ok (.aload_n 0, 1) := by decide +kernel
theorem dX7_resettle_33 : decode cX7_resettle 33 = .ok (.invokevirtual 174, 3) := by decide +kernel
theorem dX7_resettle_36 : decode cX7_resettle 36 = .ok (.ireturn, 1) := by decide +kernel
theorem dX7_heaps_0 : decode cX7_heaps 0 = .ok (.iconst 0, 1) := by decide +kernel
theorem dX7_heaps_1 : decode cX7_heaps 1 = .ok (.istore_n 1, 1) := by decide +kernel
theorem dX7_heaps_2 : decode cX7_heaps 2 = .ok (.iconst 0, 1) := by decide +kernel
theorem dX7_heaps_3 : decode cX7_heaps 3 = .ok (.istore_n 2, 1) := by decide +kernel
theorem dX7_heaps_4 : decode cX7_heaps 4 = .ok (.iload_n 2, 1) := by decide +kernel
theorem dX7_heaps_5 : decode cX7_heaps 5 = .ok (.aload_n 0, 1) := by decide +kernel
theorem dX7_heaps_6 : decode cX7_heaps 6 = .ok (.getfield 86, 3) := by decide +kernel
theorem dX7_heaps_9 : decode cX7_heaps 9 = .ok (.if_icmp .ge 27, 3) := by decide +kernel
theorem dX7_heaps_12 : decode cX7_heaps 12 = .ok (.iload_n 1, 1) := by decide +kernel
theorem dX7_heaps_13 : decode cX7_heaps 13 = .ok (.aload_n 0, 1) := by decide +kernel
theorem dX7_heaps_14 : decode cX7_heaps 14 = .ok (.getfield 35, 3) := by decide +kernel
theorem dX7_heaps_17 : decode cX7_heaps 17 = .ok (.iload_n 2, 1) := by decide +kernel
theorem dX7_heaps_18 : decode cX7_heaps 18 = .ok (.iaload, 1) := by decide +kernel
theorem dX7_heaps_19 : decode cX7_heaps 19 = .ok (.iload_n 2, 1) := by decide +kernel
theorem dX7_heaps_20 : decode cX7_heaps 20 = .ok (.if_icmp .ne 7, 3) := by decide +kernel
theorem dX7_heaps_23 : decode cX7_heaps 23 = .ok (.iconst 1, 1) := by decide +kernel
theorem dX7_heaps_24 : decode cX7_heaps 24 = .ok (.goto 4, 3) := by decide +kernel
theorem dX7_heaps_27 : decode cX7_heaps 27 = .ok (.iconst 0, 1) := by decide +kernel
theorem dX7_heaps_28 : decode cX7_heaps 28 = .ok (.iadd, 1) := by decide +kernel
theorem dX7_heaps_29 : decode cX7_heaps 29 = .ok (.istore_n 1, 1) := by decide +kernel
theorem dX7_heaps_30 : decode cX7_heaps 30 = .ok (.iinc 2 1, 3) := by decide +kernel
theorem dX7_heaps_33 : decode cX7_heaps 33 = .ok (.goto (-29), 3) := by decide +kernel
theorem dX7_heaps_36 : decode cX7_heaps 36 = .ok (.iload_n 1, 1) := by decide +kernel
theorem dX7_heaps_37 : decode cX7_heaps 37 = .ok (.ireturn, 1) := by decide +kernel
set_option maxRecDepth 20000 in
theorem ggX7_areTwo_X7_isReport : GoodIn wsX7_areTwo wsX7_isReport := goodIn_r _ [5, 6, 7, 8, 9, 10, 11, 12, 13, 14, 15, 16, 17, 18, 19, 20, 21, 22, 23, 24, 25, 26, 27, 28, 29, 30, 31, 32, 33, 34, 35, 36, 37] (by decide +kernel) (by decide +kernel)
set_option maxRecDepth 20000 in
theorem gX7_areTwo_X7_isReport : GoodIn wsX7_areTwo (wsV RX7 178 RX7 yX7_isReport wsX7_isReport) := goodIn_app (goodIn_of _ (by decide +kernel)) ggX7_areTwo_X7_isReport
theorem dX7_areTwo_0 : decode cX7_areTwo 0 = .ok (.aload_n 0, 1) := by decide +kernel
theorem dX7_areTwo_1 : decode cX7_areTwo 1 = .ok (.iload_n 1, 1) := by decide +kernel
theorem dX7_areTwo_2 : decode cX7_areTwo 2 = .ok (.invokevirtual 178, 3) := by decide +kernel
theorem dX7_areTwo_5 : decode cX7_areTwo 5 = .ok (.ifCond .eq 20, 3) := by decide +kernel
theorem dX7_areTwo_8 : decode cX7_areTwo 8 = .ok (.aload_n 0, 1) := by decide +kernel
theorem dX7_areTwo_9 : decode cX7_areTwo 9 = .ok (.iload_n 2, 1) := by decide +kernel
theorem dX7_areTwo_10 : decode cX7_areTwo 10 = .ok (.invokevirtual 178, 3) := by decide +kernel
theorem dX7_areTwo_13 : decode cX7_areTwo 13 = .ok (.ifCond .eq 12, 3) := by decide +kernel
theorem dX7_areTwo_16 : decode cX7_areTwo 16 = .ok (.iload_n 1, 1) := by decide +kernel
theorem dX7_areTwo_17 : decode cX7_areTwo 17 = .ok (.iload_n 2, 1) := by decide +kernel
theorem dX7_areTwo_18 : decode cX7_areTwo 18 = .ok (.if_icmp .eq 7, 3) := by decide +kernel
theorem dX7_areTwo_21 : decode cX7_areTwo 21 = .ok (.iconst 1, 1) := by decide +kernel
theorem dX7_areTwo_22 : decode cX7_areTwo 22 = .ok (.goto 4, 3) := by decide +kernel
theorem dX7_areTwo_25 : decode cX7_areTwo 25 = .ok (.iconst 0, 1) := by decide +kernel
theorem dX7_areTwo_26 : decode cX7_areTwo 26 = .ok (.ireturn, 1) := by decide +kernel
set_option maxRecDepth 20000 in
theorem ggX7_tells_X7_settles : GoodIn wsX7_tells wsX7_settles := goodIn_r _ [6, 7, 8, 9, 10, 11, 12, 13, 14, 15, 16, 5, 17, 18, 19, 20, 21, 22, 23, 24, 25, 26, 27, 28, 29, 30, 31, 32, 33, 34, 35, 36, 37, 38, 39, 40, 41, 42, 43, 44, 45, 46, 47, 48, 49, 50, 51, 52, 53, 54, 55, 56, 57, 58, 59, 60, 61, 62, 63, 64, 65, 66, 67, 68, 69, 70, 71, 1, 72, 73, 74, 75, 76, 77, 78, 79, 80, 81, 82, 83, 84, 85, 86, 87, 88, 89, 90, 91, 92, 93, 94, 95, 96, 97, 98, 99, 100, 101, 102, 103, 104, 105, 106, 107, 108, 109, 110, 111, 112, 113, 114, 115, 116, 117, 118, 119, 120] (by decide +kernel) (by decide +kernel)
set_option maxRecDepth 20000 in
theorem gX7_tells_X7_settles : GoodIn wsX7_tells (wsV RX7 93 RX7 yX7_settles wsX7_settles) := goodIn_app (goodIn_of _ (by decide +kernel)) ggX7_tells_X7_settles
theorem dX7_tells_0 : decode cX7_tells 0 = .ok (.aload_n 0, 1) := by decide +kernel
theorem dX7_tells_1 : decode cX7_tells 1 = .ok (.getfield 57, 3) := by decide +kernel
theorem dX7_tells_4 : decode cX7_tells 4 = .ok (.bipush 40, 2) := by decide +kernel
theorem dX7_tells_6 : decode cX7_tells 6 = .ok (.iload_n 1, 1) := by decide +kernel
theorem dX7_tells_7 : decode cX7_tells 7 = .ok (.imul, 1) := by decide +kernel
theorem dX7_tells_8 : decode cX7_tells 8 = .ok (.iload_n 2, 1) := by decide +kernel
theorem dX7_tells_9 : decode cX7_tells 9 = .ok (.iadd, 1) := by decide +kernel
theorem dX7_tells_10 : decode cX7_tells 10 = .ok (.iload_n 3, 1) := by decide +kernel
theorem dX7_tells_11 : decode cX7_tells 11 = .ok (.iastore, 1) := by decide +kernel
theorem dX7_tells_12 : decode cX7_tells 12 = .ok (.aload_n 0, 1) := by decide +kernel
theorem dX7_tells_13 : decode cX7_tells 13 = .ok (.getfield 57, 3) := by decide +kernel
theorem dX7_tells_16 : decode cX7_tells 16 = .ok (.bipush 40, 2) := by decide +kernel
theorem dX7_tells_18 : decode cX7_tells 18 = .ok (.iload_n 2, 1) := by decide +kernel
theorem dX7_tells_19 : decode cX7_tells 19 = .ok (.imul, 1) := by decide +kernel
theorem dX7_tells_20 : decode cX7_tells 20 = .ok (.iload_n 1, 1) := by decide +kernel
theorem dX7_tells_21 : decode cX7_tells 21 = .ok (.iadd, 1) := by decide +kernel
theorem dX7_tells_22 : decode cX7_tells 22 = .ok (.iload_n 3, 1) := by decide +kernel
theorem dX7_tells_23 : decode cX7_tells 23 = .ok (.iastore, 1) := by decide +kernel
theorem dX7_tells_24 : decode cX7_tells 24 = .ok (.aload_n 0, 1) := by decide +kernel
theorem dX7_tells_25 : decode cX7_tells 25 = .ok (.invokevirtual 93, 3) := by decide +kernel
theorem dX7_tells_28 : decode cX7_tells 28 = .ok (.return_, 1) := by decide +kernel
set_option maxRecDepth 20000 in
theorem ggX7_pair_X7_areTwo : GoodIn wsX7_pair wsX7_areTwo := goodIn_r _ [6, 7, 8, 9, 5, 10, 11, 103, 104, 105, 106, 107, 108, 109, 110, 111, 112, 113, 114, 115, 116, 117, 118, 119, 120, 121, 122, 123, 124, 125, 126, 127, 128, 129, 130, 131, 132, 133] (by decide +kernel) (by decide +kernel)
set_option maxRecDepth 20000 in
theorem gX7_pair_X7_areTwo : GoodIn wsX7_pair (wsV RX7 181 RX7 yX7_areTwo wsX7_areTwo) := goodIn_app (goodIn_of _ (by decide +kernel)) ggX7_pair_X7_areTwo
set_option maxRecDepth 20000 in
theorem ggX7_pair_X7_tells : GoodIn wsX7_pair wsX7_tells := goodIn_r _ [15, 16, 17, 18, 19, 5, 20, 21, 11, 22, 23, 24, 25, 26, 27, 28, 29, 30, 31, 32, 33, 34, 35, 36, 37, 38, 39, 40, 41, 42, 43, 44, 45, 46, 47, 48, 49, 50, 51, 52, 53, 54, 55, 56, 57, 58, 59, 60, 61, 62, 63, 64, 65, 66, 67, 68, 69, 70, 71, 72, 73, 74, 75, 76, 77, 78, 79, 80, 81, 82, 83, 84, 85, 86, 87, 88, 89, 90, 91, 92, 93, 94, 95, 96, 97, 98, 99, 100, 101, 102, 103, 104, 105, 106, 107, 108, 109, 110, 111, 112, 113, 114, 115, 116, 117, 118, 119, 120, 121, 122, 123, 124, 125, 126, 127, 128, 129, 130, 131, 132, 133] (by decide +kernel) (by decide +kernel)
set_option maxRecDepth 20000 in
theorem gX7_pair_X7_tells : GoodIn wsX7_pair (wsV RX7 184 RX7 yX7_tells wsX7_tells) := goodIn_app (goodIn_of _ (by decide +kernel)) ggX7_pair_X7_tells
theorem dX7_pair_0 : decode cX7_pair 0 = .ok (.aload_n 0, 1) := by decide +kernel
theorem dX7_pair_1 : decode cX7_pair 1 = .ok (.iconst 0, 1) := by decide +kernel
theorem dX7_pair_2 : decode cX7_pair 2 = .ok (.putfield 1, 3) := by decide +kernel
theorem dX7_pair_5 : decode cX7_pair 5 = .ok (.aload_n 0, 1) := by decide +kernel
theorem dX7_pair_6 : decode cX7_pair 6 = .ok (.iload_n 1, 1) := by decide +kernel
theorem dX7_pair_7 : decode cX7_pair 7 = .ok (.iload_n 2, 1) := by decide +kernel
theorem dX7_pair_8 : decode cX7_pair 8 = .ok (.invokevirtual 181, 3) := by decide +kernel
theorem dX7_pair_11 : decode cX7_pair 11 = .ok (.ifCond .ne 5, 3) := by decide +kernel
theorem dX7_pair_14 : decode cX7_pair 14 = .ok (.iconst 0, 1) := by decide +kernel
theorem dX7_pair_15 : decode cX7_pair 15 = .ok (.ireturn, 1) := by decide +kernel
theorem dX7_pair_16 : decode cX7_pair 16 = .ok (.aload_n 0, 1) := by decide +kernel
theorem dX7_pair_17 : decode cX7_pair 17 = .ok (.iload_n 1, 1) := by decide +kernel
theorem dX7_pair_18 : decode cX7_pair 18 = .ok (.iload_n 2, 1) := by decide +kernel
theorem dX7_pair_19 : decode cX7_pair 19 = .ok (.iload_n 3, 1) := by decide +kernel
theorem dX7_pair_20 : decode cX7_pair 20 = .ok (.ifCond .eq 7, 3) := by decide +kernel
theorem dX7_pair_23 : decode cX7_pair 23 = .ok (.iconst 1, 1) := by decide +kernel
theorem dX7_pair_24 : decode cX7_pair 24 = .ok (.goto 4, 3) := by decide +kernel
theorem dX7_pair_27 : decode cX7_pair 27 = .ok (.iconst 2, 1) := by decide +kernel
theorem dX7_pair_28 : decode cX7_pair 28 = .ok (.invokevirtual 184, 3) := by decide +kernel
theorem dX7_pair_31 : decode cX7_pair 31 = .ok (.iconst 1, 1) := by decide +kernel
theorem dX7_pair_32 : decode cX7_pair 32 = .ok (.ireturn, 1) := by decide +kernel
set_option maxRecDepth 20000 in
theorem ggX7_free_X7_areTwo : GoodIn wsX7_free wsX7_areTwo := goodIn_r _ [7, 8, 9, 10, 6, 11, 12, 103, 104, 105, 106, 107, 108, 109, 110, 111, 112, 113, 114, 115, 116, 117, 118, 119, 120, 121, 122, 123, 124, 125, 126, 127, 128, 129, 130, 131, 132, 133] (by decide +kernel) (by decide +kernel)
set_option maxRecDepth 20000 in
theorem gX7_free_X7_areTwo : GoodIn wsX7_free (wsV RX7 181 RX7 yX7_areTwo wsX7_areTwo) := goodIn_app (goodIn_of _ (by decide +kernel)) ggX7_free_X7_areTwo
set_option maxRecDepth 20000 in
theorem ggX7_free_X7_tells : GoodIn wsX7_free wsX7_tells := goodIn_r _ [16, 2, 17, 18, 19, 6, 20, 21, 12, 22, 23, 24, 25, 26, 27, 28, 29, 30, 31, 32, 33, 34, 35, 36, 37, 38, 39, 40, 41, 42, 43, 44, 45, 46, 47, 48, 49, 50, 51, 52, 53, 54, 55, 56, 57, 58, 59, 60, 61, 62, 63, 64, 65, 66, 67, 68, 69, 70, 71, 72, 73, 74, 75, 76, 77, 78, 79, 80, 81, 82, 83, 84, 85, 86, 87, 88, 89, 90, 91, 92, 93, 94, 95, 96, 97, 98, 99, 100, 101, 102, 103, 104, 105, 106, 107, 108, 109, 110, 111, 112, 113, 114, 115, 116, 117, 118, 119, 120, 121, 122, 123, 124, 125, 126, 127, 128, 129, 130, 131, 132, 133] (by decide +kernel) (by decide +kernel)
set_option maxRecDepth 20000 in
theorem gX7_free_X7_tells : GoodIn wsX7_free (wsV RX7 184 RX7 yX7_tells wsX7_tells) := goodIn_app (goodIn_of _ (by decide +kernel)) ggX7_free_X7_tells
theorem dX7_free_0 : decode cX7_free 0 = .ok (.aload_n 0, 1) := by decide +kernel
theorem dX7_free_1 : decode cX7_free 1 = .ok (.iconst 0, 1) := by decide +kernel
theorem dX7_free_2 : decode cX7_free 2 = .ok (.putfield 1, 3) := by decide +kernel
theorem dX7_free_5 : decode cX7_free 5 = .ok (.aload_n 0, 1) := by decide +kernel
theorem dX7_free_6 : decode cX7_free 6 = .ok (.iload_n 1, 1) := by decide +kernel
theorem dX7_free_7 : decode cX7_free 7 = .ok (.iload_n 2, 1) := by decide +kernel
theorem dX7_free_8 : decode cX7_free 8 = .ok (.invokevirtual 181, 3) := by decide +kernel
theorem dX7_free_11 : decode cX7_free 11 = .ok (.ifCond .eq 17, 3) := by decide +kernel
theorem dX7_free_14 : decode cX7_free 14 = .ok (.aload_n 0, 1) := by decide +kernel
theorem dX7_free_15 : decode cX7_free 15 = .ok (.getfield 57, 3) := by decide +kernel
theorem dX7_free_18 : decode cX7_free 18 = .ok (.bipush 40, 2) := by decide +kernel
theorem dX7_free_20 : decode cX7_free 20 = .ok (.iload_n 1, 1) := by decide +kernel
theorem dX7_free_21 : decode cX7_free 21 = .ok (.imul, 1) := by decide +kernel
theorem dX7_free_22 : decode cX7_free 22 = .ok (.iload_n 2, 1) := by decide +kernel
theorem dX7_free_23 : decode cX7_free 23 = .ok (.iadd, 1) := by decide +kernel
theorem dX7_free_24 : decode cX7_free 24 = .ok (.iaload, 1) := by decide +kernel
theorem dX7_free_25 : decode cX7_free 25 = .ok (.ifCond .ne 5, 3) := by decide +kernel
theorem dX7_free_28 : decode cX7_free 28 = .ok (.iconst 0, 1) := by decide +kernel
theorem dX7_free_29 : decode cX7_free 29 = .ok (.ireturn, 1) := by decide +kernel
theorem dX7_free_30 : decode cX7_free 30 = .ok (.aload_n 0, 1) := by decide +kernel
theorem dX7_free_31 : decode cX7_free 31 = .ok (.iload_n 1, 1) := by decide +kernel
theorem dX7_free_32 : decode cX7_free 32 = .ok (.iload_n 2, 1) := by decide +kernel
theorem dX7_free_33 : decode cX7_free 33 = .ok (.iconst 0, 1) := by decide +kernel
theorem dX7_free_34 : decode cX7_free 34 = .ok (.invokevirtual 184, 3) := by decide +kernel
theorem dX7_free_37 : decode cX7_free 37 = .ok (.iconst 1, 1) := by decide +kernel
theorem dX7_free_38 : decode cX7_free 38 = .ok (.ireturn, 1) := by decide +kernel
set_option maxRecDepth 20000 in
theorem ggX7_mark_X7_settles : GoodIn wsX7_mark wsX7_settles := goodIn_r _ [7, 8, 9, 10, 11, 12, 13, 14, 15, 16, 17, 6, 18, 19, 20, 21, 22, 23, 24, 25, 26, 27, 28, 29, 30, 31, 32, 33, 34, 35, 36, 37, 38, 39, 40, 41, 42, 43, 44, 45, 46, 47, 48, 49, 50, 51, 52, 53, 54, 55, 56, 57, 58, 59, 60, 61, 62, 63, 64, 65, 66, 67, 68, 69, 70, 71, 72, 73, 2, 74, 75, 76, 77, 78, 79, 80, 81, 82, 83, 84, 85, 86, 87, 88, 89, 90, 91, 92, 93, 94, 95, 96, 97, 98, 99, 100, 101, 102, 103, 104, 105, 106, 107, 108, 109, 110, 111, 112, 113, 114, 115, 116, 117, 118, 119, 120, 121] (by decide +kernel) (by decide +kernel)
set_option maxRecDepth 20000 in
theorem gX7_mark_X7_settles : GoodIn wsX7_mark (wsV RX7 93 RX7 yX7_settles wsX7_settles) := goodIn_app (goodIn_of _ (by decide +kernel)) ggX7_mark_X7_settles
theorem dX7_mark_0 : decode cX7_mark 0 = .ok (.aload_n 0, 1) := by decide +kernel
theorem dX7_mark_1 : decode cX7_mark 1 = .ok (.iconst 0, 1) := by decide +kernel
theorem dX7_mark_2 : decode cX7_mark 2 = .ok (.putfield 1, 3) := by decide +kernel
theorem dX7_mark_5 : decode cX7_mark 5 = .ok (.iload_n 1, 1) := by decide +kernel
theorem dX7_mark_6 : decode cX7_mark 6 = .ok (.ifCond .lt 9, 3) := by decide +kernel
theorem dX7_mark_9 : decode cX7_mark 9 = .ok (.iload_n 1, 1) := by decide +kernel
theorem dX7_mark_10 : decode cX7_mark 10 = .ok (.bipush 40, 2) := by decide +kernel
theorem dX7_mark_12 : decode cX7_mark 12 = .ok (.if_icmp .le 5, 3) := by decide +kernel
theorem dX7_mark_15 : decode cX7_mark 15 = .ok (.iconst 0, 1) := by decide +kernel
theorem dX7_mark_16 : decode cX7_mark 16 = .ok (.ireturn, 1) := by decide +kernel
theorem dX7_mark_17 : decode cX7_mark 17 = .ok (.aload_n 0, 1) := by decide +kernel
theorem dX7_mark_18 : decode cX7_mark 18 = .ok (.iload_n 1, 1) := by decide +kernel
theorem dX7_mark_19 : decode cX7_mark 19 = .ok (.putfield 54, 3) := by decide +kernel
theorem dX7_mark_22 : decode cX7_mark 22 = .ok (.aload_n 0, 1) := by decide +kernel
theorem dX7_mark_23 : decode cX7_mark 23 = .ok (.invokevirtual 93, 3) := by decide +kernel
theorem dX7_mark_26 : decode cX7_mark 26 = .ok (.iconst 1, 1) := by decide +kernel
theorem dX7_mark_27 : decode cX7_mark 27 = .ok (.ireturn, 1) := by decide +kernel
set_option maxRecDepth 20000 in
theorem ggX7_distance_X7_isReport : GoodIn wsX7_distance wsX7_isReport := goodIn_r _ [7, 8, 9, 10, 11, 12, 13, 14, 15, 16, 17, 18, 19, 20, 21, 22, 23, 24, 25, 26, 27, 28, 29, 30, 31, 32, 33, 34, 35, 36, 37, 38, 39] (by decide +kernel) (by decide +kernel)
set_option maxRecDepth 20000 in
theorem gX7_distance_X7_isReport : GoodIn wsX7_distance (wsV RX7 178 RX7 yX7_isReport wsX7_isReport) := goodIn_app (goodIn_of _ (by decide +kernel)) ggX7_distance_X7_isReport
theorem dX7_distance_0 : decode cX7_distance 0 = .ok (.aload_n 0, 1) := by decide +kernel
theorem dX7_distance_1 : decode cX7_distance 1 = .ok (.iconst 0, 1) := by decide +kernel
theorem dX7_distance_2 : decode cX7_distance 2 = .ok (.putfield 1, 3) := by decide +kernel
theorem dX7_distance_5 : decode cX7_distance 5 = .ok (.aload_n 0, 1) := by decide +kernel
theorem dX7_distance_6 : decode cX7_distance 6 = .ok (.iload_n 1, 1) := by decide +kernel
theorem dX7_distance_7 : decode cX7_distance 7 = .ok (.invokevirtual 178, 3) := by decide +kernel
theorem dX7_distance_10 : decode cX7_distance 10 = .ok (.ifCond .eq 25, 3) := by decide +kernel
theorem dX7_distance_13 : decode cX7_distance 13 = .ok (.aload_n 0, 1) := by decide +kernel
theorem dX7_distance_14 : decode cX7_distance 14 = .ok (.iload_n 2, 1) := by decide +kernel
theorem dX7_distance_15 : decode cX7_distance 15 = .ok (.invokevirtual 178, 3) := by decide +kernel
theorem dX7_distance_18 : decode cX7_distance 18 = .ok (.ifCond .eq 17, 3) := by decide +kernel
theorem dX7_distance_21 : decode cX7_distance 21 = .ok (.aload_n 0, 1) := by decide +kernel
theorem dX7_distance_22 : decode cX7_distance 22 = .ok (.getfield 47, 3) := by decide +kernel
theorem dX7_distance_25 : decode cX7_distance 25 = .ok (.bipush 40, 2) := by decide +kernel
theorem dX7_distance_27 : decode cX7_distance 27 = .ok (.iload_n 1, 1) := by decide +kernel
theorem dX7_distance_28 : decode cX7_distance 28 = .ok (.imul, 1) := by decide +kernel
theorem dX7_distance_29 : decode cX7_distance 29 = .ok (.iload_n 2, 1) := by decide +kernel
theorem dX7_distance_30 : decode cX7_distance 30 = .ok (.iadd, 1) := by decide +kernel
theorem dX7_distance_31 : decode cX7_distance 31 = .ok (.iaload, 1) := by decide +kernel
theorem dX7_distance_32 : decode cX7_distance 32 = .ok (.goto 4, 3) := by decide +kernel
theorem dX7_distance_35 : decode cX7_distance 35 = .ok (.iconst (-1), 1) := by decide +kernel
theorem dX7_distance_36 : decode cX7_distance 36 = .ok (.ireturn, 1) := by decide +kernel
set_option maxRecDepth 20000 in
theorem ggX7_heap_X7_isReport : GoodIn wsX7_heap wsX7_isReport := goodIn_r _ [7, 8, 9, 10, 11, 12, 13, 14, 15, 16, 17, 18, 19, 20, 21, 22, 23, 24, 25, 26, 27, 28, 29, 30, 31, 32, 33, 34, 35, 36, 37, 38, 39] (by decide +kernel) (by decide +kernel)
set_option maxRecDepth 20000 in
theorem gX7_heap_X7_isReport : GoodIn wsX7_heap (wsV RX7 178 RX7 yX7_isReport wsX7_isReport) := goodIn_app (goodIn_of _ (by decide +kernel)) ggX7_heap_X7_isReport
theorem dX7_heap_0 : decode cX7_heap 0 = .ok (.aload_n 0, 1) := by decide +kernel
theorem dX7_heap_1 : decode cX7_heap 1 = .ok (.iconst 0, 1) := by decide +kernel
theorem dX7_heap_2 : decode cX7_heap 2 = .ok (.putfield 1, 3) := by decide +kernel
theorem dX7_heap_5 : decode cX7_heap 5 = .ok (.aload_n 0, 1) := by decide +kernel
theorem dX7_heap_6 : decode cX7_heap 6 = .ok (.iload_n 1, 1) := by decide +kernel
theorem dX7_heap_7 : decode cX7_heap 7 = .ok (.invokevirtual 178, 3) := by decide +kernel
theorem dX7_heap_10 : decode cX7_heap 10 = .ok (.ifCond .eq 12, 3) := by decide +kernel
theorem dX7_heap_13 : decode cX7_heap 13 = .ok (.aload_n 0, 1) := by decide +kernel
theorem dX7_heap_14 : decode cX7_heap 14 = .ok (.getfield 35, 3) := by decide +kernel
theorem dX7_heap_17 : decode cX7_heap 17 = .ok (.iload_n 1, 1) := by decide +kernel
theorem dX7_heap_18 : decode cX7_heap 18 = .ok (.iaload, 1) := by decide +kernel
theorem dX7_heap_19 : decode cX7_heap 19 = .ok (.goto 4, 3) := by decide +kernel
theorem dX7_heap_22 : decode cX7_heap 22 = .ok (.iconst (-1), 1) := by decide +kernel
theorem dX7_heap_23 : decode cX7_heap 23 = .ok (.ireturn, 1) := by decide +kernel
set_option maxRecDepth 20000 in
theorem ggX7_cost_X7_areTwo : GoodIn wsX7_cost wsX7_areTwo := goodIn_r _ [8, 9, 10, 11, 7, 12, 3, 20, 21, 22, 23, 24, 25, 26, 27, 28, 29, 30, 31, 32, 33, 34, 35, 36, 37, 38, 39, 40, 41, 42, 43, 44, 45, 46, 47, 48, 49, 50] (by decide +kernel) (by decide +kernel)
set_option maxRecDepth 20000 in
theorem gX7_cost_X7_areTwo : GoodIn wsX7_cost (wsV RX7 181 RX7 yX7_areTwo wsX7_areTwo) := goodIn_app (goodIn_of _ (by decide +kernel)) ggX7_cost_X7_areTwo
set_option maxRecDepth 20000 in
theorem ggX7_cost_X7_pairCost : GoodIn wsX7_cost wsX7_pairCost := goodIn_r _ [16, 17, 18, 19, 20, 21, 22, 23, 24, 25, 26, 27, 28, 29, 30, 31, 32, 33, 34, 35, 36, 37, 38, 39, 40, 41, 42, 43, 44, 45, 46, 47, 48, 49, 50] (by decide +kernel) (by decide +kernel)
set_option maxRecDepth 20000 in
theorem gX7_cost_X7_pairCost : GoodIn wsX7_cost (wsV RX7 129 RX7 yX7_pairCost wsX7_pairCost) := goodIn_app (goodIn_of _ (by decide +kernel)) ggX7_cost_X7_pairCost
theorem dX7_cost_0 : decode cX7_cost 0 = .ok (.aload_n 0, 1) := by decide +kernel
theorem dX7_cost_1 : decode cX7_cost 1 = .ok (.iconst 0, 1) := by decide +kernel
theorem dX7_cost_2 : decode cX7_cost 2 = .ok (.putfield 1, 3) := by decide +kernel
theorem dX7_cost_5 : decode cX7_cost 5 = .ok (.iload_n 2, 1) := by decide +kernel
theorem dX7_cost_6 : decode cX7_cost 6 = .ok (.iconst (-1), 1) := by decide +kernel
theorem dX7_cost_7 : decode cX7_cost 7 = .ok (.if_icmp .eq 43, 3) := by decide +kernel
theorem dX7_cost_10 : decode cX7_cost 10 = .ok (.aload_n 0, 1) := by decide +kernel
theorem dX7_cost_11 : decode cX7_cost 11 = .ok (.iload_n 1, 1) := by decide +kernel
theorem dX7_cost_12 : decode cX7_cost 12 = .ok (.iload_n 2, 1) := by decide +kernel
theorem dX7_cost_13 : decode cX7_cost 13 = .ok (.invokevirtual 181, 3) := by decide +kernel
theorem dX7_cost_16 : decode cX7_cost 16 = .ok (.ifCond .eq 32, 3) := by decide +kernel
theorem dX7_cost_19 : decode cX7_cost 19 = .ok (.aload_n 0, 1) := by decide +kernel
theorem dX7_cost_20 : decode cX7_cost 20 = .ok (.iload_n 1, 1) := by decide +kernel
theorem dX7_cost_21 : decode cX7_cost 21 = .ok (.iload_n 2, 1) := by decide +kernel
theorem dX7_cost_22 : decode cX7_cost 22 = .ok (.aload_n 0, 1) := by decide +kernel
theorem dX7_cost_23 : decode cX7_cost 23 = .ok (.getfield 35, 3) := by decide +kernel
theorem dX7_cost_26 : decode cX7_cost 26 = .ok (.iload_n 1, 1) := by decide +kernel
theorem dX7_cost_27 : decode cX7_cost 27 = .ok (.iaload, 1) := by decide +kernel
theorem dX7_cost_28 : decode cX7_cost 28 = .ok (.aload_n 0, 1) := by decide +kernel
theorem dX7_cost_29 : decode cX7_cost 29 = .ok (.getfield 35, 3) := by decide +kernel
theorem dX7_cost_32 : decode cX7_cost 32 = .ok (.iload_n 2, 1) := by decide +kernel
theorem dX7_cost_33 : decode cX7_cost 33 = .ok (.iaload, 1) := by decide +kernel
theorem dX7_cost_34 : decode cX7_cost 34 = .ok (.if_icmp .ne 7, 3) := by decide +kernel
theorem dX7_cost_37 : decode cX7_cost 37 = .ok (.iconst 1, 1) := by decide +kernel
theorem dX7_cost_38 : decode cX7_cost 38 = .ok (.goto 4, 3) := by decide +kernel
theorem dX7_cost_41 : decode cX7_cost 41 = .ok (.iconst 0, 1) := by decide +kernel
theorem dX7_cost_42 : decode cX7_cost 42 = .ok (.invokevirtual 129, 3) := by decide +kernel
theorem dX7_cost_45 : decode cX7_cost 45 = .ok (.goto 4, 3) := by decide +kernel
theorem dX7_cost_48 : decode cX7_cost 48 = .ok (.iconst (-1), 1) := by decide +kernel
theorem dX7_cost_49 : decode cX7_cost 49 = .ok (.ireturn, 1) := by decide +kernel
theorem dX7_cost_50 : decode cX7_cost 50 = .ok (.iconst 0, 1) := by decide +kernel
theorem dX7_cost_51 : decode cX7_cost 51 = .ok (.istore_n 3, 1) := by decide +kernel
theorem dX7_cost_52 : decode cX7_cost 52 = .ok (.iconst 0, 1) := by decide +kernel
theorem dX7_cost_53 : decode cX7_cost 53 = .ok (.istore 4, 2) := by decide +kernel
theorem dX7_cost_55 : decode cX7_cost 55 = .ok (.iload 4, 2) := by decide +kernel
theorem dX7_cost_57 : decode cX7_cost 57 = .ok (.aload_n 0, 1) := by decide +kernel
theorem dX7_cost_58 : decode cX7_cost 58 = .ok (.getfield 86, 3) := by decide +kernel
theorem dX7_cost_61 : decode cX7_cost 61 = .ok (.if_icmp .ge 58, 3) := by decide +kernel
theorem dX7_cost_64 : decode cX7_cost 64 = .ok (.iconst 0, 1) := by decide +kernel
theorem dX7_cost_65 : decode cX7_cost 65 = .ok (.istore 5, 2) := by decide +kernel
theorem dX7_cost_67 : decode cX7_cost 67 = .ok (.iload 5, 2) := by decide +kernel
theorem dX7_cost_69 : decode cX7_cost 69 = .ok (.iload 4, 2) := by decide +kernel
theorem dX7_cost_71 : decode cX7_cost 71 = .ok (.if_icmp .ge 42, 3) := by decide +kernel
theorem dX7_cost_74 : decode cX7_cost 74 = .ok (.iload_n 3, 1) := by decide +kernel
theorem dX7_cost_75 : decode cX7_cost 75 = .ok (.aload_n 0, 1) := by decide +kernel
theorem dX7_cost_76 : decode cX7_cost 76 = .ok (.iload 4, 2) := by decide +kernel
theorem dX7_cost_78 : decode cX7_cost 78 = .ok (.iload 5, 2) := by decide +kernel
theorem dX7_cost_80 : decode cX7_cost 80 = .ok (.aload_n 0, 1) := by decide +kernel
theorem dX7_cost_81 : decode cX7_cost 81 = .ok (.getfield 35, 3) := by decide +kernel
theorem dX7_cost_84 : decode cX7_cost 84 = .ok (.iload 4, 2) := by decide +kernel
theorem dX7_cost_86 : decode cX7_cost 86 = .ok (.iaload, 1) := by decide +kernel
theorem dX7_cost_87 : decode cX7_cost 87 = .ok (.aload_n 0, 1) := by decide +kernel
theorem dX7_cost_88 : decode cX7_cost 88 = .ok (.getfield 35, 3) := by decide +kernel
theorem dX7_cost_91 : decode cX7_cost 91 = .ok (.iload 5, 2) := by decide +kernel
theorem dX7_cost_93 : decode cX7_cost 93 = .ok (.iaload, 1) := by decide +kernel
theorem dX7_cost_94 : decode cX7_cost 94 = .ok (.if_icmp .ne 7, 3) := by decide +kernel
theorem dX7_cost_97 : decode cX7_cost 97 = .ok (.iconst 1, 1) := by decide +kernel
theorem dX7_cost_98 : decode cX7_cost 98 = .ok (.goto 4, 3) := by decide +kernel
theorem dX7_cost_101 : decode cX7_cost 101 = .ok (.iconst 0, 1) := by decide +kernel
theorem dX7_cost_102 : decode cX7_cost 102 = .ok (.invokevirtual 129, 3) := by decide +kernel
theorem dX7_cost_105 : decode cX7_cost 105 = .ok (.iadd, 1) := by decide +kernel
theorem dX7_cost_106 : decode cX7_cost 106 = .ok (.istore_n 3, 1) := by decide +kernel
theorem dX7_cost_107 : decode cX7_cost 107 = .ok (.iinc 5 1, 3) := by decide +kernel
theorem dX7_cost_110 : decode cX7_cost 110 = .ok (.goto (-43), 3) := by decide +kernel
theorem dX7_cost_113 : decode cX7_cost 113 = .ok (.iinc 4 1, 3) := by decide +kernel
theorem dX7_cost_116 : decode cX7_cost 116 = .ok (.goto (-61), 3) := by decide +kernel
theorem dX7_cost_119 : decode cX7_cost 119 = .ok (.iload_n 3, 1) := by decide +kernel
theorem dX7_cost_120 : decode cX7_cost 120 = .ok (.ireturn, 1) := by decide +kernel
set_option maxRecDepth 20000 in
theorem ggX7_row_X7_isReport : GoodIn wsX7_row wsX7_isReport := goodIn_r _ [8, 9, 10, 11, 12, 13, 14, 15, 16, 17, 18, 19, 20, 21, 22, 23, 24, 25, 26, 27, 28, 29, 30, 31, 32, 33, 34, 35, 36, 37, 38, 39, 40] (by decide +kernel) (by decide +kernel)
set_option maxRecDepth 20000 in
theorem gX7_row_X7_isReport : GoodIn wsX7_row (wsV RX7 178 RX7 yX7_isReport wsX7_isReport) := goodIn_app (goodIn_of _ (by decide +kernel)) ggX7_row_X7_isReport
theorem dX7_row_0 : decode cX7_row 0 = .ok (.aload_n 0, 1) := by decide +kernel
theorem dX7_row_1 : decode cX7_row 1 = .ok (.iconst 0, 1) := by decide +kernel
theorem dX7_row_2 : decode cX7_row 2 = .ok (.putfield 1, 3) := by decide +kernel
theorem dX7_row_5 : decode cX7_row 5 = .ok (.aload_n 0, 1) := by decide +kernel
theorem dX7_row_6 : decode cX7_row 6 = .ok (.iload_n 1, 1) := by decide +kernel
theorem dX7_row_7 : decode cX7_row 7 = .ok (.invokevirtual 178, 3) := by decide +kernel
theorem dX7_row_10 : decode cX7_row 10 = .ok (.ifCond .eq 17, 3) := by decide +kernel
theorem dX7_row_13 : decode cX7_row 13 = .ok (.iload_n 2, 1) := by decide +kernel
theorem dX7_row_14 : decode cX7_row 14 = .ok (.ifCond .lt 13, 3) := by decide +kernel
theorem dX7_row_17 : decode cX7_row 17 = .ok (.iload_n 2, 1) := by decide +kernel
theorem dX7_row_18 : decode cX7_row 18 = .ok (.aload_n 0, 1) := by decide +kernel
theorem dX7_row_19 : decode cX7_row 19 = .ok (.getfield 26, 3) := by decide +kernel
theorem dX7_row_22 : decode cX7_row 22 = .ok (.iload_n 1, 1) := by decide +kernel
theorem dX7_row_23 : decode cX7_row 23 = .ok (.iaload, 1) := by decide +kernel
theorem dX7_row_24 : decode cX7_row 24 = .ok (.if_icmp .lt 7, 3) := by decide +kernel
theorem dX7_row_27 : decode cX7_row 27 = .ok (.iconst (-1), 1) := by decide +kernel
theorem dX7_row_28 : decode cX7_row 28 = .ok (.goto 14, 3) := by decide +kernel
theorem dX7_row_31 : decode cX7_row 31 = .ok (.aload_n 0, 1) := by decide +kernel
theorem dX7_row_32 : decode cX7_row 32 = .ok (.getfield 23, 3) := by decide +kernel
theorem dX7_row_35 : decode cX7_row 35 = .ok (.bipush 12, 2) := by decide +kernel
theorem dX7_row_37 : decode cX7_row 37 = .ok (.iload_n 1, 1) := by decide +kernel
theorem dX7_row_38 : decode cX7_row 38 = .ok (.imul, 1) := by decide +kernel
theorem dX7_row_39 : decode cX7_row 39 = .ok (.iload_n 2, 1) := by decide +kernel
theorem dX7_row_40 : decode cX7_row 40 = .ok (.iadd, 1) := by decide +kernel
theorem dX7_row_41 : decode cX7_row 41 = .ok (.iaload, 1) := by decide +kernel
theorem dX7_row_42 : decode cX7_row 42 = .ok (.ireturn, 1) := by decide +kernel
set_option maxRecDepth 20000 in
theorem ggX7_common_X7_isCommon : GoodIn wsX7_common wsX7_isCommon := goodIn_r _ [6, 7, 8, 9, 10, 5, 11, 12, 13, 14, 15, 16, 17, 18, 19, 20, 21, 22, 23, 24, 25, 26, 27, 28, 29, 30, 31, 32, 33, 34, 35, 36, 37, 38, 39, 40, 41, 42, 43, 44] (by decide +kernel) (by decide +kernel)
set_option maxRecDepth 20000 in
theorem gX7_common_X7_isCommon : GoodIn wsX7_common (wsV RX7 99 RX7 yX7_isCommon wsX7_isCommon) := goodIn_app (goodIn_of _ (by decide +kernel)) ggX7_common_X7_isCommon
theorem dX7_common_0 : decode cX7_common 0 = .ok (.aload_n 0, 1) := by decide +kernel
theorem dX7_common_1 : decode cX7_common 1 = .ok (.iconst 0, 1) := by decide +kernel
theorem dX7_common_2 : decode cX7_common 2 = .ok (.putfield 1, 3) := by decide +kernel
theorem dX7_common_5 : decode cX7_common 5 = .ok (.aload_n 0, 1) := by decide +kernel
theorem dX7_common_6 : decode cX7_common 6 = .ok (.iload_n 1, 1) := by decide +kernel
theorem dX7_common_7 : decode cX7_common 7 = .ok (.invokevirtual 99, 3) := by decide +kernel
theorem dX7_common_10 : decode cX7_common 10 = .ok (.ifCond .eq 7, 3) := by decide +kernel
theorem dX7_common_13 : decode cX7_common 13 = .ok (.iconst 1, 1) := by decide +kernel
theorem dX7_common_14 : decode cX7_common 14 = .ok (.goto 4, 3) := by decide +kernel
theorem dX7_common_17 : decode cX7_common 17 = .ok (.iconst 0, 1) := by decide +kernel
theorem dX7_common_18 : decode cX7_common 18 = .ok (.ireturn, 1) := by decide +kernel
set_option maxRecDepth 20000 in
theorem ggX7_findShared_X7_stands : GoodIn wsX7_findShared wsX7_stands := goodIn_r _ [9, 10, 11, 12, 13, 14, 15, 16, 17, 18, 19, 20, 21, 22, 23, 24, 25, 26, 27, 28, 29, 30, 31, 32, 33, 34, 35, 36, 37, 38, 39, 40, 41, 42] (by decide +kernel) (by decide +kernel)
set_option maxRecDepth 20000 in
theorem gX7_findShared_X7_stands : GoodIn wsX7_findShared (wsV RX7 96 RX7 yX7_stands wsX7_stands) := goodIn_app (goodIn_of _ (by decide +kernel)) ggX7_findShared_X7_stands
theorem dX7_findShared_0 : decode cX7_findShared 0 = .ok (.aload_n 0, 1) := by decide +kernel
theorem dX7_findShared_1 : decode cX7_findShared 1 = .ok (.iconst 0, 1) := by decide +kernel
theorem dX7_findShared_2 : decode cX7_findShared 2 = .ok (.putfield 188, 3) := by decide +kernel
theorem dX7_findShared_5 : decode cX7_findShared 5 = .ok (.iconst 1, 1) := by decide +kernel
theorem dX7_findShared_6 : decode cX7_findShared 6 = .ok (.istore_n 2, 1) := by decide +kernel
theorem dX7_findShared_7 : decode cX7_findShared 7 = .ok (.iload_n 2, 1) := by decide +kernel
theorem dX7_findShared_8 : decode cX7_findShared 8 = .ok (.sipush 500, 3) := by decide +kernel
theorem dX7_findShared_11 : decode cX7_findShared 11 = .ok (.if_icmp .gt 93, 3) := by decide +kernel
theorem dX7_findShared_14 : decode cX7_findShared 14 = .ok (.iconst 1, 1) := by decide +kernel
theorem dX7_findShared_15 : decode cX7_findShared 15 = .ok (.istore_n 3, 1) := by decide +kernel
theorem dX7_findShared_16 : decode cX7_findShared 16 = .ok (.iconst 0, 1) := by decide +kernel
theorem dX7_findShared_17 : decode cX7_findShared 17 = .ok (.istore 4, 2) := by decide +kernel
theorem dX7_findShared_19 : decode cX7_findShared 19 = .ok (.iload 4, 2) := by decide +kernel
theorem dX7_findShared_21 : decode cX7_findShared 21 = .ok (.aload_n 0, 1) := by decide +kernel
theorem dX7_findShared_22 : decode cX7_findShared 22 = .ok (.getfield 86, 3) := by decide +kernel
theorem dX7_findShared_25 : decode cX7_findShared 25 = .ok (.if_icmp .ge 40, 3) := by decide +kernel
theorem dX7_findShared_28 : decode cX7_findShared 28 = .ok (.iload_n 3, 1) := by decide +kernel
theorem dX7_findShared_29 : decode cX7_findShared 29 = .ok (.ifCond .eq 36, 3) := by decide +kernel
theorem dX7_findShared_32 : decode cX7_findShared 32 = .ok (.aload_n 0, 1) := by decide +kernel
theorem dX7_findShared_33 : decode cX7_findShared 33 = .ok (.getfield 35, 3) := by decide +kernel
theorem dX7_findShared_36 : decode cX7_findShared 36 = .ok (.iload 4, 2) := by decide +kernel
theorem dX7_findShared_38 : decode cX7_findShared 38 = .ok (.iaload, 1) := by decide +kernel
theorem dX7_findShared_39 : decode cX7_findShared 39 = .ok (.iload_n 1, 1) := by decide +kernel
theorem dX7_findShared_40 : decode cX7_findShared 40 = .ok (.if_icmp .ne 13, 3) := by decide +kernel
theorem dX7_findShared_43 : decode cX7_findShared 43 = .ok (.aload_n 0, 1) := by decide +kernel
theorem dX7_findShared_44 : decode cX7_findShared 44 = .ok (.iload_n 2, 1) := by decide +kernel
theorem dX7_findShared_45 : decode cX7_findShared 45 = .ok (.iload 4, 2) := by decide +kernel
theorem dX7_findShared_47 : decode cX7_findShared 47 = .ok (.invokevirtual 96, 3) := by decide +kernel
theorem dX7_findShared_50 : decode cX7_findShared 50 = .ok (.ifCond .eq 7, 3) := by decide +kernel
theorem dX7_findShared_53 : decode cX7_findShared 53 = .ok (.iconst 1, 1) := by decide +kernel
theorem dX7_findShared_54 : decode cX7_findShared 54 = .ok (.goto 4, 3) := by decide +kernel
theorem dX7_findShared_57 : decode cX7_findShared 57 = .ok (.iconst 0, 1) := by decide +kernel
theorem dX7_findShared_58 : decode cX7_findShared 58 = .ok (.istore_n 3, 1) := by decide +kernel
theorem dX7_findShared_59 : decode cX7_findShared 59 = .ok (.iinc 4 1, 3) := by decide +kernel
theorem dX7_findShared_62 : decode cX7_findShared 62 = .ok (.goto (-43), 3) := by decide +kernel
theorem dX7_findShared_65 : decode cX7_findShared 65 = .ok (.iload_n 3, 1) := by decide +kernel
theorem dX7_findShared_66 : decode cX7_findShared 66 = .ok (.ifCond .eq 32, 3) := by decide +kernel
theorem dX7_findShared_69 : decode cX7_findShared 69 = .ok (.aload_n 0, 1) := by decide +kernel
theorem dX7_findShared_70 : decode cX7_findShared 70 = .ok (.getfield 188, 3) := by decide +kernel
theorem dX7_findShared_73 : decode cX7_findShared 73 = .ok (.bipush 12, 2) := by decide +kernel
theorem dX7_findShared_75 : decode cX7_findShared 75 = .ok (.if_icmp .ge 23, 3) := by decide +kernel
theorem dX7_findShared_78 : decode cX7_findShared 78 = .ok (.aload_n 0, 1) := by decide +kernel
theorem dX7_findShared_79 : decode cX7_findShared 79 = .ok (.getfield 69, 3) := by decide +kernel
theorem dX7_findShared_82 : decode cX7_findShared 82 = .ok (.aload_n 0, 1) := by decide +kernel
theorem dX7_findShared_83 : decode cX7_findShared 83 = .ok (.getfield 188, 3) := by decide +kernel
theorem dX7_findShared_86 : decode cX7_findShared 86 = .ok (.iload_n 2, 1) := by decide +kernel
theorem dX7_findShared_87 : decode cX7_findShared 87 = .ok (.iastore, 1) := by decide +kernel
theorem dX7_findShared_88 : decode cX7_findShared 88 = .ok (.aload_n 0, 1) := by decide +kernel
theorem dX7_findShared_89 : decode cX7_findShared 89 = .ok (.dup, 1) := by decide +kernel
theorem dX7_findShared_90 : decode cX7_findShared 90 = .ok (.getfield 188, 3) := by decide +kernel
theorem dX7_findShared_93 : decode cX7_findShared 93 = .ok (.iconst 1, 1) := by decide +kernel
theorem dX7_findShared_94 : decode cX7_findShared 94 = .ok (.iadd, 1) := by decide +kernel
theorem dX7_findShared_95 : decode cX7_findShared 95 = .ok (.putfield 188, 3) := by decide +kernel
theorem dX7_findShared_98 : decode cX7_findShared 98 = .ok (.iinc 2 1, 3) := by decide +kernel
theorem dX7_findShared_101 : decode cX7_findShared 101 = .ok (.goto (-94), 3) := by decide +kernel
theorem dX7_findShared_104 : decode cX7_findShared 104 = .ok (.return_, 1) := by decide +kernel
set_option maxRecDepth 20000 in
theorem ggX7_isMark_X7_stands : GoodIn wsX7_isMark wsX7_stands := goodIn_r _ [8, 9, 10, 11, 12, 13, 14, 15, 16, 17, 18, 19, 20, 21, 22, 23, 24, 25, 26, 27, 28, 29, 30, 31, 32, 33, 34, 35, 36, 37, 38, 39, 40, 41] (by decide +kernel) (by decide +kernel)
set_option maxRecDepth 20000 in
theorem gX7_isMark_X7_stands : GoodIn wsX7_isMark (wsV RX7 96 RX7 yX7_stands wsX7_stands) := goodIn_app (goodIn_of _ (by decide +kernel)) ggX7_isMark_X7_stands
theorem dX7_isMark_0 : decode cX7_isMark 0 = .ok (.iconst 1, 1) := by decide +kernel
theorem dX7_isMark_1 : decode cX7_isMark 1 = .ok (.istore_n 3, 1) := by decide +kernel
theorem dX7_isMark_2 : decode cX7_isMark 2 = .ok (.iconst 0, 1) := by decide +kernel
theorem dX7_isMark_3 : decode cX7_isMark 3 = .ok (.istore 4, 2) := by decide +kernel
theorem dX7_isMark_5 : decode cX7_isMark 5 = .ok (.iload 4, 2) := by decide +kernel
theorem dX7_isMark_7 : decode cX7_isMark 7 = .ok (.aload_n 0, 1) := by decide +kernel
theorem dX7_isMark_8 : decode cX7_isMark 8 = .ok (.getfield 86, 3) := by decide +kernel
theorem dX7_isMark_11 : decode cX7_isMark 11 = .ok (.if_icmp .ge 81, 3) := by decide +kernel
theorem dX7_isMark_14 : decode cX7_isMark 14 = .ok (.iload_n 3, 1) := by decide +kernel
theorem dX7_isMark_15 : decode cX7_isMark 15 = .ok (.ifCond .eq 77, 3) := by decide +kernel
theorem dX7_isMark_18 : decode cX7_isMark 18 = .ok (.aload_n 0, 1) := by decide +kernel
theorem dX7_isMark_19 : decode cX7_isMark 19 = .ok (.getfield 35, 3) := by decide +kernel
theorem dX7_isMark_22 : decode cX7_isMark 22 = .ok (.iload 4, 2) := by decide +kernel
theorem dX7_isMark_24 : decode cX7_isMark 24 = .ok (.iaload, 1) := by decide +kernel
theorem dX7_isMark_25 : decode cX7_isMark 25 = .ok (.iload_n 1, 1) := by decide +kernel
theorem dX7_isMark_26 : decode cX7_isMark 26 = .ok (.if_icmp .eq 60, 3) := by decide +kernel
theorem dX7_isMark_29 : decode cX7_isMark 29 = .ok (.iconst 1, 1) := by decide +kernel
theorem dX7_isMark_30 : decode cX7_isMark 30 = .ok (.istore 5, 2) := by decide +kernel
theorem dX7_isMark_32 : decode cX7_isMark 32 = .ok (.iconst 0, 1) := by decide +kernel
theorem dX7_isMark_33 : decode cX7_isMark 33 = .ok (.istore 6, 2) := by decide +kernel
theorem dX7_isMark_35 : decode cX7_isMark 35 = .ok (.iload 6, 2) := by decide +kernel
theorem dX7_isMark_37 : decode cX7_isMark 37 = .ok (.iload_n 2, 1) := by decide +kernel
theorem dX7_isMark_38 : decode cX7_isMark 38 = .ok (.if_icmp .ge 37, 3) := by decide +kernel
theorem dX7_isMark_41 : decode cX7_isMark 41 = .ok (.iload 5, 2) := by decide +kernel
theorem dX7_isMark_43 : decode cX7_isMark 43 = .ok (.ifCond .eq 23, 3) := by decide +kernel
theorem dX7_isMark_46 : decode cX7_isMark 46 = .ok (.aload_n 0, 1) := by decide +kernel
theorem dX7_isMark_47 : decode cX7_isMark 47 = .ok (.aload_n 0, 1) := by decide +kernel
theorem dX7_isMark_48 : decode cX7_isMark 48 = .ok (.getfield 66, 3) := by decide +kernel
theorem dX7_isMark_51 : decode cX7_isMark 51 = .ok (.iload 6, 2) := by decide +kernel
theorem dX7_isMark_53 : decode cX7_isMark 53 = .ok (.iaload, 1) := by decide +kernel
theorem dX7_isMark_54 : decode cX7_isMark 54 = .ok (.iload 4, 2) := by decide +kernel
theorem dX7_isMark_56 : decode cX7_isMark 56 = .ok (.invokevirtual 96, 3) := by decide +kernel
theorem dX7_isMark_59 : decode cX7_isMark 59 = .ok (.ifCond .eq 7, 3) := by decide +kernel
theorem dX7_isMark_62 : decode cX7_isMark 62 = .ok (.iconst 1, 1) := by decide +kernel
theorem dX7_isMark_63 : decode cX7_isMark 63 = .ok (.goto 4, 3) := by decide +kernel
theorem dX7_isMark_66 : decode cX7_isMark 66 = .ok (.iconst 0, 1) := by decide +kernel
theorem dX7_isMark_67 : decode cX7_isMark 67 = .ok (.istore 5, 2) := by decide +kernel
theorem dX7_isMark_69 : decode cX7_isMark 69 = .ok (.iinc 6 1, 3) := by decide +kernel
theorem dX7_isMark_72 : decode cX7_isMark 72 = .ok (.goto (-37), 3) := by decide +kernel
theorem dX7_isMark_75 : decode cX7_isMark 75 = .ok (.iload 5, 2) := by decide +kernel
theorem dX7_isMark_77 : decode cX7_isMark 77 = .ok (.ifCond .ne 7, 3) := by decide +kernel
theorem dX7_isMark_80 : decode cX7_isMark 80 = .ok (.iconst 1, 1) := by decide +kernel
theorem dX7_isMark_81 : decode cX7_isMark 81 = .ok (.goto 4, 3) := by decide +kernel
theorem dX7_isMark_84 : decode cX7_isMark 84 = .ok (.iconst 0, 1) := by decide +kernel
theorem dX7_isMark_85 : decode cX7_isMark 85 = .ok (.istore_n 3, 1) := by decide +kernel
theorem dX7_isMark_86 : decode cX7_isMark 86 = .ok (.iinc 4 1, 3) := by decide +kernel
theorem dX7_isMark_89 : decode cX7_isMark 89 = .ok (.goto (-84), 3) := by decide +kernel
theorem dX7_isMark_92 : decode cX7_isMark 92 = .ok (.iload_n 3, 1) := by decide +kernel
theorem dX7_isMark_93 : decode cX7_isMark 93 = .ok (.ireturn, 1) := by decide +kernel
set_option maxRecDepth 20000 in
theorem ggX7_seeks_X7_isMark : GoodIn wsX7_seeks wsX7_isMark := goodIn_r _ [8, 9, 10, 2, 11, 12, 13, 7, 14, 15, 16, 20, 21, 22, 23, 24, 25, 26, 27, 28, 29, 30, 31, 32, 33, 34, 35, 36, 37, 38, 39, 40, 41, 42, 43, 44, 45, 46, 47, 48, 49, 50] (by decide +kernel) (by decide +kernel)
set_option maxRecDepth 20000 in
theorem gX7_seeks_X7_isMark : GoodIn wsX7_seeks (wsV RX7 191 RX7 yX7_isMark wsX7_isMark) := goodIn_app (goodIn_of _ (by decide +kernel)) ggX7_seeks_X7_isMark
set_option maxRecDepth 20000 in
theorem ggX7_seeks_X7_seeks : GoodIn wsX7_seeks wsX7_seeks := goodIn_r _ [0, 1, 2, 3, 4, 5, 6, 7, 8, 9, 10, 11, 12, 13, 14, 15, 16, 17, 18, 19, 20, 21, 22, 23, 24, 25, 26, 27, 28, 29, 30, 31, 32, 33, 34, 35, 36, 37, 38, 39, 40, 41, 42, 43, 44, 45, 46, 47, 48, 49, 50] (by decide +kernel) (by decide +kernel)
set_option maxRecDepth 20000 in
theorem gX7_seeks_X7_seeks : GoodIn wsX7_seeks (wsV RX7 194 RX7 yX7_seeks wsX7_seeks) := goodIn_app (goodIn_of _ (by decide +kernel)) ggX7_seeks_X7_seeks
theorem dX7_seeks_0 : decode cX7_seeks 0 = .ok (.iload_n 3, 1) := by decide +kernel
theorem dX7_seeks_1 : decode cX7_seeks 1 = .ok (.iload_n 2, 1) := by decide +kernel
theorem dX7_seeks_2 : decode cX7_seeks 2 = .ok (.if_icmp .ne 10, 3) := by decide +kernel
theorem dX7_seeks_5 : decode cX7_seeks 5 = .ok (.aload_n 0, 1) := by decide +kernel
theorem dX7_seeks_6 : decode cX7_seeks 6 = .ok (.iload_n 1, 1) := by decide +kernel
theorem dX7_seeks_7 : decode cX7_seeks 7 = .ok (.iload_n 2, 1) := by decide +kernel
theorem dX7_seeks_8 : decode cX7_seeks 8 = .ok (.invokevirtual 191, 3) := by decide +kernel
theorem dX7_seeks_11 : decode cX7_seeks 11 = .ok (.ireturn, 1) := by decide +kernel
theorem dX7_seeks_12 : decode cX7_seeks 12 = .ok (.iload 4, 2) := by decide +kernel
theorem dX7_seeks_14 : decode cX7_seeks 14 = .ok (.istore 5, 2) := by decide +kernel
theorem dX7_seeks_16 : decode cX7_seeks 16 = .ok (.iload 5, 2) := by decide +kernel
theorem dX7_seeks_18 : decode cX7_seeks 18 = .ok (.aload_n 0, 1) := by decide +kernel
theorem dX7_seeks_19 : decode cX7_seeks 19 = .ok (.getfield 188, 3) := by decide +kernel
theorem dX7_seeks_22 : decode cX7_seeks 22 = .ok (.if_icmp .ge 40, 3) := by decide +kernel
theorem dX7_seeks_25 : decode cX7_seeks 25 = .ok (.aload_n 0, 1) := by decide +kernel
theorem dX7_seeks_26 : decode cX7_seeks 26 = .ok (.getfield 66, 3) := by decide +kernel
theorem dX7_seeks_29 : decode cX7_seeks 29 = .ok (.iload_n 3, 1) := by decide +kernel
theorem dX7_seeks_30 : decode cX7_seeks 30 = .ok (.aload_n 0, 1) := by decide +kernel
theorem dX7_seeks_31 : decode cX7_seeks 31 = .ok (.getfield 69, 3) := by decide +kernel
theorem dX7_seeks_34 : decode cX7_seeks 34 = .ok (.iload 5, 2) := by decide +kernel
theorem dX7_seeks_36 : decode cX7_seeks 36 = .ok (.iaload, 1) := by decide +kernel
theorem dX7_seeks_37 : decode cX7_seeks 37 = .ok (.iastore, 1) := by decide +kernel
theorem dX7_seeks_38 : decode cX7_seeks 38 = .ok (.aload_n 0, 1) := by decide +kernel
theorem dX7_seeks_39 : decode cX7_seeks 39 = .ok (.iload_n 1, 1) := by decide +kernel
theorem dX7_seeks_40 : decode cX7_seeks 40 = .ok (.iload_n 2, 1) := by decide +kernel
theorem dX7_seeks_41 : decode cX7_seeks 41 = .ok (.iload_n 3, 1) := by decide +kernel
theorem dX7_seeks_42 : decode cX7_seeks 42 = .ok (.iconst 1, 1) := by decide +kernel
theorem dX7_seeks_43 : decode cX7_seeks 43 = .ok (.iadd, 1) := by decide +kernel
theorem dX7_seeks_44 : decode cX7_seeks 44 = .ok (.iload 5, 2) := by decide +kernel
theorem dX7_seeks_46 : decode cX7_seeks 46 = .ok (.iconst 1, 1) := by decide +kernel
theorem dX7_seeks_47 : decode cX7_seeks 47 = .ok (.iadd, 1) := by decide +kernel
theorem dX7_seeks_48 : decode cX7_seeks 48 = .ok (.invokevirtual 194, 3) := by decide +kernel
theorem dX7_seeks_51 : decode cX7_seeks 51 = .ok (.ifCond .eq 5, 3) := by decide +kernel
theorem dX7_seeks_54 : decode cX7_seeks 54 = .ok (.iconst 1, 1) := by decide +kernel
theorem dX7_seeks_55 : decode cX7_seeks 55 = .ok (.ireturn, 1) := by decide +kernel
theorem dX7_seeks_56 : decode cX7_seeks 56 = .ok (.iinc 5 1, 3) := by decide +kernel
theorem dX7_seeks_59 : decode cX7_seeks 59 = .ok (.goto (-43), 3) := by decide +kernel
theorem dX7_seeks_62 : decode cX7_seeks 62 = .ok (.iconst 0, 1) := by decide +kernel
theorem dX7_seeks_63 : decode cX7_seeks 63 = .ok (.ireturn, 1) := by decide +kernel
set_option maxRecDepth 20000 in
theorem ggX7_sign_X7_isReport : GoodIn wsX7_sign wsX7_isReport := goodIn_r _ [10, 11, 32, 33, 34, 35, 36, 37, 38, 39, 40, 41, 42, 43, 44, 45, 46, 47, 48, 49, 50, 51, 52, 53, 54, 55, 56, 57, 58, 59, 60, 61, 62] (by decide +kernel) (by decide +kernel)
set_option maxRecDepth 20000 in
theorem gX7_sign_X7_isReport : GoodIn wsX7_sign (wsV RX7 178 RX7 yX7_isReport wsX7_isReport) := goodIn_app (goodIn_of _ (by decide +kernel)) ggX7_sign_X7_isReport
set_option maxRecDepth 20000 in
theorem ggX7_sign_X7_findShared : GoodIn wsX7_sign wsX7_findShared := goodIn_r _ [15, 16, 11, 2, 17, 18, 19, 20, 9, 21, 22, 23, 32, 33, 34, 35, 36, 37, 38, 39, 40, 41, 42, 43, 44, 45, 46, 47, 48, 49, 50, 51, 52, 53, 54, 55, 56, 57, 58, 59, 60, 61, 62] (by decide +kernel) (by decide +kernel)
set_option maxRecDepth 20000 in
theorem gX7_sign_X7_findShared : GoodIn wsX7_sign (wsV RX7 198 RX7 yX7_findShared wsX7_findShared) := goodIn_app (goodIn_of _ (by decide +kernel)) ggX7_sign_X7_findShared
set_option maxRecDepth 20000 in
theorem ggX7_sign_X7_seeks : GoodIn wsX7_sign wsX7_seeks := goodIn_r _ [27, 16, 5, 17, 28, 29, 30, 9, 31, 11, 2, 18, 19, 20, 21, 22, 23, 24, 25, 26, 32, 33, 34, 35, 36, 37, 38, 39, 40, 41, 42, 43, 44, 45, 46, 47, 48, 49, 50, 51, 52, 53, 54, 55, 56, 57, 58, 59, 60, 61, 62] (by decide +kernel) (by decide +kernel)
set_option maxRecDepth 20000 in
theorem gX7_sign_X7_seeks : GoodIn wsX7_sign (wsV RX7 194 RX7 yX7_seeks wsX7_seeks) := goodIn_app (goodIn_of _ (by decide +kernel)) ggX7_sign_X7_seeks
theorem dX7_sign_0 : decode cX7_sign 0 = .ok (.aload_n 0, 1) := by decide +kernel
theorem dX7_sign_1 : decode cX7_sign 1 = .ok (.iconst 0, 1) := by decide +kernel
theorem dX7_sign_2 : decode cX7_sign 2 = .ok (.putfield 1, 3) := by decide +kernel
theorem dX7_sign_5 : decode cX7_sign 5 = .ok (.aload_n 0, 1) := by decide +kernel
theorem dX7_sign_6 : decode cX7_sign 6 = .ok (.iload_n 1, 1) := by decide +kernel
theorem dX7_sign_7 : decode cX7_sign 7 = .ok (.invokevirtual 178, 3) := by decide +kernel
theorem dX7_sign_10 : decode cX7_sign 10 = .ok (.ifCond .ne 5, 3) := by decide +kernel
theorem dX7_sign_13 : decode cX7_sign 13 = .ok (.iconst (-1), 1) := by decide +kernel
theorem dX7_sign_14 : decode cX7_sign 14 = .ok (.ireturn, 1) := by decide +kernel
theorem dX7_sign_15 : decode cX7_sign 15 = .ok (.aload_n 0, 1) := by decide +kernel
theorem dX7_sign_16 : decode cX7_sign 16 = .ok (.aload_n 0, 1) := by decide +kernel
theorem dX7_sign_17 : decode cX7_sign 17 = .ok (.getfield 35, 3) := by decide +kernel
theorem dX7_sign_20 : decode cX7_sign 20 = .ok (.iload_n 1, 1) := by decide +kernel
theorem dX7_sign_21 : decode cX7_sign 21 = .ok (.iaload, 1) := by decide +kernel
theorem dX7_sign_22 : decode cX7_sign 22 = .ok (.invokevirtual 198, 3) := by decide +kernel
theorem dX7_sign_25 : decode cX7_sign 25 = .ok (.iconst 0, 1) := by decide +kernel
theorem dX7_sign_26 : decode cX7_sign 26 = .ok (.istore_n 2, 1) := by decide +kernel
theorem dX7_sign_27 : decode cX7_sign 27 = .ok (.iload_n 2, 1) := by decide +kernel
theorem dX7_sign_28 : decode cX7_sign 28 = .ok (.iconst 3, 1) := by decide +kernel
theorem dX7_sign_29 : decode cX7_sign 29 = .ok (.if_icmp .gt 57, 3) := by decide +kernel
theorem dX7_sign_32 : decode cX7_sign 32 = .ok (.aload_n 0, 1) := by decide +kernel
theorem dX7_sign_33 : decode cX7_sign 33 = .ok (.aload_n 0, 1) := by decide +kernel
theorem dX7_sign_34 : decode cX7_sign 34 = .ok (.getfield 35, 3) := by decide +kernel
theorem dX7_sign_37 : decode cX7_sign 37 = .ok (.iload_n 1, 1) := by decide +kernel
theorem dX7_sign_38 : decode cX7_sign 38 = .ok (.iaload, 1) := by decide +kernel
theorem dX7_sign_39 : decode cX7_sign 39 = .ok (.iload_n 2, 1) := by decide +kernel
theorem dX7_sign_40 : decode cX7_sign 40 = .ok (.iconst 0, 1) := by decide +kernel
theorem dX7_sign_41 : decode cX7_sign 41 = .ok (.iconst 0, 1) := by decide +kernel
theorem dX7_sign_42 : decode cX7_sign 42 = .ok (.invokevirtual 194, 3) := by decide +kernel
theorem dX7_sign_45 : decode cX7_sign 45 = .ok (.ifCond .eq 35, 3) := by decide +kernel
theorem dX7_sign_48 : decode cX7_sign 48 = .ok (.aload_n 0, 1) := by decide +kernel
theorem dX7_sign_49 : decode cX7_sign 49 = .ok (.iload_n 2, 1) := by decide +kernel
theorem dX7_sign_50 : decode cX7_sign 50 = .ok (.putfield 202, 3) := by decide +kernel
theorem dX7_sign_53 : decode cX7_sign 53 = .ok (.iconst 0, 1) := by decide +kernel
theorem dX7_sign_54 : decode cX7_sign 54 = .ok (.istore_n 3, 1) := by decide +kernel
theorem dX7_sign_55 : decode cX7_sign 55 = .ok (.iload_n 3, 1) := by decide +kernel
theorem dX7_sign_56 : decode cX7_sign 56 = .ok (.iload_n 2, 1) := by decide +kernel
theorem dX7_sign_57 : decode cX7_sign 57 = .ok (.if_icmp .ge 21, 3) := by decide +kernel
theorem dX7_sign_60 : decode cX7_sign 60 = .ok (.aload_n 0, 1) := by decide +kernel
theorem dX7_sign_61 : decode cX7_sign 61 = .ok (.getfield 63, 3) := by decide +kernel
theorem dX7_sign_64 : decode cX7_sign 64 = .ok (.iload_n 3, 1) := by decide +kernel
theorem dX7_sign_65 : decode cX7_sign 65 = .ok (.aload_n 0, 1) := by decide +kernel
theorem dX7_sign_66 : decode cX7_sign 66 = .ok (.getfield 66, 3) := by decide +kernel
theorem dX7_sign_69 : decode cX7_sign 69 = .ok (.iload_n 3, 1) := by decide +kernel
theorem dX7_sign_70 : decode cX7_sign 70 = .ok (.iaload, 1) := by decide +kernel
theorem dX7_sign_71 : decode cX7_sign 71 = .ok (.iastore, 1) := by decide +kernel
theorem dX7_sign_72 : decode cX7_sign 72 = .ok (.iinc 3 1, 3) := by decide +kernel
theorem dX7_sign_75 : decode cX7_sign 75 = .ok (.goto (-20), 3) := by decide +kernel
theorem dX7_sign_78 : decode cX7_sign 78 = .ok (.iload_n 2, 1) := by decide +kernel
theorem dX7_sign_79 : decode cX7_sign 79 = .ok (.ireturn, 1) := by decide +kernel
theorem dX7_sign_80 : decode cX7_sign 80 = .ok (.iinc 2 1, 3) := by decide +kernel
theorem dX7_sign_83 : decode cX7_sign 83 = .ok (.goto (-56), 3) := by decide +kernel
theorem dX7_sign_86 : decode cX7_sign 86 = .ok (.iconst (-1), 1) := by decide +kernel
theorem dX7_sign_87 : decode cX7_sign 87 = .ok (.ireturn, 1) := by decide +kernel
theorem dX7_signed_0 : decode cX7_signed 0 = .ok (.aload_n 0, 1) := by decide +kernel
theorem dX7_signed_1 : decode cX7_signed 1 = .ok (.iconst 0, 1) := by decide +kernel
theorem dX7_signed_2 : decode cX7_signed 2 = .ok (.putfield 1, 3) := by decide +kernel
theorem dX7_signed_5 : decode cX7_signed 5 = .ok (.iload_n 1, 1) := by decide +kernel
theorem dX7_signed_6 : decode cX7_signed 6 = .ok (.ifCond .lt 11, 3) := by decide +kernel
theorem dX7_signed_9 : decode cX7_signed 9 = .ok (.iload_n 1, 1) := by decide +kernel
theorem dX7_signed_10 : decode cX7_signed 10 = .ok (.aload_n 0, 1) := by decide +kernel
theorem dX7_signed_11 : decode cX7_signed 11 = .ok (.getfield 202, 3) := by decide +kernel
theorem dX7_signed_14 : decode cX7_signed 14 = .ok (.if_icmp .lt 7, 3) := by decide +kernel
theorem dX7_signed_17 : decode cX7_signed 17 = .ok (.iconst (-1), 1) := by decide +kernel
theorem dX7_signed_18 : decode cX7_signed 18 = .ok (.goto 9, 3) := by decide +kernel
theorem dX7_signed_21 : decode cX7_signed 21 = .ok (.aload_n 0, 1) := by decide +kernel
theorem dX7_signed_22 : decode cX7_signed 22 = .ok (.getfield 63, 3) := by decide +kernel
theorem dX7_signed_25 : decode cX7_signed 25 = .ok (.iload_n 1, 1) := by decide +kernel
theorem dX7_signed_26 : decode cX7_signed 26 = .ok (.iaload, 1) := by decide +kernel
theorem dX7_signed_27 : decode cX7_signed 27 = .ok (.ireturn, 1) := by decide +kernel
set_option maxRecDepth 20000 in
theorem ggX7_fix_X7_isReport : GoodIn wsX7_fix wsX7_isReport := goodIn_r _ [7, 8, 14, 15, 16, 17, 18, 19, 20, 21, 22, 23, 24, 25, 26, 27, 28, 29, 30, 31, 32, 33, 34, 35, 36, 37, 38, 39, 40, 41, 42, 43, 44] (by decide +kernel) (by decide +kernel)
set_option maxRecDepth 20000 in
theorem gX7_fix_X7_isReport : GoodIn wsX7_fix (wsV RX7 178 RX7 yX7_isReport wsX7_isReport) := goodIn_app (goodIn_of _ (by decide +kernel)) ggX7_fix_X7_isReport
set_option maxRecDepth 20000 in
theorem ggX7_fix_X7_isVersion : GoodIn wsX7_fix wsX7_isVersion := goodIn_r _ [12, 13, 14, 15, 16, 17, 18, 19, 20, 21, 22, 23, 24, 25, 26, 27, 28, 29, 30, 31, 32, 33, 34, 35, 36, 37, 38, 39, 40, 41, 42, 43, 44] (by decide +kernel) (by decide +kernel)
set_option maxRecDepth 20000 in
theorem gX7_fix_X7_isVersion : GoodIn wsX7_fix (wsV RX7 72 RX7 yX7_isVersion wsX7_isVersion) := goodIn_app (goodIn_of _ (by decide +kernel)) ggX7_fix_X7_isVersion
theorem dX7_fix_0 : decode cX7_fix 0 = .ok (.aload_n 0, 1) := by decide +kernel
theorem dX7_fix_1 : decode cX7_fix 1 = .ok (.iconst 0, 1) := by decide +kernel
theorem dX7_fix_2 : decode cX7_fix 2 = .ok (.putfield 1, 3) := by decide +kernel
theorem dX7_fix_5 : decode cX7_fix 5 = .ok (.aload_n 0, 1) := by decide +kernel
theorem dX7_fix_6 : decode cX7_fix 6 = .ok (.iload_n 1, 1) := by decide +kernel
theorem dX7_fix_7 : decode cX7_fix 7 = .ok (.invokevirtual 178, 3) := by decide +kernel
theorem dX7_fix_10 : decode cX7_fix 10 = .ok (.ifCond .eq 11, 3) := by decide +kernel
theorem dX7_fix_13 : decode cX7_fix 13 = .ok (.aload_n 0, 1) := by decide +kernel
theorem dX7_fix_14 : decode cX7_fix 14 = .ok (.iload_n 2, 1) := by decide +kernel
theorem dX7_fix_15 : decode cX7_fix 15 = .ok (.invokevirtual 72, 3) := by decide +kernel
theorem dX7_fix_18 : decode cX7_fix 18 = .ok (.ifCond .ne 5, 3) := by decide +kernel
theorem dX7_fix_21 : decode cX7_fix 21 = .ok (.iconst 0, 1) := by decide +kernel
theorem dX7_fix_22 : decode cX7_fix 22 = .ok (.ireturn, 1) := by decide +kernel
theorem dX7_fix_23 : decode cX7_fix 23 = .ok (.aload_n 0, 1) := by decide +kernel
theorem dX7_fix_24 : decode cX7_fix 24 = .ok (.getfield 32, 3) := by decide +kernel
theorem dX7_fix_27 : decode cX7_fix 27 = .ok (.iload_n 1, 1) := by decide +kernel
theorem dX7_fix_28 : decode cX7_fix 28 = .ok (.iload_n 2, 1) := by decide +kernel
theorem dX7_fix_29 : decode cX7_fix 29 = .ok (.iastore, 1) := by decide +kernel
theorem dX7_fix_30 : decode cX7_fix 30 = .ok (.iconst 1, 1) := by decide +kernel
theorem dX7_fix_31 : decode cX7_fix 31 = .ok (.ireturn, 1) := by decide +kernel
set_option maxRecDepth 20000 in
theorem ggX7_cameBack_X7_isBehind : GoodIn wsX7_cameBack wsX7_isBehind := goodIn_r _ [9, 10, 11, 12, 13, 14, 15, 16, 17, 18, 19, 20, 21, 22, 23, 24, 25, 26, 27, 28, 29, 30, 31, 32, 33, 34, 35, 36, 37, 38, 39, 40, 41] (by decide +kernel) (by decide +kernel)
set_option maxRecDepth 20000 in
theorem gX7_cameBack_X7_isBehind : GoodIn wsX7_cameBack (wsV RX7 76 RX7 yX7_isBehind wsX7_isBehind) := goodIn_app (goodIn_of _ (by decide +kernel)) ggX7_cameBack_X7_isBehind
theorem dX7_cameBack_0 : decode cX7_cameBack 0 = .ok (.iconst 0, 1) := by decide +kernel
theorem dX7_cameBack_1 : decode cX7_cameBack 1 = .ok (.istore_n 2, 1) := by decide +kernel
theorem dX7_cameBack_2 : decode cX7_cameBack 2 = .ok (.iconst 0, 1) := by decide +kernel
theorem dX7_cameBack_3 : decode cX7_cameBack 3 = .ok (.istore_n 3, 1) := by decide +kernel
theorem dX7_cameBack_4 : decode cX7_cameBack 4 = .ok (.iload_n 3, 1) := by decide +kernel
theorem dX7_cameBack_5 : decode cX7_cameBack 5 = .ok (.aload_n 0, 1) := by decide +kernel
theorem dX7_cameBack_6 : decode cX7_cameBack 6 = .ok (.getfield 86, 3) := by decide +kernel
theorem dX7_cameBack_9 : decode cX7_cameBack 9 = .ok (.if_icmp .ge 62, 3) := by decide +kernel
theorem dX7_cameBack_12 : decode cX7_cameBack 12 = .ok (.iload_n 2, 1) := by decide +kernel
theorem dX7_cameBack_13 : decode cX7_cameBack 13 = .ok (.ifCond .ne 46, 3) := by decide +kernel
theorem dX7_cameBack_16 : decode cX7_cameBack 16 = .ok (.aload_n 0, 1) := by decide +kernel
theorem dX7_cameBack_17 : decode cX7_cameBack 17 = .ok (.getfield 35, 3) := by decide +kernel
theorem dX7_cameBack_20 : decode cX7_cameBack 20 = .ok (.iload_n 3, 1) := by decide +kernel
theorem dX7_cameBack_21 : decode cX7_cameBack 21 = .ok (.iaload, 1) := by decide +kernel
theorem dX7_cameBack_22 : decode cX7_cameBack 22 = .ok (.aload_n 0, 1) := by decide +kernel
theorem dX7_cameBack_23 : decode cX7_cameBack 23 = .ok (.getfield 35, 3) := by decide +kernel
theorem dX7_cameBack_26 : decode cX7_cameBack 26 = .ok (.iload_n 1, 1) := by decide +kernel
theorem dX7_cameBack_27 : decode cX7_cameBack 27 = .ok (.iaload, 1) := by decide +kernel
theorem dX7_cameBack_28 : decode cX7_cameBack 28 = .ok (.if_icmp .ne 35, 3) := by decide +kernel
theorem dX7_cameBack_31 : decode cX7_cameBack 31 = .ok (.aload_n 0, 1) := by decide +kernel
theorem dX7_cameBack_32 : decode cX7_cameBack 32 = .ok (.getfield 32, 3) := by decide +kernel
theorem dX7_cameBack_35 : decode cX7_cameBack 35 = .ok (.iload_n 3, 1) := by decide +kernel
theorem dX7_cameBack_36 : decode cX7_cameBack 36 = .ok (.iaload, 1) := by decide +kernel
theorem dX7_cameBack_37 : decode cX7_cameBack 37 = .ok (.ifCond .lt 26, 3) := by decide +kernel
theorem dX7_cameBack_40 : decode cX7_cameBack 40 = .ok (.aload_n 0, 1) := by decide +kernel
theorem dX7_cameBack_41 : decode cX7_cameBack 41 = .ok (.aload_n 0, 1) := by decide +kernel
theorem dX7_cameBack_42 : decode cX7_cameBack 42 = .ok (.getfield 29, 3) := by decide +kernel
theorem dX7_cameBack_45 : decode cX7_cameBack 45 = .ok (.iload_n 1, 1) := by decide +kernel
theorem dX7_cameBack_46 : decode cX7_cameBack 46 = .ok (.iaload, 1) := by decide +kernel
theorem dX7_cameBack_47 : decode cX7_cameBack 47 = .ok (.aload_n 0, 1) := by decide +kernel
theorem dX7_cameBack_48 : decode cX7_cameBack 48 = .ok (.getfield 32, 3) := by decide +kernel
theorem dX7_cameBack_51 : decode cX7_cameBack 51 = .ok (.iload_n 3, 1) := by decide +kernel
theorem dX7_cameBack_52 : decode cX7_cameBack 52 = .ok (.iaload, 1) := by decide +kernel
theorem dX7_cameBack_53 : decode cX7_cameBack 53 = .ok (.invokevirtual 76, 3) := by decide +kernel
theorem dX7_cameBack_56 : decode cX7_cameBack 56 = .ok (.ifCond .eq 7, 3) := by decide +kernel
theorem dX7_cameBack_59 : decode cX7_cameBack 59 = .ok (.iconst 1, 1) := by decide +kernel
theorem dX7_cameBack_60 : decode cX7_cameBack 60 = .ok (.goto 4, 3) := by decide +kernel
theorem dX7_cameBack_63 : decode cX7_cameBack 63 = .ok (.iconst 0, 1) := by decide +kernel
theorem dX7_cameBack_64 : decode cX7_cameBack 64 = .ok (.istore_n 2, 1) := by decide +kernel
theorem dX7_cameBack_65 : decode cX7_cameBack 65 = .ok (.iinc 3 1, 3) := by decide +kernel
theorem dX7_cameBack_68 : decode cX7_cameBack 68 = .ok (.goto (-64), 3) := by decide +kernel
theorem dX7_cameBack_71 : decode cX7_cameBack 71 = .ok (.iload_n 2, 1) := by decide +kernel
theorem dX7_cameBack_72 : decode cX7_cameBack 72 = .ok (.ireturn, 1) := by decide +kernel
set_option maxRecDepth 20000 in
theorem ggX7_look_X7_isReport : GoodIn wsX7_look wsX7_isReport := goodIn_r _ [10, 11, 25, 26, 27, 28, 29, 30, 31, 32, 33, 34, 35, 36, 37, 38, 39, 40, 41, 42, 43, 44, 45, 46, 47, 48, 49, 50, 51, 52, 53, 54, 55] (by decide +kernel) (by decide +kernel)
set_option maxRecDepth 20000 in
theorem gX7_look_X7_isReport : GoodIn wsX7_look (wsV RX7 178 RX7 yX7_isReport wsX7_isReport) := goodIn_app (goodIn_of _ (by decide +kernel)) ggX7_look_X7_isReport
set_option maxRecDepth 20000 in
theorem ggX7_look_X7_cameBack : GoodIn wsX7_look wsX7_cameBack := goodIn_r _ [15, 11, 5, 4, 2, 16, 17, 18, 9, 19, 20, 25, 26, 27, 28, 29, 30, 31, 32, 33, 34, 35, 36, 37, 38, 39, 40, 41, 42, 43, 44, 45, 46, 47, 48, 49, 50, 51, 52, 53, 54, 55] (by decide +kernel) (by decide +kernel)
set_option maxRecDepth 20000 in
theorem gX7_look_X7_cameBack : GoodIn wsX7_look (wsV RX7 205 RX7 yX7_cameBack wsX7_cameBack) := goodIn_app (goodIn_of _ (by decide +kernel)) ggX7_look_X7_cameBack
set_option maxRecDepth 20000 in
theorem ggX7_look_X7_inHeap : GoodIn wsX7_look wsX7_inHeap := goodIn_r _ [24, 11, 5, 25, 26, 27, 28, 29, 30, 31, 32, 33, 34, 35, 36, 37, 38, 39, 40, 41, 42, 43, 44, 45, 46, 47, 48, 49, 50, 51, 52, 53, 54, 55] (by decide +kernel) (by decide +kernel)
set_option maxRecDepth 20000 in
theorem gX7_look_X7_inHeap : GoodIn wsX7_look (wsV RX7 156 RX7 yX7_inHeap wsX7_inHeap) := goodIn_app (goodIn_of _ (by decide +kernel)) ggX7_look_X7_inHeap
theorem dX7_look_0 : decode cX7_look 0 = .ok (.aload_n 0, 1) := by decide +kernel
theorem dX7_look_1 : decode cX7_look 1 = .ok (.aload_n 0, 1) := by decide +kernel
theorem dX7_look_2 : decode cX7_look 2 = .ok (.iload_n 1, 1) := by decide +kernel
theorem dX7_look_3 : decode cX7_look 3 = .ok (.invokevirtual 178, 3) := by decide +kernel
theorem dX7_look_6 : decode cX7_look 6 = .ok (.ifCond .eq 16, 3) := by decide +kernel
theorem dX7_look_9 : decode cX7_look 9 = .ok (.iload_n 2, 1) := by decide +kernel
theorem dX7_look_10 : decode cX7_look 10 = .ok (.ifCond .lt 12, 3) := by decide +kernel
theorem dX7_look_13 : decode cX7_look 13 = .ok (.iload_n 2, 1) := by decide +kernel
theorem dX7_look_14 : decode cX7_look 14 = .ok (.iconst 4, 1) := by decide +kernel
theorem dX7_look_15 : decode cX7_look 15 = .ok (.if_icmp .gt 7, 3) := by decide +kernel
theorem dX7_look_18 : decode cX7_look 18 = .ok (.iconst 0, 1) := by decide +kernel
theorem dX7_look_19 : decode cX7_look 19 = .ok (.goto 4, 3) := by decide +kernel
theorem dX7_look_22 : decode cX7_look 22 = .ok (.iconst 1, 1) := by decide +kernel
theorem dX7_look_23 : decode cX7_look 23 = .ok (.putfield 1, 3) := by decide +kernel
theorem dX7_look_26 : decode cX7_look 26 = .ok (.aload_n 0, 1) := by decide +kernel
theorem dX7_look_27 : decode cX7_look 27 = .ok (.getfield 1, 3) := by decide +kernel
theorem dX7_look_30 : decode cX7_look 30 = .ok (.ifCond .le 5, 3) := by decide +kernel
theorem dX7_look_33 : decode cX7_look 33 = .ok (.iconst 0, 1) := by decide +kernel
theorem dX7_look_34 : decode cX7_look 34 = .ok (.ireturn, 1) := by decide +kernel
theorem dX7_look_35 : decode cX7_look 35 = .ok (.iload_n 2, 1) := by decide +kernel
theorem dX7_look_36 : decode cX7_look 36 = .ok (.ifCond .ne 12, 3) := by decide +kernel
theorem dX7_look_39 : decode cX7_look 39 = .ok (.aload_n 0, 1) := by decide +kernel
theorem dX7_look_40 : decode cX7_look 40 = .ok (.getfield 29, 3) := by decide +kernel
theorem dX7_look_43 : decode cX7_look 43 = .ok (.iload_n 1, 1) := by decide +kernel
theorem dX7_look_44 : decode cX7_look 44 = .ok (.iaload, 1) := by decide +kernel
theorem dX7_look_45 : decode cX7_look 45 = .ok (.goto 62, 3) := by decide +kernel
theorem dX7_look_48 : decode cX7_look 48 = .ok (.iload_n 2, 1) := by decide +kernel
theorem dX7_look_49 : decode cX7_look 49 = .ok (.iconst 1, 1) := by decide +kernel
theorem dX7_look_50 : decode cX7_look 50 = .ok (.if_icmp .ne 12, 3) := by decide +kernel
theorem dX7_look_53 : decode cX7_look 53 = .ok (.aload_n 0, 1) := by decide +kernel
theorem dX7_look_54 : decode cX7_look 54 = .ok (.getfield 26, 3) := by decide +kernel
theorem dX7_look_57 : decode cX7_look 57 = .ok (.iload_n 1, 1) := by decide +kernel
theorem dX7_look_58 : decode cX7_look 58 = .ok (.iaload, 1) := by decide +kernel
theorem dX7_look_59 : decode cX7_look 59 = .ok (.goto 48, 3) := by decide +kernel
theorem dX7_look_62 : decode cX7_look 62 = .ok (.iload_n 2, 1) := by decide +kernel
theorem dX7_look_63 : decode cX7_look 63 = .ok (.iconst 2, 1) := by decide +kernel
theorem dX7_look_64 : decode cX7_look 64 = .ok (.if_icmp .ne 12, 3) := by decide +kernel
theorem dX7_look_67 : decode cX7_look 67 = .ok (.aload_n 0, 1) := by decide +kernel
theorem dX7_look_68 : decode cX7_look 68 = .ok (.getfield 32, 3) := by decide +kernel
theorem dX7_look_71 : decode cX7_look 71 = .ok (.iload_n 1, 1) := by decide +kernel
theorem dX7_look_72 : decode cX7_look 72 = .ok (.iaload, 1) := by decide +kernel
theorem dX7_look_73 : decode cX7_look 73 = .ok (.goto 34, 3) := by decide +kernel
theorem dX7_look_76 : decode cX7_look 76 = .ok (.iload_n 2, 1) := by decide +kernel
theorem dX7_look_77 : decode cX7_look 77 = .ok (.iconst 3, 1) := by decide +kernel
theorem dX7_look_78 : decode cX7_look 78 = .ok (.if_icmp .ne 19, 3) := by decide +kernel
theorem dX7_look_81 : decode cX7_look 81 = .ok (.aload_n 0, 1) := by decide +kernel
theorem dX7_look_82 : decode cX7_look 82 = .ok (.iload_n 1, 1) := by decide +kernel
theorem dX7_look_83 : decode cX7_look 83 = .ok (.invokevirtual 205, 3) := by decide +kernel
theorem dX7_look_86 : decode cX7_look 86 = .ok (.ifCond .eq 7, 3) := by decide +kernel
theorem dX7_look_89 : decode cX7_look 89 = .ok (.iconst 1, 1) := by decide +kernel
theorem dX7_look_90 : decode cX7_look 90 = .ok (.goto 17, 3) := by decide +kernel
theorem dX7_look_93 : decode cX7_look 93 = .ok (.iconst 0, 1) := by decide +kernel
theorem dX7_look_94 : decode cX7_look 94 = .ok (.goto 13, 3) := by decide +kernel
theorem dX7_look_97 : decode cX7_look 97 = .ok (.aload_n 0, 1) := by decide +kernel
theorem dX7_look_98 : decode cX7_look 98 = .ok (.aload_n 0, 1) := by decide +kernel
theorem dX7_look_99 : decode cX7_look 99 = .ok (.getfield 35, 3) := by decide +kernel
theorem dX7_look_102 : decode cX7_look 102 = .ok (.iload_n 1, 1) := by decide +kernel
theorem dX7_look_103 : decode cX7_look 103 = .ok (.iaload, 1) := by decide +kernel
theorem dX7_look_104 : decode cX7_look 104 = .ok (.invokevirtual 156, 3) := by decide +kernel
theorem dX7_look_107 : decode cX7_look 107 = .ok (.ireturn, 1) := by decide +kernel
set_option maxRecDepth 20000 in
theorem ggX7_count_X7_heaps : GoodIn wsX7_count wsX7_heaps := goodIn_r _ [11, 2, 12, 34, 35, 36, 37, 38, 39, 40, 41, 42, 43, 44, 45, 46, 47, 48, 49, 50, 51, 52, 53, 54, 55, 56, 57, 58, 59, 60, 61, 62, 63, 64] (by decide +kernel) (by decide +kernel)
set_option maxRecDepth 20000 in
theorem gX7_count_X7_heaps : GoodIn wsX7_count (wsV RX7 174 RX7 yX7_heaps wsX7_heaps) := goodIn_app (goodIn_of _ (by decide +kernel)) ggX7_count_X7_heaps
set_option maxRecDepth 20000 in
theorem ggX7_count_X7_isCommon : GoodIn wsX7_count wsX7_isCommon := goodIn_r _ [16, 2, 17, 18, 19, 10, 20, 21, 22, 34, 35, 36, 37, 38, 39, 40, 41, 42, 43, 44, 45, 46, 47, 48, 49, 50, 51, 52, 53, 54, 55, 56, 57, 58, 59, 60, 61, 62, 63, 64] (by decide +kernel) (by decide +kernel)
set_option maxRecDepth 20000 in
theorem gX7_count_X7_isCommon : GoodIn wsX7_count (wsV RX7 99 RX7 yX7_isCommon wsX7_isCommon) := goodIn_app (goodIn_of _ (by decide +kernel)) ggX7_count_X7_isCommon
set_option maxRecDepth 20000 in
theorem ggX7_count_X7_cameBack : GoodIn wsX7_count wsX7_cameBack := goodIn_r _ [26, 2, 12, 27, 28, 29, 30, 31, 10, 32, 33, 34, 35, 36, 37, 38, 39, 40, 41, 42, 43, 44, 45, 46, 47, 48, 49, 50, 51, 52, 53, 54, 55, 56, 57, 58, 59, 60, 61, 62, 63, 64] (by decide +kernel) (by decide +kernel)
set_option maxRecDepth 20000 in
theorem gX7_count_X7_cameBack : GoodIn wsX7_count (wsV RX7 205 RX7 yX7_cameBack wsX7_cameBack) := goodIn_app (goodIn_of _ (by decide +kernel)) ggX7_count_X7_cameBack
theorem dX7_count_0 : decode cX7_count 0 = .ok (.aload_n 0, 1) := by decide +kernel
theorem dX7_count_1 : decode cX7_count 1 = .ok (.iconst 0, 1) := by decide +kernel
theorem dX7_count_2 : decode cX7_count 2 = .ok (.putfield 1, 3) := by decide +kernel
theorem dX7_count_5 : decode cX7_count 5 = .ok (.iconst 0, 1) := by decide +kernel
theorem dX7_count_6 : decode cX7_count 6 = .ok (.istore_n 2, 1) := by decide +kernel
theorem dX7_count_7 : decode cX7_count 7 = .ok (.iload_n 1, 1) := by decide +kernel
theorem dX7_count_8 : decode cX7_count 8 = .ok (.tableswitch 145 0 7 #[48, 53, 58, 63, 68, 73, 106, 111], 48) := by decide +kernel
theorem dX7_count_56 : decode cX7_count 56 = .ok (.aload_n 0, 1) := by decide +kernel
theorem dX7_count_57 : decode cX7_count 57 = .ok (.getfield 86, 3) := by decide +kernel
theorem dX7_count_60 : decode cX7_count 60 = .ok (.ireturn, 1) := by decide +kernel
theorem dX7_count_61 : decode cX7_count 61 = .ok (.aload_n 0, 1) := by decide +kernel
theorem dX7_count_62 : decode cX7_count 62 = .ok (.invokevirtual 174, 3) := by decide +kernel
theorem dX7_count_65 : decode cX7_count 65 = .ok (.ireturn, 1) := by decide +kernel
theorem dX7_count_66 : decode cX7_count 66 = .ok (.aload_n 0, 1) := by decide +kernel
theorem dX7_count_67 : decode cX7_count 67 = .ok (.getfield 13, 3) := by decide +kernel
theorem dX7_count_70 : decode cX7_count 70 = .ok (.ireturn, 1) := by decide +kernel
theorem dX7_count_71 : decode cX7_count 71 = .ok (.aload_n 0, 1) := by decide +kernel
theorem dX7_count_72 : decode cX7_count 72 = .ok (.getfield 54, 3) := by decide +kernel
theorem dX7_count_75 : decode cX7_count 75 = .ok (.ireturn, 1) := by decide +kernel
theorem dX7_count_76 : decode cX7_count 76 = .ok (.aload_n 0, 1) := by decide +kernel
theorem dX7_count_77 : decode cX7_count 77 = .ok (.getfield 80, 3) := by decide +kernel
theorem dX7_count_80 : decode cX7_count 80 = .ok (.ireturn, 1) := by decide +kernel
theorem dX7_count_81 : decode cX7_count 81 = .ok (.iconst 1, 1) := by decide +kernel
theorem dX7_count_82 : decode cX7_count 82 = .ok (.istore_n 3, 1) := by decide +kernel
theorem dX7_count_83 : decode cX7_count 83 = .ok (.iload_n 3, 1) := by decide +kernel
theorem dX7_count_84 : decode cX7_count 84 = .ok (.sipush 500, 3) := by decide +kernel
theorem dX7_count_87 : decode cX7_count 87 = .ok (.if_icmp .gt 25, 3) := by decide +kernel
theorem dX7_count_90 : decode cX7_count 90 = .ok (.iload_n 2, 1) := by decide +kernel
theorem dX7_count_91 : decode cX7_count 91 = .ok (.aload_n 0, 1) := by decide +kernel
theorem dX7_count_92 : decode cX7_count 92 = .ok (.iload_n 3, 1) := by decide +kernel
theorem dX7_count_93 : decode cX7_count 93 = .ok (.invokevirtual 99, 3) := by decide +kernel
theorem dX7_count_96 : decode cX7_count 96 = .ok (.ifCond .eq 7, 3) := by decide +kernel
theorem dX7_count_99 : decode cX7_count 99 = .ok (.iconst 1, 1) := by decide +kernel
theorem dX7_count_100 : decode cX7_count 100 = .ok (.goto 4, 3) := by decide +kernel
theorem dX7_count_103 : decode cX7_count 103 = .ok (.iconst 0, 1) := by decide +kernel
theorem dX7_count_104 : decode cX7_count 104 = .ok (.iadd, 1) := by decide +kernel
theorem dX7_count_105 : decode cX7_count 105 = .ok (.istore_n 2, 1) := by decide +kernel
theorem dX7_count_106 : decode cX7_count 106 = .ok (.iinc 3 1, 3) := by decide +kernel
theorem dX7_count_109 : decode cX7_count 109 = .ok (.goto (-26), 3) := by decide +kernel
theorem dX7_count_112 : decode cX7_count 112 = .ok (.iload_n 2, 1) := by decide +kernel
theorem dX7_count_113 : decode cX7_count 113 = .ok (.ireturn, 1) := by decide +kernel
theorem dX7_count_114 : decode cX7_count 114 = .ok (.aload_n 0, 1) := by decide +kernel
theorem dX7_count_115 : decode cX7_count 115 = .ok (.getfield 171, 3) := by decide +kernel
theorem dX7_count_118 : decode cX7_count 118 = .ok (.ireturn, 1) := by decide +kernel
theorem dX7_count_119 : decode cX7_count 119 = .ok (.iconst 0, 1) := by decide +kernel
theorem dX7_count_120 : decode cX7_count 120 = .ok (.istore_n 3, 1) := by decide +kernel
theorem dX7_count_121 : decode cX7_count 121 = .ok (.iload_n 3, 1) := by decide +kernel
theorem dX7_count_122 : decode cX7_count 122 = .ok (.aload_n 0, 1) := by decide +kernel
theorem dX7_count_123 : decode cX7_count 123 = .ok (.getfield 86, 3) := by decide +kernel
theorem dX7_count_126 : decode cX7_count 126 = .ok (.if_icmp .ge 25, 3) := by decide +kernel
theorem dX7_count_129 : decode cX7_count 129 = .ok (.iload_n 2, 1) := by decide +kernel
theorem dX7_count_130 : decode cX7_count 130 = .ok (.aload_n 0, 1) := by decide +kernel
theorem dX7_count_131 : decode cX7_count 131 = .ok (.iload_n 3, 1) := by decide +kernel
theorem dX7_count_132 : decode cX7_count 132 = .ok (.invokevirtual 205, 3) := by decide +kernel
theorem dX7_count_135 : decode cX7_count 135 = .ok (.ifCond .eq 7, 3) := by decide +kernel
theorem dX7_count_138 : decode cX7_count 138 = .ok (.iconst 1, 1) := by decide +kernel
theorem dX7_count_139 : decode cX7_count 139 = .ok (.goto 4, 3) := by decide +kernel
theorem dX7_count_142 : decode cX7_count 142 = .ok (.iconst 0, 1) := by decide +kernel
theorem dX7_count_143 : decode cX7_count 143 = .ok (.iadd, 1) := by decide +kernel
theorem dX7_count_144 : decode cX7_count 144 = .ok (.istore_n 2, 1) := by decide +kernel
theorem dX7_count_145 : decode cX7_count 145 = .ok (.iinc 3 1, 3) := by decide +kernel
theorem dX7_count_148 : decode cX7_count 148 = .ok (.goto (-27), 3) := by decide +kernel
theorem dX7_count_151 : decode cX7_count 151 = .ok (.iload_n 2, 1) := by decide +kernel
theorem dX7_count_152 : decode cX7_count 152 = .ok (.ireturn, 1) := by decide +kernel
theorem dX7_count_153 : decode cX7_count 153 = .ok (.iconst (-1), 1) := by decide +kernel
theorem dX7_count_154 : decode cX7_count 154 = .ok (.ireturn, 1) := by decide +kernel
theorem dJ13_bitCount_95d88_0 : decode cJ13_bitCount_95d88 0 = .ok (.lload_n 0, 1) := by decide +kernel
theorem dJ13_bitCount_95d88_1 : decode cJ13_bitCount_95d88 1 = .ok (.lload_n 0, 1) := by decide +kernel
theorem dJ13_bitCount_95d88_2 : decode cJ13_bitCount_95d88 2 = .ok (.iconst 1, 1) := by decide +kernel
theorem dJ13_bitCount_95d88_3 : decode cJ13_bitCount_95d88 3 = .ok (.lushr, 1) := by decide +kernel
theorem dJ13_bitCount_95d88_4 : decode cJ13_bitCount_95d88 4 = .ok (.ldc2_w 314, 3) := by decide +kernel
theorem dJ13_bitCount_95d88_7 : decode cJ13_bitCount_95d88 7 = .ok (.land, 1) := by decide +kernel
theorem dJ13_bitCount_95d88_8 : decode cJ13_bitCount_95d88 8 = .ok (.lsub, 1) := by decide +kernel
theorem dJ13_bitCount_95d88_9 : decode cJ13_bitCount_95d88 9 = .ok (.lstore_n 0, 1) := by decide +kernel
theorem dJ13_bitCount_95d88_10 : decode cJ13_bitCount_95d88 10 = .ok (.lload_n 0, 1) := by decide +kernel
theorem dJ13_bitCount_95d88_11 : decode cJ13_bitCount_95d88 11 = .ok (.ldc2_w 316, 3) := by decide +kernel
theorem dJ13_bitCount_95d88_14 : decode cJ13_bitCount_95d88 14 = .ok (.land, 1) := by decide +kernel
theorem dJ13_bitCount_95d88_15 : decode cJ13_bitCount_95d88 15 = .ok (.lload_n 0, 1) := by decide +kernel
theorem dJ13_bitCount_95d88_16 : decode cJ13_bitCount_95d88 16 = .ok (.iconst 2, 1) := by decide +kernel
theorem dJ13_bitCount_95d88_17 : decode cJ13_bitCount_95d88 17 = .ok (.lushr, 1) := by decide +kernel
theorem dJ13_bitCount_95d88_18 : decode cJ13_bitCount_95d88 18 = .ok (.ldc2_w 316, 3) := by decide +kernel
theorem dJ13_bitCount_95d88_21 : decode cJ13_bitCount_95d88 21 = .ok (.land, 1) := by decide +kernel
theorem dJ13_bitCount_95d88_22 : decode cJ13_bitCount_95d88 22 = .ok (.ladd, 1) := by decide +kernel
theorem dJ13_bitCount_95d88_23 : decode cJ13_bitCount_95d88 23 = .ok (.lstore_n 0, 1) := by decide +kernel
theorem dJ13_bitCount_95d88_24 : decode cJ13_bitCount_95d88 24 = .ok (.lload_n 0, 1) := by decide +kernel
theorem dJ13_bitCount_95d88_25 : decode cJ13_bitCount_95d88 25 = .ok (.lload_n 0, 1) := by decide +kernel
theorem dJ13_bitCount_95d88_26 : decode cJ13_bitCount_95d88 26 = .ok (.iconst 4, 1) := by decide +kernel
theorem dJ13_bitCount_95d88_27 : decode cJ13_bitCount_95d88 27 = .ok (.lushr, 1) := by decide +kernel
theorem dJ13_bitCount_95d88_28 : decode cJ13_bitCount_95d88 28 = .ok (.ladd, 1) := by decide +kernel
theorem dJ13_bitCount_95d88_29 : decode cJ13_bitCount_95d88 29 = .ok (.ldc2_w 318, 3) := by decide +kernel
theorem dJ13_bitCount_95d88_32 : decode cJ13_bitCount_95d88 32 = .ok (.land, 1) := by decide +kernel
theorem dJ13_bitCount_95d88_33 : decode cJ13_bitCount_95d88 33 = .ok (.lstore_n 0, 1) := by decide +kernel
theorem dJ13_bitCount_95d88_34 : decode cJ13_bitCount_95d88 34 = .ok (.lload_n 0, 1) := by decide +kernel
theorem dJ13_bitCount_95d88_35 : decode cJ13_bitCount_95d88 35 = .ok (.lload_n 0, 1) := by decide +kernel
theorem dJ13_bitCount_95d88_36 : decode cJ13_bitCount_95d88 36 = .ok (.bipush 8, 2) := by decide +kernel
theorem dJ13_bitCount_95d88_38 : decode cJ13_bitCount_95d88 38 = .ok (.lushr, 1) := by decide +kernel
theorem dJ13_bitCount_95d88_39 : decode cJ13_bitCount_95d88 39 = .ok (.ladd, 1) := by decide +kernel
theorem dJ13_bitCount_95d88_40 : decode cJ13_bitCount_95d88 40 = .ok (.lstore_n 0, 1) := by decide +kernel
theorem dJ13_bitCount_95d88_41 : decode cJ13_bitCount_95d88 41 = .ok (.lload_n 0, 1) := by decide +kernel
theorem dJ13_bitCount_95d88_42 : decode cJ13_bitCount_95d88 42 = .ok (.lload_n 0, 1) := by decide +kernel
theorem dJ13_bitCount_95d88_43 : decode cJ13_bitCount_95d88 43 = .ok (.bipush 16, 2) := by decide +kernel
theorem dJ13_bitCount_95d88_45 : decode cJ13_bitCount_95d88 45 = .ok (.lushr, 1) := by decide +kernel
theorem dJ13_bitCount_95d88_46 : decode cJ13_bitCount_95d88 46 = .ok (.ladd, 1) := by decide +kernel
theorem dJ13_bitCount_95d88_47 : decode cJ13_bitCount_95d88 47 = .ok (.lstore_n 0, 1) := by decide +kernel
theorem dJ13_bitCount_95d88_48 : decode cJ13_bitCount_95d88 48 = .ok (.lload_n 0, 1) := by decide +kernel
theorem dJ13_bitCount_95d88_49 : decode cJ13_bitCount_95d88 49 = .ok (.lload_n 0, 1) := by decide +kernel
theorem dJ13_bitCount_95d88_50 : decode cJ13_bitCount_95d88 50 = .ok (.bipush 32, 2) := by decide +kernel
theorem dJ13_bitCount_95d88_52 : decode cJ13_bitCount_95d88 52 = .ok (.lushr, 1) := by decide +kernel
theorem dJ13_bitCount_95d88_53 : decode cJ13_bitCount_95d88 53 = .ok (.ladd, 1) := by decide +kernel
theorem dJ13_bitCount_95d88_54 : decode cJ13_bitCount_95d88 54 = .ok (.lstore_n 0, 1) := by decide +kernel
theorem dJ13_bitCount_95d88_55 : decode cJ13_bitCount_95d88 55 = .ok (.lload_n 0, 1) := by decide +kernel
theorem dJ13_bitCount_95d88_56 : decode cJ13_bitCount_95d88 56 = .ok (.l2i, 1) := by decide +kernel
theorem dJ13_bitCount_95d88_57 : decode cJ13_bitCount_95d88 57 = .ok (.bipush 127, 2) := by decide +kernel
theorem dJ13_bitCount_95d88_59 : decode cJ13_bitCount_95d88 59 = .ok (.iand, 1) := by decide +kernel
theorem dJ13_bitCount_95d88_60 : decode cJ13_bitCount_95d88 60 = .ok (.ireturn, 1) := by decide +kernel
theorem dJ9_max_7cf53_0 : decode cJ9_max_7cf53 0 = .ok (.iload_n 0, 1) := by decide +kernel
theorem dJ9_max_7cf53_1 : decode cJ9_max_7cf53 1 = .ok (.iload_n 1, 1) := by decide +kernel
theorem dJ9_max_7cf53_2 : decode cJ9_max_7cf53 2 = .ok (.if_icmp .lt 7, 3) := by decide +kernel
theorem dJ9_max_7cf53_5 : decode cJ9_max_7cf53 5 = .ok (.iload_n 0, 1) := by decide +kernel
theorem dJ9_max_7cf53_6 : decode cJ9_max_7cf53 6 = .ok (.goto 4, 3) := by decide +kernel
theorem dJ9_max_7cf53_9 : decode cJ9_max_7cf53 9 = .ok (.iload_n 1, 1) := by decide +kernel
theorem dJ9_max_7cf53_10 : decode cJ9_max_7cf53 10 = .ok (.ireturn, 1) := by decide +kernel
theorem dJ9_min_7cf53_0 : decode cJ9_min_7cf53 0 = .ok (.iload_n 0, 1) := by decide +kernel
theorem dJ9_min_7cf53_1 : decode cJ9_min_7cf53 1 = .ok (.iload_n 1, 1) := by decide +kernel
theorem dJ9_min_7cf53_2 : decode cJ9_min_7cf53 2 = .ok (.if_icmp .gt 7, 3) := by decide +kernel
theorem dJ9_min_7cf53_5 : decode cJ9_min_7cf53 5 = .ok (.iload_n 0, 1) := by decide +kernel
theorem dJ9_min_7cf53_6 : decode cJ9_min_7cf53 6 = .ok (.goto 4, 3) := by decide +kernel
theorem dJ9_min_7cf53_9 : decode cJ9_min_7cf53 9 = .ok (.iload_n 1, 1) := by decide +kernel
theorem dJ9_min_7cf53_10 : decode cJ9_min_7cf53 10 = .ok (.ireturn, 1) := by decide +kernel
theorem dJ7_fill_53178_0 : decode cJ7_fill_53178 0 = .ok (.iconst 0, 1) := by decide +kernel
theorem dJ7_fill_53178_1 : decode cJ7_fill_53178 1 = .ok (.istore_n 2, 1) := by decide +kernel
theorem dJ7_fill_53178_2 : decode cJ7_fill_53178 2 = .ok (.aload_n 0, 1) := by decide +kernel
theorem dJ7_fill_53178_3 : decode cJ7_fill_53178 3 = .ok (.arraylength, 1) := by decide +kernel
theorem dJ7_fill_53178_4 : decode cJ7_fill_53178 4 = .ok (.istore_n 3, 1) := by decide +kernel
theorem dJ7_fill_53178_5 : decode cJ7_fill_53178 5 = .ok (.iload_n 2, 1) := by decide +kernel
theorem dJ7_fill_53178_6 : decode cJ7_fill_53178 6 = .ok (.iload_n 3, 1) := by decide +kernel
theorem dJ7_fill_53178_7 : decode cJ7_fill_53178 7 = .ok (.if_icmp .ge 13, 3) := by decide +kernel
theorem dJ7_fill_53178_10 : decode cJ7_fill_53178 10 = .ok (.aload_n 0, 1) := by decide +kernel
theorem dJ7_fill_53178_11 : decode cJ7_fill_53178 11 = .ok (.iload_n 2, 1) := by decide +kernel
theorem dJ7_fill_53178_12 : decode cJ7_fill_53178 12 = .ok (.iload_n 1, 1) := by decide +kernel
theorem dJ7_fill_53178_13 : decode cJ7_fill_53178 13 = .ok (.iastore, 1) := by decide +kernel
theorem dJ7_fill_53178_14 : decode cJ7_fill_53178 14 = .ok (.iinc 2 1, 3) := by decide +kernel
theorem dJ7_fill_53178_17 : decode cJ7_fill_53178 17 = .ok (.goto (-12), 3) := by decide +kernel
theorem dJ7_fill_53178_20 : decode cJ7_fill_53178 20 = .ok (.return_, 1) := by decide +kernel
set_option maxRecDepth 20000 in
theorem ggL_look_X6_look : GoodIn wsL_look wsX6_look := goodIn_ca (goodIn_r _ [6, 7, 8, 9, 10, 11, 12, 13, 14, 15, 16, 17, 18, 19, 20, 21, 22, 23, 24, 25, 26, 27, 28, 29, 30, 31, 32, 33, 34, 5, 35, 36, 37, 38, 39, 40, 41, 42, 43, 44, 45, 46, 47, 48, 49, 50, 51, 52, 53, 54, 55, 56, 57, 58, 59, 60, 61, 62, 63, 64, 65, 66, 67, 68, 69, 70, 71, 72, 73, 74, 75, 76, 77, 78, 79, 80, 81, 82, 83, 84, 85, 86] (by decide +kernel) (by decide +kernel)) (goodIn_sub (fun _ h => List.mem_cons_of_mem _ (List.mem_append_right _ h)) (by decide +kernel))
set_option maxRecDepth 20000 in
theorem gL_look_X6_look : GoodIn wsL_look (wsV RL 7 RX6 yX6_look wsX6_look) := goodIn_app (goodIn_of _ (by decide +kernel)) ggL_look_X6_look
theorem dL_look_0 : decode cL_look 0 = .ok (.aload_n 3, 1) := by decide +kernel
theorem dL_look_1 : decode cL_look 1 = .ok (.iconst 0, 1) := by decide +kernel
theorem dL_look_2 : decode cL_look 2 = .ok (.aload_n 0, 1) := by decide +kernel
theorem dL_look_3 : decode cL_look 3 = .ok (.iload_n 1, 1) := by decide +kernel
theorem dL_look_4 : decode cL_look 4 = .ok (.iload_n 2, 1) := by decide +kernel
theorem dL_look_5 : decode cL_look 5 = .ok (.invokevirtual 7, 3) := by decide +kernel
theorem dL_look_8 : decode cL_look 8 = .ok (.i2l, 1) := by decide +kernel
theorem dL_look_9 : decode cL_look 9 = .ok (.lastore, 1) := by decide +kernel
theorem dL_look_10 : decode cL_look 10 = .ok (.goto 7, 3) := by decide +kernel
theorem dL_look_13 : decode cL_look 13 = .ok (.astore 4, 2) := by decide +kernel
theorem dL_look_15 : decode cL_look 15 = .ok (.iconst 1, 1) := by decide +kernel
theorem dL_look_16 : decode cL_look 16 = .ok (.ireturn, 1) := by decide +kernel
theorem dL_look_17 : decode cL_look 17 = .ok (.iconst 0, 1) := by decide +kernel
theorem dL_look_18 : decode cL_look 18 = .ok (.ireturn, 1) := by decide +kernel
set_option maxRecDepth 20000 in
theorem ggL_law_X6_init : GoodIn wsL_law wsX6_init := goodIn_r _ [9, 10, 11, 12, 13, 14, 15, 16, 17, 18, 19, 20, 21, 22, 23, 24, 25, 26, 27, 28, 29, 30, 31, 32, 33, 34, 35, 36, 37, 38, 39, 40, 41, 42, 43, 44, 45, 46, 47, 48, 49, 50, 51, 52, 53, 54, 55, 56, 6, 57, 58, 59, 60, 61, 62, 63, 64, 65, 66, 67, 68, 69, 70, 71, 72, 73, 74, 75, 76, 77, 78, 79, 80, 81, 82, 83, 84, 85, 86, 87, 88, 89, 90, 91, 92, 93, 94, 95, 96, 97, 98, 99, 100, 723, 724, 686, 687, 688, 689, 690, 691, 725, 726, 727, 728, 729, 730, 731, 732, 733, 734, 735, 736, 737, 738, 739, 740, 741, 742, 743, 744, 745, 746, 747, 748, 749, 750, 751, 752, 753, 754, 755, 756, 757] (by decide +kernel) (by decide +kernel)
set_option maxRecDepth 20000 in
theorem gL_law_X6_init : GoodIn wsL_law (wsX6_init) := ggL_law_X6_init
set_option maxRecDepth 20000 in
theorem ggL_law_X7_init : GoodIn wsL_law wsX7_init := goodIn_r _ [103, 104, 11, 12, 105, 40, 106, 107, 108, 109, 110, 111, 112, 113, 114, 115, 116, 66, 117, 118, 119, 120, 121, 122, 123, 692, 693, 694, 695, 696, 697, 698, 699, 700, 701, 702, 703, 704, 705, 706, 707, 708, 709, 710, 711, 712, 713, 714, 715, 716, 717, 718, 719, 720, 721, 722] (by decide +kernel) (by decide +kernel)
set_option maxRecDepth 20000 in
theorem gL_law_X7_init : GoodIn wsL_law (wsX7_init) := ggL_law_X7_init
set_option maxRecDepth 20000 in
theorem ggL_law_X6_frame : GoodIn wsL_law wsX6_frame := goodIn_r _ [127, 16, 128, 129, 130, 15, 131, 42, 41, 686, 687, 688, 689, 690, 691, 723, 724] (by decide +kernel) (by decide +kernel)
set_option maxRecDepth 20000 in
theorem gL_law_X6_frame : GoodIn wsL_law (wsV RL 19 RX6 yX6_frame wsX6_frame) := goodIn_app (goodIn_of _ (by decide +kernel)) ggL_law_X6_frame
set_option maxRecDepth 20000 in
theorem ggL_law_X7_frame : GoodIn wsL_law wsX7_frame := goodIn_r _ [135, 136, 137, 107, 692, 693, 694, 695, 696, 697, 698, 699, 700, 701, 702, 703, 704, 705, 706, 707, 708, 709, 710, 711, 712, 713, 714, 715, 716, 717, 718, 719, 720, 721, 722] (by decide +kernel) (by decide +kernel)
set_option maxRecDepth 20000 in
theorem gL_law_X7_frame : GoodIn wsL_law (wsV RL 23 RX7 yX7_frame wsX7_frame) := goodIn_app (goodIn_of _ (by decide +kernel)) ggL_law_X7_frame
set_option maxRecDepth 20000 in
theorem ggL_law_X6_version : GoodIn wsL_law wsX6_version := goodIn_r _ [141, 20, 142, 143, 144, 19, 145, 48, 47, 146, 147, 148, 149, 686, 687, 688, 689, 690, 691, 725, 726] (by decide +kernel) (by decide +kernel)
set_option maxRecDepth 20000 in
theorem gL_law_X6_version : GoodIn wsL_law (wsV RL 24 RX6 yX6_version wsX6_version) := goodIn_app (goodIn_of _ (by decide +kernel)) ggL_law_X6_version
set_option maxRecDepth 20000 in
theorem ggL_law_X7_version : GoodIn wsL_law wsX7_version := goodIn_r _ [153, 136, 105, 106, 154, 155, 156, 5, 157, 692, 693, 694, 695, 696, 697, 698, 699, 700, 701, 702, 703, 704, 705, 706, 707, 708, 709, 710, 711, 712, 713, 714, 715, 716, 717, 718, 719, 720, 721, 722] (by decide +kernel) (by decide +kernel)
set_option maxRecDepth 20000 in
theorem gL_law_X7_version : GoodIn wsL_law (wsV RL 27 RX7 yX7_version wsX7_version) := goodIn_app (goodIn_of _ (by decide +kernel)) ggL_law_X7_version
set_option maxRecDepth 20000 in
theorem ggL_law_X6_report : GoodIn wsL_law wsX6_report := goodIn_r _ [161, 16, 20, 24, 28, 32, 162, 163, 164, 15, 165, 42, 166, 147, 148, 19, 149, 48, 167, 168, 169, 23, 170, 58, 171, 172, 173, 174, 175, 176, 177, 178, 179, 180, 181, 182, 41, 183, 184, 185, 186, 187, 188, 189, 190, 54, 53, 57, 55, 56, 191, 192, 193, 194, 195, 196, 197, 198, 199, 200, 201, 202, 203, 204, 205, 27, 206, 67, 68, 207, 208, 209, 210, 211, 212, 213, 214, 64, 65, 215, 216, 217, 218, 219, 220, 221, 222, 223, 224, 225, 226, 227, 228, 229, 230, 231, 232, 233, 234, 235, 236, 237, 69, 238, 239, 240, 241, 242, 243, 244, 245, 246, 247, 248, 249, 250, 31, 251, 85, 79, 86, 252, 253, 254, 255, 82, 80, 81, 256, 71, 72, 73, 257, 258, 259, 260, 261, 89, 88, 262, 263, 264, 265, 83, 87, 78, 266, 267, 268, 269, 270, 271, 272, 273, 84, 274, 275, 276, 277, 90, 91, 92, 278, 279, 280, 281, 282, 283, 284, 285, 286, 287, 288, 289, 686, 687, 688, 689, 690, 691, 723, 724, 725, 726, 727, 728, 729, 730, 731, 732, 733, 734, 735, 736, 737, 738, 739, 740, 741, 742, 743, 744, 745, 746, 747, 748, 749, 750, 751, 752] (by decide +kernel) (by decide +kernel)
set_option maxRecDepth 20000 in
theorem gL_law_X6_report : GoodIn wsL_law (wsV RL 28 RX6 yX6_report wsX6_report) := goodIn_app (goodIn_of _ (by decide +kernel)) ggL_law_X6_report
set_option maxRecDepth 20000 in
theorem ggL_law_X7_report : GoodIn wsL_law wsX7_report := goodIn_r _ [293, 136, 137, 294, 108, 107, 109, 110, 111, 112, 154, 155, 156, 5, 157, 105, 295, 296, 297, 298, 299, 300, 301, 302, 303, 304, 305, 306, 307, 308, 309, 310, 311, 312, 313, 314, 315, 116, 316, 317, 318, 319, 117, 320, 321, 322, 323, 324, 325, 326, 327, 328, 329, 330, 331, 113, 332, 114, 333, 115, 334, 335, 336, 337, 338, 339, 340, 341, 342, 343, 344, 345, 346, 347, 348, 349, 350, 351, 352, 353, 354, 355, 356, 357, 358, 359, 360, 361, 362, 119, 118, 363, 364, 365, 366, 367, 368, 369, 370, 371, 372, 373, 374, 375, 376, 377, 378, 120, 692, 693, 694, 695, 696, 697, 698, 699, 700, 701, 702, 703, 704, 705, 706, 707, 708, 709, 710, 711, 712, 713, 714, 715, 716, 717, 718, 719, 720, 721, 722] (by decide +kernel) (by decide +kernel)
set_option maxRecDepth 20000 in
theorem gL_law_X7_report : GoodIn wsL_law (wsV RL 31 RX7 yX7_report wsX7_report) := goodIn_app (goodIn_of _ (by decide +kernel)) ggL_law_X7_report
set_option maxRecDepth 20000 in
theorem ggL_law_X6_pair : GoodIn wsL_law wsX6_pair := goodIn_r _ [382, 24, 32, 28, 383, 384, 385, 23, 386, 387, 388, 389, 390, 58, 391, 392, 393, 31, 394, 78, 257, 258, 259, 260, 261, 89, 88, 262, 263, 264, 265, 85, 83, 79, 87, 256, 71, 72, 73, 266, 267, 268, 27, 269, 68, 270, 271, 272, 273, 86, 84, 274, 275, 276, 277, 90, 91, 92, 278, 279, 280, 281, 81, 282, 283, 284, 285, 286, 287, 288, 289, 252, 253, 254, 255, 82, 80, 686, 687, 688, 689, 690, 691, 727, 728, 729, 730, 731, 732, 738, 739, 740, 741, 742, 743, 744, 745, 746, 747, 748, 749, 750, 751, 752, 733, 734, 735, 736, 737] (by decide +kernel) (by decide +kernel)
set_option maxRecDepth 20000 in
theorem gL_law_X6_pair : GoodIn wsL_law (wsV RL 32 RX6 yX6_pair wsX6_pair) := goodIn_app (goodIn_of _ (by decide +kernel)) ggL_law_X6_pair
set_option maxRecDepth 20000 in
theorem ggL_law_X7_pair : GoodIn wsL_law wsX7_pair := goodIn_r _ [398, 136, 399, 400, 401, 5, 402, 403, 404, 405, 406, 294, 407, 408, 409, 410, 119, 303, 304, 305, 306, 307, 308, 112, 309, 310, 311, 312, 313, 314, 315, 116, 316, 317, 318, 319, 117, 320, 321, 322, 323, 324, 325, 326, 327, 109, 108, 328, 329, 330, 331, 113, 332, 114, 333, 115, 334, 335, 336, 337, 338, 339, 340, 341, 342, 343, 344, 345, 346, 347, 348, 349, 350, 351, 352, 353, 354, 355, 356, 357, 358, 359, 360, 361, 362, 118, 363, 364, 365, 366, 367, 368, 369, 370, 371, 372, 373, 374, 375, 376, 377, 378, 120, 692, 693, 694, 695, 696, 697, 698, 699, 700, 701, 702, 703, 704, 705, 706, 707, 708, 709, 710, 711, 712, 713, 714, 715, 716, 717, 718, 719, 720, 721, 722] (by decide +kernel) (by decide +kernel)
set_option maxRecDepth 20000 in
theorem gL_law_X7_pair : GoodIn wsL_law (wsV RL 36 RX7 yX7_pair wsX7_pair) := goodIn_app (goodIn_of _ (by decide +kernel)) ggL_law_X7_pair
set_option maxRecDepth 20000 in
theorem ggL_law_X6_free : GoodIn wsL_law wsX6_free := goodIn_r _ [414, 24, 32, 28, 383, 384, 385, 23, 386, 387, 388, 389, 390, 58, 415, 416, 417, 31, 418, 78, 391, 392, 393, 394, 257, 258, 259, 260, 261, 89, 88, 262, 263, 264, 265, 85, 83, 79, 87, 256, 71, 72, 73, 266, 267, 268, 27, 269, 68, 270, 271, 272, 273, 86, 84, 274, 275, 276, 277, 90, 91, 92, 278, 279, 280, 281, 81, 282, 283, 284, 285, 286, 287, 288, 289, 252, 253, 254, 255, 82, 80, 686, 687, 688, 689, 690, 691, 727, 728, 729, 730, 731, 732, 738, 739, 740, 741, 742, 743, 744, 745, 746, 747, 748, 749, 750, 751, 752, 733, 734, 735, 736, 737] (by decide +kernel) (by decide +kernel)
set_option maxRecDepth 20000 in
theorem gL_law_X6_free : GoodIn wsL_law (wsV RL 37 RX6 yX6_free wsX6_free) := goodIn_app (goodIn_of _ (by decide +kernel)) ggL_law_X6_free
set_option maxRecDepth 20000 in
theorem ggL_law_X7_free : GoodIn wsL_law wsX7_free := goodIn_r _ [422, 136, 119, 399, 400, 401, 5, 402, 403, 404, 405, 406, 294, 407, 408, 409, 410, 303, 304, 305, 306, 307, 308, 112, 309, 310, 311, 312, 313, 314, 315, 116, 316, 317, 318, 319, 117, 320, 321, 322, 323, 324, 325, 326, 327, 109, 108, 328, 329, 330, 331, 113, 332, 114, 333, 115, 334, 335, 336, 337, 338, 339, 340, 341, 342, 343, 344, 345, 346, 347, 348, 349, 350, 351, 352, 353, 354, 355, 356, 357, 358, 359, 360, 361, 362, 118, 363, 364, 365, 366, 367, 368, 369, 370, 371, 372, 373, 374, 375, 376, 377, 378, 120, 692, 693, 694, 695, 696, 697, 698, 699, 700, 701, 702, 703, 704, 705, 706, 707, 708, 709, 710, 711, 712, 713, 714, 715, 716, 717, 718, 719, 720, 721, 722] (by decide +kernel) (by decide +kernel)
set_option maxRecDepth 20000 in
theorem gL_law_X7_free : GoodIn wsL_law (wsV RL 41 RX7 yX7_free wsX7_free) := goodIn_app (goodIn_of _ (by decide +kernel)) ggL_law_X7_free
set_option maxRecDepth 20000 in
theorem ggL_law_X6_mark : GoodIn wsL_law wsX6_mark := goodIn_r _ [426, 32, 28, 427, 428, 429, 31, 430, 87, 257, 258, 259, 260, 261, 89, 88, 262, 263, 264, 265, 85, 83, 79, 78, 256, 71, 72, 73, 266, 267, 268, 27, 269, 68, 270, 271, 272, 273, 86, 84, 274, 275, 276, 277, 90, 91, 92, 278, 279, 280, 281, 81, 282, 283, 284, 285, 286, 287, 288, 289, 252, 253, 254, 255, 82, 80, 686, 687, 688, 689, 690, 691, 738, 739, 740, 741, 742, 743, 744, 745, 746, 747, 748, 749, 750, 751, 752, 733, 734, 735, 736, 737] (by decide +kernel) (by decide +kernel)
set_option maxRecDepth 20000 in
theorem gL_law_X6_mark : GoodIn wsL_law (wsV RL 42 RX6 yX6_mark wsX6_mark) := goodIn_app (goodIn_of _ (by decide +kernel)) ggL_law_X6_mark
set_option maxRecDepth 20000 in
theorem ggL_law_X7_mark : GoodIn wsL_law wsX7_mark := goodIn_r _ [434, 136, 118, 303, 304, 305, 5, 306, 307, 294, 308, 112, 309, 310, 311, 312, 313, 314, 315, 116, 316, 317, 318, 319, 117, 320, 321, 322, 323, 324, 325, 326, 327, 109, 108, 328, 329, 330, 331, 113, 332, 114, 333, 115, 334, 335, 336, 337, 338, 339, 340, 341, 342, 343, 344, 345, 346, 347, 348, 349, 350, 351, 352, 353, 354, 355, 356, 357, 358, 359, 360, 361, 362, 119, 363, 364, 365, 366, 367, 368, 369, 370, 371, 372, 373, 374, 375, 376, 377, 378, 120, 692, 693, 694, 695, 696, 697, 698, 699, 700, 701, 702, 703, 704, 705, 706, 707, 708, 709, 710, 711, 712, 713, 714, 715, 716, 717, 718, 719, 720, 721, 722] (by decide +kernel) (by decide +kernel)
set_option maxRecDepth 20000 in
theorem gL_law_X7_mark : GoodIn wsL_law (wsV RL 46 RX7 yX7_mark wsX7_mark) := goodIn_app (goodIn_of _ (by decide +kernel)) ggL_law_X7_mark
set_option maxRecDepth 20000 in
theorem ggL_law_X6_resettle : GoodIn wsL_law wsX6_resettle := goodIn_r _ [438, 32, 28, 439, 440, 441, 31, 442, 85, 79, 252, 253, 254, 255, 82, 86, 80, 81, 256, 71, 72, 73, 257, 258, 259, 260, 261, 89, 88, 262, 263, 264, 265, 83, 87, 78, 266, 267, 268, 27, 269, 68, 270, 271, 272, 273, 84, 274, 275, 276, 277, 90, 91, 92, 278, 279, 280, 281, 282, 283, 284, 285, 286, 287, 288, 289, 443, 444, 445, 446, 686, 687, 688, 689, 690, 691, 738, 739, 740, 741, 742, 743, 744, 745, 746, 747, 748, 749, 750, 751, 752, 733, 734, 735, 736, 737] (by decide +kernel) (by decide +kernel)
set_option maxRecDepth 20000 in
theorem gL_law_X6_resettle : GoodIn wsL_law (wsV RL 47 RX6 yX6_resettle wsX6_resettle) := goodIn_app (goodIn_of _ (by decide +kernel)) ggL_law_X6_resettle
set_option maxRecDepth 20000 in
theorem ggL_law_X7_resettle : GoodIn wsL_law wsX7_resettle := goodIn_r _ [450, 136, 294, 112, 303, 304, 305, 5, 306, 307, 308, 309, 310, 311, 312, 313, 314, 315, 116, 316, 317, 318, 319, 117, 320, 321, 322, 323, 324, 325, 326, 327, 109, 108, 328, 329, 330, 331, 113, 332, 114, 333, 115, 334, 335, 336, 337, 338, 339, 340, 341, 342, 343, 344, 345, 346, 347, 348, 349, 350, 351, 352, 353, 354, 355, 356, 357, 358, 359, 360, 361, 362, 119, 118, 363, 364, 365, 366, 367, 368, 369, 370, 371, 372, 373, 374, 375, 376, 377, 378, 120, 451, 452, 453, 454, 692, 693, 694, 695, 696, 697, 698, 699, 700, 701, 702, 703, 704, 705, 706, 707, 708, 709, 710, 711, 712, 713, 714, 715, 716, 717, 718, 719, 720, 721, 722] (by decide +kernel) (by decide +kernel)
set_option maxRecDepth 20000 in
theorem gL_law_X7_resettle : GoodIn wsL_law (wsV RL 51 RX7 yX7_resettle wsX7_resettle) := goodIn_app (goodIn_of _ (by decide +kernel)) ggL_law_X7_resettle
set_option maxRecDepth 20000 in
theorem ggL_law_X6_distance : GoodIn wsL_law wsX6_distance := goodIn_r _ [458, 24, 28, 459, 388, 389, 23, 390, 58, 460, 267, 268, 27, 269, 68, 686, 687, 688, 689, 690, 691, 727, 728, 729, 730, 731, 732, 733, 734, 735, 736, 737] (by decide +kernel) (by decide +kernel)
set_option maxRecDepth 20000 in
theorem gL_law_X6_distance : GoodIn wsL_law (wsV RL 52 RX6 yX6_distance wsX6_distance) := goodIn_app (goodIn_of _ (by decide +kernel)) ggL_law_X6_distance
set_option maxRecDepth 20000 in
theorem ggL_law_X7_distance : GoodIn wsL_law wsX7_distance := goodIn_r _ [464, 136, 116, 403, 404, 405, 5, 406, 294, 692, 693, 694, 695, 696, 697, 698, 699, 700, 701, 702, 703, 704, 705, 706, 707, 708, 709, 710, 711, 712, 713, 714, 715, 716, 717, 718, 719, 720, 721, 722] (by decide +kernel) (by decide +kernel)
set_option maxRecDepth 20000 in
theorem gL_law_X7_distance : GoodIn wsL_law (wsV RL 55 RX7 yX7_distance wsX7_distance) := goodIn_app (goodIn_of _ (by decide +kernel)) ggL_law_X7_distance
set_option maxRecDepth 20000 in
theorem ggL_law_X6_heap : GoodIn wsL_law wsX6_heap := goodIn_r _ [468, 24, 32, 459, 388, 389, 23, 390, 58, 469, 470, 471, 31, 472, 80, 79, 686, 687, 688, 689, 690, 691, 727, 728, 729, 730, 731, 732, 738, 739, 740, 741, 742, 743, 744, 745, 746, 747, 748, 749, 750, 751, 752] (by decide +kernel) (by decide +kernel)
set_option maxRecDepth 20000 in
theorem gL_law_X6_heap : GoodIn wsL_law (wsV RL 56 RX6 yX6_heap wsX6_heap) := goodIn_app (goodIn_of _ (by decide +kernel)) ggL_law_X6_heap
set_option maxRecDepth 20000 in
theorem ggL_law_X7_heap : GoodIn wsL_law wsX7_heap := goodIn_r _ [476, 136, 112, 403, 404, 405, 5, 406, 294, 692, 693, 694, 695, 696, 697, 698, 699, 700, 701, 702, 703, 704, 705, 706, 707, 708, 709, 710, 711, 712, 713, 714, 715, 716, 717, 718, 719, 720, 721, 722] (by decide +kernel) (by decide +kernel)
set_option maxRecDepth 20000 in
theorem gL_law_X7_heap : GoodIn wsL_law (wsV RL 59 RX7 yX7_heap wsX7_heap) := goodIn_app (goodIn_of _ (by decide +kernel)) ggL_law_X7_heap
set_option maxRecDepth 20000 in
theorem ggL_law_X6_cost : GoodIn wsL_law wsX6_cost := goodIn_r _ [480, 32, 28, 24, 481, 482, 483, 31, 484, 85, 485, 486, 487, 488, 87, 78, 489, 490, 240, 491, 266, 267, 268, 27, 269, 68, 492, 493, 494, 495, 79, 383, 384, 385, 23, 386, 387, 388, 389, 390, 58, 496, 686, 687, 688, 689, 690, 691, 738, 739, 740, 741, 742, 743, 744, 745, 746, 747, 748, 749, 750, 751, 752, 733, 734, 735, 736, 737, 727, 728, 729, 730, 731, 732] (by decide +kernel) (by decide +kernel)
set_option maxRecDepth 20000 in
theorem gL_law_X6_cost : GoodIn wsL_law (wsV RL 60 RX6 yX6_cost wsX6_cost) := goodIn_app (goodIn_of _ (by decide +kernel)) ggL_law_X6_cost
set_option maxRecDepth 20000 in
theorem ggL_law_X7_cost : GoodIn wsL_law wsX7_cost := goodIn_r _ [500, 136, 112, 294, 399, 400, 401, 5, 402, 403, 404, 405, 406, 359, 360, 361, 362, 116, 119, 118, 692, 693, 694, 695, 696, 697, 698, 699, 700, 701, 702, 703, 704, 705, 706, 707, 708, 709, 710, 711, 712, 713, 714, 715, 716, 717, 718, 719, 720, 721, 722] (by decide +kernel) (by decide +kernel)
set_option maxRecDepth 20000 in
theorem gL_law_X7_cost : GoodIn wsL_law (wsV RL 63 RX7 yX7_cost wsX7_cost) := goodIn_app (goodIn_of _ (by decide +kernel)) ggL_law_X7_cost
set_option maxRecDepth 20000 in
theorem ggL_law_X6_row : GoodIn wsL_law wsX6_row := goodIn_r _ [504, 24, 505, 506, 507, 23, 508, 54, 387, 388, 389, 390, 58, 509, 220, 221, 222, 53, 686, 687, 688, 689, 690, 691, 727, 728, 729, 730, 731, 732] (by decide +kernel) (by decide +kernel)
set_option maxRecDepth 20000 in
theorem gL_law_X6_row : GoodIn wsL_law (wsV RL 64 RX6 yX6_row wsX6_row) := goodIn_app (goodIn_of _ (by decide +kernel)) ggL_law_X6_row
set_option maxRecDepth 20000 in
theorem ggL_law_X7_row : GoodIn wsL_law wsX7_row := goodIn_r _ [513, 136, 109, 108, 403, 404, 405, 5, 406, 294, 692, 693, 694, 695, 696, 697, 698, 699, 700, 701, 702, 703, 704, 705, 706, 707, 708, 709, 710, 711, 712, 713, 714, 715, 716, 717, 718, 719, 720, 721, 722] (by decide +kernel) (by decide +kernel)
set_option maxRecDepth 20000 in
theorem gL_law_X7_row : GoodIn wsL_law (wsV RL 67 RX7 yX7_row wsX7_row) := goodIn_app (goodIn_of _ (by decide +kernel)) ggL_law_X7_row
set_option maxRecDepth 20000 in
theorem ggL_law_X6_common : GoodIn wsL_law wsX6_common := goodIn_r _ [517, 24, 518, 224, 225, 23, 226, 58, 57, 227, 228, 229, 230, 231, 232, 233, 686, 687, 688, 689, 690, 691, 727, 728, 729, 730, 731, 732] (by decide +kernel) (by decide +kernel)
set_option maxRecDepth 20000 in
theorem gL_law_X6_common : GoodIn wsL_law (wsV RL 68 RX6 yX6_common wsX6_common) := goodIn_app (goodIn_of _ (by decide +kernel)) ggL_law_X6_common
set_option maxRecDepth 20000 in
theorem ggL_law_X7_common : GoodIn wsL_law wsX7_common := goodIn_r _ [522, 136, 320, 321, 322, 5, 323, 294, 324, 325, 326, 327, 109, 108, 692, 693, 694, 695, 696, 697, 698, 699, 700, 701, 702, 703, 704, 705, 706, 707, 708, 709, 710, 711, 712, 713, 714, 715, 716, 717, 718, 719, 720, 721, 722] (by decide +kernel) (by decide +kernel)
set_option maxRecDepth 20000 in
theorem gL_law_X7_common : GoodIn wsL_law (wsV RL 71 RX7 yX7_common wsX7_common) := goodIn_app (goodIn_of _ (by decide +kernel)) ggL_law_X7_common
set_option maxRecDepth 20000 in
theorem ggL_law_X6_sign : GoodIn wsL_law wsX6_sign := goodIn_r _ [526, 24, 36, 32, 459, 388, 389, 23, 390, 58, 527, 528, 529, 31, 530, 85, 492, 493, 494, 495, 79, 531, 532, 533, 35, 534, 100, 535, 208, 209, 210, 536, 537, 538, 539, 98, 96, 97, 540, 541, 542, 543, 57, 544, 545, 546, 547, 99, 548, 549, 550, 551, 552, 553, 554, 555, 686, 687, 688, 689, 690, 691, 727, 728, 729, 730, 731, 732, 738, 739, 740, 741, 742, 743, 744, 745, 746, 747, 748, 749, 750, 751, 752, 753, 754, 755, 756, 757] (by decide +kernel) (by decide +kernel)
set_option maxRecDepth 20000 in
theorem gL_law_X6_sign : GoodIn wsL_law (wsV RL 72 RX6 yX6_sign wsX6_sign) := goodIn_app (goodIn_of _ (by decide +kernel)) ggL_law_X6_sign
set_option maxRecDepth 20000 in
theorem ggL_law_X7_sign : GoodIn wsL_law wsX7_sign := goodIn_r _ [559, 136, 112, 560, 121, 122, 403, 404, 405, 5, 406, 294, 561, 562, 563, 564, 565, 123, 324, 325, 326, 327, 109, 108, 566, 567, 568, 569, 570, 571, 572, 573, 692, 693, 694, 695, 696, 697, 698, 699, 700, 701, 702, 703, 704, 705, 706, 707, 708, 709, 710, 711, 712, 713, 714, 715, 716, 717, 718, 719, 720, 721, 722] (by decide +kernel) (by decide +kernel)
set_option maxRecDepth 20000 in
theorem gL_law_X7_sign : GoodIn wsL_law (wsV RL 75 RX7 yX7_sign wsX7_sign) := goodIn_app (goodIn_of _ (by decide +kernel)) ggL_law_X7_sign
set_option maxRecDepth 20000 in
theorem ggL_law_X6_signed : GoodIn wsL_law wsX6_signed := goodIn_r _ [577, 36, 578, 579, 580, 35, 581, 100, 99, 686, 687, 688, 689, 690, 691, 753, 754, 755, 756, 757] (by decide +kernel) (by decide +kernel)
set_option maxRecDepth 20000 in
theorem gL_law_X6_signed : GoodIn wsL_law (wsV RL 76 RX6 yX6_signed wsX6_signed) := goodIn_app (goodIn_of _ (by decide +kernel)) ggL_law_X6_signed
set_option maxRecDepth 20000 in
theorem ggL_law_X7_signed : GoodIn wsL_law wsX7_signed := goodIn_r _ [585, 136, 560, 121, 692, 693, 694, 695, 696, 697, 698, 699, 700, 701, 702, 703, 704, 705, 706, 707, 708, 709, 710, 711, 712, 713, 714, 715, 716, 717, 718, 719, 720, 721, 722] (by decide +kernel) (by decide +kernel)
set_option maxRecDepth 20000 in
theorem gL_law_X7_signed : GoodIn wsL_law (wsV RL 79 RX7 yX7_signed wsX7_signed) := goodIn_app (goodIn_of _ (by decide +kernel)) ggL_law_X7_signed
set_option maxRecDepth 20000 in
theorem ggL_law_X6_fix : GoodIn wsL_law wsX6_fix := goodIn_r _ [589, 24, 20, 459, 388, 389, 23, 390, 58, 166, 147, 148, 19, 149, 48, 590, 591, 592, 593, 56, 686, 687, 688, 689, 690, 691, 727, 728, 729, 730, 731, 732, 725, 726] (by decide +kernel) (by decide +kernel)
set_option maxRecDepth 20000 in
theorem gL_law_X6_fix : GoodIn wsL_law (wsV RL 80 RX6 yX6_fix wsX6_fix) := goodIn_app (goodIn_of _ (by decide +kernel)) ggL_law_X6_fix
set_option maxRecDepth 20000 in
theorem ggL_law_X7_fix : GoodIn wsL_law wsX7_fix := goodIn_r _ [597, 136, 111, 403, 404, 405, 5, 406, 294, 154, 155, 156, 157, 105, 692, 693, 694, 695, 696, 697, 698, 699, 700, 701, 702, 703, 704, 705, 706, 707, 708, 709, 710, 711, 712, 713, 714, 715, 716, 717, 718, 719, 720, 721, 722] (by decide +kernel) (by decide +kernel)
set_option maxRecDepth 20000 in
theorem gL_law_X7_fix : GoodIn wsL_law (wsV RL 83 RX7 yX7_fix wsX7_fix) := goodIn_app (goodIn_of _ (by decide +kernel)) ggL_law_X7_fix
set_option maxRecDepth 20000 in
theorem ggL_law_L_look : GoodIn wsL_law wsL_look := goodIn_ca (goodIn_r _ [601, 602, 603, 604, 605, 2, 606, 607, 608, 24, 32, 459, 388, 389, 23, 390, 58, 609, 610, 611, 612, 55, 613, 216, 217, 218, 54, 614, 615, 616, 617, 56, 618, 619, 620, 621, 20, 622, 208, 209, 210, 623, 493, 494, 31, 495, 79, 624, 625, 626, 19, 627, 47, 628, 629, 630, 631, 81, 686, 687, 688, 689, 690, 691, 727, 728, 729, 730, 731, 732, 738, 739, 740, 741, 742, 743, 744, 745, 746, 747, 748, 749, 750, 751, 752, 725, 726] (by decide +kernel) (by decide +kernel)) (goodIn_sub (fun _ h => List.mem_append_right _ h) (by decide +kernel))
set_option maxRecDepth 20000 in
theorem gL_law_L_look : GoodIn wsL_law (va_wsS RL 84 yL_look wsL_look) := goodIn_app (goodIn_of _ (by decide +kernel)) ggL_law_L_look
set_option maxRecDepth 20000 in
theorem ggL_law_X7_look : GoodIn wsL_law wsX7_look := goodIn_r _ [635, 136, 110, 109, 111, 112, 403, 404, 405, 5, 406, 294, 636, 637, 638, 639, 640, 641, 642, 643, 106, 367, 368, 369, 370, 692, 693, 694, 695, 696, 697, 698, 699, 700, 701, 702, 703, 704, 705, 706, 707, 708, 709, 710, 711, 712, 713, 714, 715, 716, 717, 718, 719, 720, 721, 722] (by decide +kernel) (by decide +kernel)
set_option maxRecDepth 20000 in
theorem gL_law_X7_look : GoodIn wsL_law (wsV RL 89 RX7 yX7_look wsX7_look) := goodIn_app (goodIn_of _ (by decide +kernel)) ggL_law_X7_look
set_option maxRecDepth 20000 in
theorem ggL_law_X7_thrown : GoodIn wsL_law wsX7_thrown := goodIn_r _ [647, 136, 692, 693, 694, 695, 696, 697, 698, 699, 700, 701, 702, 703, 704, 705, 706, 707, 708, 709, 710, 711, 712, 713, 714, 715, 716, 717, 718, 719, 720, 721, 722] (by decide +kernel) (by decide +kernel)
set_option maxRecDepth 20000 in
theorem gL_law_X7_thrown : GoodIn wsL_law (wsV RL 90 RX7 yX7_thrown wsX7_thrown) := goodIn_app (goodIn_of _ (by decide +kernel)) ggL_law_X7_thrown
set_option maxRecDepth 20000 in
theorem ggL_law_X6_behind : GoodIn wsL_law wsX6_behind := goodIn_r _ [651, 20, 166, 147, 148, 19, 149, 48, 624, 625, 626, 627, 47, 686, 687, 688, 689, 690, 691, 725, 726] (by decide +kernel) (by decide +kernel)
set_option maxRecDepth 20000 in
theorem gL_law_X6_behind : GoodIn wsL_law (wsV RL 93 RX6 yX6_behind wsX6_behind) := goodIn_app (goodIn_of _ (by decide +kernel)) ggL_law_X6_behind
set_option maxRecDepth 20000 in
theorem ggL_law_X7_behind : GoodIn wsL_law wsX7_behind := goodIn_r _ [655, 136, 154, 155, 156, 5, 157, 105, 640, 641, 642, 643, 106, 692, 693, 694, 695, 696, 697, 698, 699, 700, 701, 702, 703, 704, 705, 706, 707, 708, 709, 710, 711, 712, 713, 714, 715, 716, 717, 718, 719, 720, 721, 722] (by decide +kernel) (by decide +kernel)
set_option maxRecDepth 20000 in
theorem gL_law_X7_behind : GoodIn wsL_law (wsV RL 96 RX7 yX7_behind wsX7_behind) := goodIn_app (goodIn_of _ (by decide +kernel)) ggL_law_X7_behind
set_option maxRecDepth 20000 in
theorem ggL_law_X6_count : GoodIn wsL_law wsX6_count := goodIn_r _ [659, 24, 32, 20, 16, 622, 208, 209, 23, 210, 58, 443, 444, 445, 31, 446, 86, 660, 661, 662, 19, 663, 48, 664, 665, 666, 667, 87, 668, 192, 193, 15, 194, 42, 669, 670, 671, 672, 673, 224, 225, 226, 57, 227, 228, 229, 230, 231, 232, 233, 674, 675, 676, 677, 88, 678, 679, 680, 2, 681, 618, 619, 620, 621, 609, 610, 611, 612, 55, 614, 615, 616, 617, 56, 623, 493, 494, 495, 79, 624, 625, 626, 627, 47, 686, 687, 688, 689, 690, 691, 727, 728, 729, 730, 731, 732, 738, 739, 740, 741, 742, 743, 744, 745, 746, 747, 748, 749, 750, 751, 752, 725, 726, 723, 724] (by decide +kernel) (by decide +kernel)
set_option maxRecDepth 20000 in
theorem gL_law_X6_count : GoodIn wsL_law (wsV RL 97 RX6 yX6_count wsX6_count) := goodIn_app (goodIn_of _ (by decide +kernel)) ggL_law_X6_count
set_option maxRecDepth 20000 in
theorem ggL_law_X7_count : GoodIn wsL_law wsX7_count := goodIn_r _ [685, 136, 294, 105, 118, 137, 311, 451, 452, 453, 5, 454, 112, 320, 321, 322, 323, 324, 325, 326, 327, 109, 108, 636, 637, 638, 639, 111, 110, 640, 641, 642, 643, 106, 692, 693, 694, 695, 696, 697, 698, 699, 700, 701, 702, 703, 704, 705, 706, 707, 708, 709, 710, 711, 712, 713, 714, 715, 716, 717, 718, 719, 720, 721, 722] (by decide +kernel) (by decide +kernel)
set_option maxRecDepth 20000 in
theorem gL_law_X7_count : GoodIn wsL_law (wsV RL 100 RX7 yX7_count wsX7_count) := goodIn_app (goodIn_of _ (by decide +kernel)) ggL_law_X7_count
theorem dL_law_0 : decode cL_law 0 = .ok (.new 8, 3) := by decide +kernel
theorem dL_law_3 : decode cL_law 3 = .ok (.dup, 1) := by decide +kernel
theorem dL_law_4 : decode cL_law 4 = .ok (.invokespecial 15, 3) := by decide +kernel
theorem dL_law_7 : decode cL_law 7 = .ok (.astore_n 1, 1) := by decide +kernel
theorem dL_law_8 : decode cL_law 8 = .ok (.new 16, 3) := by decide +kernel
theorem dL_law_11 : decode cL_law 11 = .ok (.dup, 1) := by decide +kernel
theorem dL_law_12 : decode cL_law 12 = .ok (.invokespecial 18, 3) := by decide +kernel
theorem dL_law_15 : decode cL_law 15 = .ok (.astore_n 2, 1) := by decide +kernel
theorem dL_law_16 : decode cL_law 16 = .ok (.iconst 1, 1) := by decide +kernel
theorem dL_law_17 : decode cL_law 17 = .ok (.newarray .long, 2) := by decide +kernel
theorem dL_law_19 : decode cL_law 19 = .ok (.astore_n 3, 1) := by decide +kernel
theorem dL_law_20 : decode cL_law 20 = .ok (.iconst 0, 1) := by decide +kernel
theorem dL_law_21 : decode cL_law 21 = .ok (.istore 4, 2) := by decide +kernel
theorem dL_law_23 : decode cL_law 23 = .ok (.iload 4, 2) := by decide +kernel
theorem dL_law_25 : decode cL_law 25 = .ok (.aload_n 0, 1) := by decide +kernel
theorem dL_law_26 : decode cL_law 26 = .ok (.arraylength, 1) := by decide +kernel
theorem dL_law_27 : decode cL_law 27 = .ok (.iconst 4, 1) := by decide +kernel
theorem dL_law_28 : decode cL_law 28 = .ok (.isub, 1) := by decide +kernel
theorem dL_law_29 : decode cL_law 29 = .ok (.if_icmp .gt 694, 3) := by decide +kernel
theorem dL_law_32 : decode cL_law 32 = .ok (.aload_n 0, 1) := by decide +kernel
theorem dL_law_33 : decode cL_law 33 = .ok (.iload 4, 2) := by decide +kernel
theorem dL_law_35 : decode cL_law 35 = .ok (.iaload, 1) := by decide +kernel
theorem dL_law_36 : decode cL_law 36 = .ok (.bipush 31, 2) := by decide +kernel
theorem dL_law_38 : decode cL_law 38 = .ok (.iand, 1) := by decide +kernel
theorem dL_law_39 : decode cL_law 39 = .ok (.tableswitch 678 0 17 #[85, 110, 135, 160, 225, 262, 287, 300, 337, 362, 399, 436, 461, 486, 511, 548, 616, 653], 85) := by decide +kernel
theorem dL_law_124 : decode cL_law 124 = .ok (.aload_n 1, 1) := by decide +kernel
theorem dL_law_125 : decode cL_law 125 = .ok (.aload_n 0, 1) := by decide +kernel
theorem dL_law_126 : decode cL_law 126 = .ok (.iload 4, 2) := by decide +kernel
theorem dL_law_128 : decode cL_law 128 = .ok (.iconst 1, 1) := by decide +kernel
theorem dL_law_129 : decode cL_law 129 = .ok (.iadd, 1) := by decide +kernel
theorem dL_law_130 : decode cL_law 130 = .ok (.iaload, 1) := by decide +kernel
theorem dL_law_131 : decode cL_law 131 = .ok (.invokevirtual 19, 3) := by decide +kernel
theorem dL_law_134 : decode cL_law 134 = .ok (.aload_n 2, 1) := by decide +kernel
theorem dL_law_135 : decode cL_law 135 = .ok (.aload_n 0, 1) := by decide +kernel
theorem dL_law_136 : decode cL_law 136 = .ok (.iload 4, 2) := by decide +kernel
theorem dL_law_138 : decode cL_law 138 = .ok (.iconst 1, 1) := by decide +kernel
theorem dL_law_139 : decode cL_law 139 = .ok (.iadd, 1) := by decide +kernel
theorem dL_law_140 : decode cL_law 140 = .ok (.iaload, 1) := by decide +kernel
theorem dL_law_141 : decode cL_law 141 = .ok (.invokevirtual 23, 3) := by decide +kernel
theorem dL_law_144 : decode cL_law 144 = .ok (.if_icmp .eq 573, 3) := by decide +kernel
theorem dL_law_147 : decode cL_law 147 = .ok (.iconst 0, 1) := by decide +kernel
theorem dL_law_148 : decode cL_law 148 = .ok (.ireturn, 1) := by decide +kernel
theorem dL_law_149 : decode cL_law 149 = .ok (.aload_n 1, 1) := by decide +kernel
theorem dL_law_150 : decode cL_law 150 = .ok (.aload_n 0, 1) := by decide +kernel
theorem dL_law_151 : decode cL_law 151 = .ok (.iload 4, 2) := by decide +kernel
theorem dL_law_153 : decode cL_law 153 = .ok (.iconst 1, 1) := by decide +kernel
theorem dL_law_154 : decode cL_law 154 = .ok (.iadd, 1) := by decide +kernel
theorem dL_law_155 : decode cL_law 155 = .ok (.iaload, 1) := by decide +kernel
theorem dL_law_156 : decode cL_law 156 = .ok (.invokevirtual 24, 3) := by decide +kernel
theorem dL_law_159 : decode cL_law 159 = .ok (.aload_n 2, 1) := by decide +kernel
theorem dL_law_160 : decode cL_law 160 = .ok (.aload_n 0, 1) := by decide +kernel
theorem dL_law_161 : decode cL_law 161 = .ok (.iload 4, 2) := by decide +kernel
theorem dL_law_163 : decode cL_law 163 = .ok (.iconst 1, 1) := by decide +kernel
theorem dL_law_164 : decode cL_law 164 = .ok (.iadd, 1) := by decide +kernel
theorem dL_law_165 : decode cL_law 165 = .ok (.iaload, 1) := by decide +kernel
theorem dL_law_166 : decode cL_law 166 = .ok (.invokevirtual 27, 3) := by decide +kernel
theorem dL_law_169 : decode cL_law 169 = .ok (.if_icmp .eq 548, 3) := by decide +kernel
theorem dL_law_172 : decode cL_law 172 = .ok (.iconst 0, 1) := by decide +kernel
theorem dL_law_173 : decode cL_law 173 = .ok (.ireturn, 1) := by decide +kernel
theorem dL_law_174 : decode cL_law 174 = .ok (.aload_n 1, 1) := by decide +kernel
theorem dL_law_175 : decode cL_law 175 = .ok (.aload_n 0, 1) := by decide +kernel
theorem dL_law_176 : decode cL_law 176 = .ok (.iload 4, 2) := by decide +kernel
theorem dL_law_178 : decode cL_law 178 = .ok (.iconst 1, 1) := by decide +kernel
theorem dL_law_179 : decode cL_law 179 = .ok (.iadd, 1) := by decide +kernel
theorem dL_law_180 : decode cL_law 180 = .ok (.iaload, 1) := by decide +kernel
theorem dL_law_181 : decode cL_law 181 = .ok (.invokevirtual 28, 3) := by decide +kernel
theorem dL_law_184 : decode cL_law 184 = .ok (.aload_n 2, 1) := by decide +kernel
theorem dL_law_185 : decode cL_law 185 = .ok (.aload_n 0, 1) := by decide +kernel
theorem dL_law_186 : decode cL_law 186 = .ok (.iload 4, 2) := by decide +kernel
theorem dL_law_188 : decode cL_law 188 = .ok (.iconst 1, 1) := by decide +kernel
theorem dL_law_189 : decode cL_law 189 = .ok (.iadd, 1) := by decide +kernel
theorem dL_law_190 : decode cL_law 190 = .ok (.iaload, 1) := by decide +kernel
theorem dL_law_191 : decode cL_law 191 = .ok (.invokevirtual 31, 3) := by decide +kernel
theorem dL_law_194 : decode cL_law 194 = .ok (.if_icmp .eq 523, 3) := by decide +kernel
theorem dL_law_197 : decode cL_law 197 = .ok (.iconst 0, 1) := by decide +kernel
theorem dL_law_198 : decode cL_law 198 = .ok (.ireturn, 1) := by decide +kernel
theorem dL_law_199 : decode cL_law 199 = .ok (.aload_n 1, 1) := by decide +kernel
theorem dL_law_200 : decode cL_law 200 = .ok (.aload_n 0, 1) := by decide +kernel
theorem dL_law_201 : decode cL_law 201 = .ok (.iload 4, 2) := by decide +kernel
theorem dL_law_203 : decode cL_law 203 = .ok (.iconst 1, 1) := by decide +kernel
theorem dL_law_204 : decode cL_law 204 = .ok (.iadd, 1) := by decide +kernel
theorem dL_law_205 : decode cL_law 205 = .ok (.iaload, 1) := by decide +kernel
theorem dL_law_206 : decode cL_law 206 = .ok (.aload_n 0, 1) := by decide +kernel
theorem dL_law_207 : decode cL_law 207 = .ok (.iload 4, 2) := by decide +kernel
theorem dL_law_209 : decode cL_law 209 = .ok (.iconst 2, 1) := by decide +kernel
theorem dL_law_210 : decode cL_law 210 = .ok (.iadd, 1) := by decide +kernel
theorem dL_law_211 : decode cL_law 211 = .ok (.iaload, 1) := by decide +kernel
theorem dL_law_212 : decode cL_law 212 = .ok (.aload_n 0, 1) := by decide +kernel
theorem dL_law_213 : decode cL_law 213 = .ok (.iload 4, 2) := by decide +kernel
theorem dL_law_215 : decode cL_law 215 = .ok (.iconst 3, 1) := by decide +kernel
theorem dL_law_216 : decode cL_law 216 = .ok (.iadd, 1) := by decide +kernel
theorem dL_law_217 : decode cL_law 217 = .ok (.iaload, 1) := by decide +kernel
theorem dL_law_218 : decode cL_law 218 = .ok (.ifCond .eq 7, 3) := by decide +kernel
theorem dL_law_221 : decode cL_law 221 = .ok (.iconst 1, 1) := by decide +kernel
theorem dL_law_222 : decode cL_law 222 = .ok (.goto 4, 3) := by decide +kernel
theorem dL_law_225 : decode cL_law 225 = .ok (.iconst 0, 1) := by decide +kernel
theorem dL_law_226 : decode cL_law 226 = .ok (.invokevirtual 32, 3) := by decide +kernel
theorem dL_law_229 : decode cL_law 229 = .ok (.aload_n 2, 1) := by decide +kernel
theorem dL_law_230 : decode cL_law 230 = .ok (.aload_n 0, 1) := by decide +kernel
theorem dL_law_231 : decode cL_law 231 = .ok (.iload 4, 2) := by decide +kernel
theorem dL_law_233 : decode cL_law 233 = .ok (.iconst 1, 1) := by decide +kernel
theorem dL_law_234 : decode cL_law 234 = .ok (.iadd, 1) := by decide +kernel
theorem dL_law_235 : decode cL_law 235 = .ok (.iaload, 1) := by decide +kernel
theorem dL_law_236 : decode cL_law 236 = .ok (.aload_n 0, 1) := by decide +kernel
theorem dL_law_237 : decode cL_law 237 = .ok (.iload 4, 2) := by decide +kernel
theorem dL_law_239 : decode cL_law 239 = .ok (.iconst 2, 1) := by decide +kernel
theorem dL_law_240 : decode cL_law 240 = .ok (.iadd, 1) := by decide +kernel
theorem dL_law_241 : decode cL_law 241 = .ok (.iaload, 1) := by decide +kernel
theorem dL_law_242 : decode cL_law 242 = .ok (.aload_n 0, 1) := by decide +kernel
theorem dL_law_243 : decode cL_law 243 = .ok (.iload 4, 2) := by decide +kernel
theorem dL_law_245 : decode cL_law 245 = .ok (.iconst 3, 1) := by decide +kernel
theorem dL_law_246 : decode cL_law 246 = .ok (.iadd, 1) := by decide +kernel
theorem dL_law_247 : decode cL_law 247 = .ok (.iaload, 1) := by decide +kernel
theorem dL_law_248 : decode cL_law 248 = .ok (.ifCond .eq 7, 3) := by decide +kernel
theorem dL_law_251 : decode cL_law 251 = .ok (.iconst 1, 1) := by decide +kernel
theorem dL_law_252 : decode cL_law 252 = .ok (.goto 4, 3) := by decide +kernel
theorem dL_law_255 : decode cL_law 255 = .ok (.iconst 0, 1) := by decide +kernel
theorem dL_law_256 : decode cL_law 256 = .ok (.invokevirtual 36, 3) := by decide +kernel
theorem dL_law_259 : decode cL_law 259 = .ok (.if_icmp .eq 458, 3) := by decide +kernel
theorem dL_law_262 : decode cL_law 262 = .ok (.iconst 0, 1) := by decide +kernel
theorem dL_law_263 : decode cL_law 263 = .ok (.ireturn, 1) := by decide +kernel
theorem dL_law_264 : decode cL_law 264 = .ok (.aload_n 1, 1) := by decide +kernel
theorem dL_law_265 : decode cL_law 265 = .ok (.aload_n 0, 1) := by decide +kernel
theorem dL_law_266 : decode cL_law 266 = .ok (.iload 4, 2) := by decide +kernel
theorem dL_law_268 : decode cL_law 268 = .ok (.iconst 1, 1) := by decide +kernel
theorem dL_law_269 : decode cL_law 269 = .ok (.iadd, 1) := by decide +kernel
theorem dL_law_270 : decode cL_law 270 = .ok (.iaload, 1) := by decide +kernel
theorem dL_law_271 : decode cL_law 271 = .ok (.aload_n 0, 1) := by decide +kernel
theorem dL_law_272 : decode cL_law 272 = .ok (.iload 4, 2) := by decide +kernel
theorem dL_law_274 : decode cL_law 274 = .ok (.iconst 2, 1) := by decide +kernel
theorem dL_law_275 : decode cL_law 275 = .ok (.iadd, 1) := by decide +kernel
theorem dL_law_276 : decode cL_law 276 = .ok (.iaload, 1) := by decide +kernel
theorem dL_law_277 : decode cL_law 277 = .ok (.invokevirtual 37, 3) := by decide +kernel
theorem dL_law_280 : decode cL_law 280 = .ok (.aload_n 2, 1) := by decide +kernel
theorem dL_law_281 : decode cL_law 281 = .ok (.aload_n 0, 1) := by decide +kernel
theorem dL_law_282 : decode cL_law 282 = .ok (.iload 4, 2) := by decide +kernel
theorem dL_law_284 : decode cL_law 284 = .ok (.iconst 1, 1) := by decide +kernel
theorem dL_law_285 : decode cL_law 285 = .ok (.iadd, 1) := by decide +kernel
theorem dL_law_286 : decode cL_law 286 = .ok (.iaload, 1) := by decide +kernel
theorem dL_law_287 : decode cL_law 287 = .ok (.aload_n 0, 1) := by decide +kernel
theorem dL_law_288 : decode cL_law 288 = .ok (.iload 4, 2) := by decide +kernel
theorem dL_law_290 : decode cL_law 290 = .ok (.iconst 2, 1) := by decide +kernel
theorem dL_law_291 : decode cL_law 291 = .ok (.iadd, 1) := by decide +kernel
theorem dL_law_292 : decode cL_law 292 = .ok (.iaload, 1) := by decide +kernel
theorem dL_law_293 : decode cL_law 293 = .ok (.invokevirtual 41, 3) := by decide +kernel
theorem dL_law_296 : decode cL_law 296 = .ok (.if_icmp .eq 421, 3) := by decide +kernel
theorem dL_law_299 : decode cL_law 299 = .ok (.iconst 0, 1) := by decide +kernel
theorem dL_law_300 : decode cL_law 300 = .ok (.ireturn, 1) := by decide +kernel
theorem dL_law_301 : decode cL_law 301 = .ok (.aload_n 1, 1) := by decide +kernel
theorem dL_law_302 : decode cL_law 302 = .ok (.aload_n 0, 1) := by decide +kernel
theorem dL_law_303 : decode cL_law 303 = .ok (.iload 4, 2) := by decide +kernel
theorem dL_law_305 : decode cL_law 305 = .ok (.iconst 1, 1) := by decide +kernel
theorem dL_law_306 : decode cL_law 306 = .ok (.iadd, 1) := by decide +kernel
theorem dL_law_307 : decode cL_law 307 = .ok (.iaload, 1) := by decide +kernel
theorem dL_law_308 : decode cL_law 308 = .ok (.invokevirtual 42, 3) := by decide +kernel
theorem dL_law_311 : decode cL_law 311 = .ok (.aload_n 2, 1) := by decide +kernel
theorem dL_law_312 : decode cL_law 312 = .ok (.aload_n 0, 1) := by decide +kernel
theorem dL_law_313 : decode cL_law 313 = .ok (.iload 4, 2) := by decide +kernel
theorem dL_law_315 : decode cL_law 315 = .ok (.iconst 1, 1) := by decide +kernel
theorem dL_law_316 : decode cL_law 316 = .ok (.iadd, 1) := by decide +kernel
theorem dL_law_317 : decode cL_law 317 = .ok (.iaload, 1) := by decide +kernel
theorem dL_law_318 : decode cL_law 318 = .ok (.invokevirtual 46, 3) := by decide +kernel
theorem dL_law_321 : decode cL_law 321 = .ok (.if_icmp .eq 396, 3) := by decide +kernel
theorem dL_law_324 : decode cL_law 324 = .ok (.iconst 0, 1) := by decide +kernel
theorem dL_law_325 : decode cL_law 325 = .ok (.ireturn, 1) := by decide +kernel
theorem dL_law_326 : decode cL_law 326 = .ok (.aload_n 1, 1) := by decide +kernel
theorem dL_law_327 : decode cL_law 327 = .ok (.invokevirtual 47, 3) := by decide +kernel
theorem dL_law_330 : decode cL_law 330 = .ok (.aload_n 2, 1) := by decide +kernel
theorem dL_law_331 : decode cL_law 331 = .ok (.invokevirtual 51, 3) := by decide +kernel
theorem dL_law_334 : decode cL_law 334 = .ok (.if_icmp .eq 383, 3) := by decide +kernel
theorem dL_law_337 : decode cL_law 337 = .ok (.iconst 0, 1) := by decide +kernel
theorem dL_law_338 : decode cL_law 338 = .ok (.ireturn, 1) := by decide +kernel
theorem dL_law_339 : decode cL_law 339 = .ok (.aload_n 1, 1) := by decide +kernel
theorem dL_law_340 : decode cL_law 340 = .ok (.aload_n 0, 1) := by decide +kernel
theorem dL_law_341 : decode cL_law 341 = .ok (.iload 4, 2) := by decide +kernel
theorem dL_law_343 : decode cL_law 343 = .ok (.iconst 1, 1) := by decide +kernel
theorem dL_law_344 : decode cL_law 344 = .ok (.iadd, 1) := by decide +kernel
theorem dL_law_345 : decode cL_law 345 = .ok (.iaload, 1) := by decide +kernel
theorem dL_law_346 : decode cL_law 346 = .ok (.aload_n 0, 1) := by decide +kernel
theorem dL_law_347 : decode cL_law 347 = .ok (.iload 4, 2) := by decide +kernel
theorem dL_law_349 : decode cL_law 349 = .ok (.iconst 2, 1) := by decide +kernel
theorem dL_law_350 : decode cL_law 350 = .ok (.iadd, 1) := by decide +kernel
theorem dL_law_351 : decode cL_law 351 = .ok (.iaload, 1) := by decide +kernel
theorem dL_law_352 : decode cL_law 352 = .ok (.invokevirtual 52, 3) := by decide +kernel
theorem dL_law_355 : decode cL_law 355 = .ok (.aload_n 2, 1) := by decide +kernel
theorem dL_law_356 : decode cL_law 356 = .ok (.aload_n 0, 1) := by decide +kernel
theorem dL_law_357 : decode cL_law 357 = .ok (.iload 4, 2) := by decide +kernel
theorem dL_law_359 : decode cL_law 359 = .ok (.iconst 1, 1) := by decide +kernel
theorem dL_law_360 : decode cL_law 360 = .ok (.iadd, 1) := by decide +kernel
theorem dL_law_361 : decode cL_law 361 = .ok (.iaload, 1) := by decide +kernel
theorem dL_law_362 : decode cL_law 362 = .ok (.aload_n 0, 1) := by decide +kernel
theorem dL_law_363 : decode cL_law 363 = .ok (.iload 4, 2) := by decide +kernel
theorem dL_law_365 : decode cL_law 365 = .ok (.iconst 2, 1) := by decide +kernel
theorem dL_law_366 : decode cL_law 366 = .ok (.iadd, 1) := by decide +kernel
theorem dL_law_367 : decode cL_law 367 = .ok (.iaload, 1) := by decide +kernel
theorem dL_law_368 : decode cL_law 368 = .ok (.invokevirtual 55, 3) := by decide +kernel
theorem dL_law_371 : decode cL_law 371 = .ok (.if_icmp .eq 346, 3) := by decide +kernel
theorem dL_law_374 : decode cL_law 374 = .ok (.iconst 0, 1) := by decide +kernel
theorem dL_law_375 : decode cL_law 375 = .ok (.ireturn, 1) := by decide +kernel
theorem dL_law_376 : decode cL_law 376 = .ok (.aload_n 1, 1) := by decide +kernel
theorem dL_law_377 : decode cL_law 377 = .ok (.aload_n 0, 1) := by decide +kernel
theorem dL_law_378 : decode cL_law 378 = .ok (.iload 4, 2) := by decide +kernel
theorem dL_law_380 : decode cL_law 380 = .ok (.iconst 1, 1) := by decide +kernel
theorem dL_law_381 : decode cL_law 381 = .ok (.iadd, 1) := by decide +kernel
theorem dL_law_382 : decode cL_law 382 = .ok (.iaload, 1) := by decide +kernel
theorem dL_law_383 : decode cL_law 383 = .ok (.invokevirtual 56, 3) := by decide +kernel
theorem dL_law_386 : decode cL_law 386 = .ok (.aload_n 2, 1) := by decide +kernel
theorem dL_law_387 : decode cL_law 387 = .ok (.aload_n 0, 1) := by decide +kernel
theorem dL_law_388 : decode cL_law 388 = .ok (.iload 4, 2) := by decide +kernel
theorem dL_law_390 : decode cL_law 390 = .ok (.iconst 1, 1) := by decide +kernel
theorem dL_law_391 : decode cL_law 391 = .ok (.iadd, 1) := by decide +kernel
theorem dL_law_392 : decode cL_law 392 = .ok (.iaload, 1) := by decide +kernel
theorem dL_law_393 : decode cL_law 393 = .ok (.invokevirtual 59, 3) := by decide +kernel
theorem dL_law_396 : decode cL_law 396 = .ok (.if_icmp .eq 321, 3) := by decide +kernel
theorem dL_law_399 : decode cL_law 399 = .ok (.iconst 0, 1) := by decide +kernel
theorem dL_law_400 : decode cL_law 400 = .ok (.ireturn, 1) := by decide +kernel
theorem dL_law_401 : decode cL_law 401 = .ok (.aload_n 1, 1) := by decide +kernel
theorem dL_law_402 : decode cL_law 402 = .ok (.aload_n 0, 1) := by decide +kernel
theorem dL_law_403 : decode cL_law 403 = .ok (.iload 4, 2) := by decide +kernel
theorem dL_law_405 : decode cL_law 405 = .ok (.iconst 1, 1) := by decide +kernel
theorem dL_law_406 : decode cL_law 406 = .ok (.iadd, 1) := by decide +kernel
theorem dL_law_407 : decode cL_law 407 = .ok (.iaload, 1) := by decide +kernel
theorem dL_law_408 : decode cL_law 408 = .ok (.aload_n 0, 1) := by decide +kernel
theorem dL_law_409 : decode cL_law 409 = .ok (.iload 4, 2) := by decide +kernel
theorem dL_law_411 : decode cL_law 411 = .ok (.iconst 2, 1) := by decide +kernel
theorem dL_law_412 : decode cL_law 412 = .ok (.iadd, 1) := by decide +kernel
theorem dL_law_413 : decode cL_law 413 = .ok (.iaload, 1) := by decide +kernel
theorem dL_law_414 : decode cL_law 414 = .ok (.invokevirtual 60, 3) := by decide +kernel
theorem dL_law_417 : decode cL_law 417 = .ok (.aload_n 2, 1) := by decide +kernel
theorem dL_law_418 : decode cL_law 418 = .ok (.aload_n 0, 1) := by decide +kernel
theorem dL_law_419 : decode cL_law 419 = .ok (.iload 4, 2) := by decide +kernel
theorem dL_law_421 : decode cL_law 421 = .ok (.iconst 1, 1) := by decide +kernel
theorem dL_law_422 : decode cL_law 422 = .ok (.iadd, 1) := by decide +kernel
theorem dL_law_423 : decode cL_law 423 = .ok (.iaload, 1) := by decide +kernel
theorem dL_law_424 : decode cL_law 424 = .ok (.aload_n 0, 1) := by decide +kernel
theorem dL_law_425 : decode cL_law 425 = .ok (.iload 4, 2) := by decide +kernel
theorem dL_law_427 : decode cL_law 427 = .ok (.iconst 2, 1) := by decide +kernel
theorem dL_law_428 : decode cL_law 428 = .ok (.iadd, 1) := by decide +kernel
theorem dL_law_429 : decode cL_law 429 = .ok (.iaload, 1) := by decide +kernel
theorem dL_law_430 : decode cL_law 430 = .ok (.invokevirtual 63, 3) := by decide +kernel
theorem dL_law_433 : decode cL_law 433 = .ok (.if_icmp .eq 284, 3) := by decide +kernel
theorem dL_law_436 : decode cL_law 436 = .ok (.iconst 0, 1) := by decide +kernel
theorem dL_law_437 : decode cL_law 437 = .ok (.ireturn, 1) := by decide +kernel
theorem dL_law_438 : decode cL_law 438 = .ok (.aload_n 1, 1) := by decide +kernel
theorem dL_law_439 : decode cL_law 439 = .ok (.aload_n 0, 1) := by decide +kernel
theorem dL_law_440 : decode cL_law 440 = .ok (.iload 4, 2) := by decide +kernel
theorem dL_law_442 : decode cL_law 442 = .ok (.iconst 1, 1) := by decide +kernel
theorem dL_law_443 : decode cL_law 443 = .ok (.iadd, 1) := by decide +kernel
theorem dL_law_444 : decode cL_law 444 = .ok (.iaload, 1) := by decide +kernel
theorem dL_law_445 : decode cL_law 445 = .ok (.aload_n 0, 1) := by decide +kernel
theorem dL_law_446 : decode cL_law 446 = .ok (.iload 4, 2) := by decide +kernel
theorem dL_law_448 : decode cL_law 448 = .ok (.iconst 2, 1) := by decide +kernel
theorem dL_law_449 : decode cL_law 449 = .ok (.iadd, 1) := by decide +kernel
theorem dL_law_450 : decode cL_law 450 = .ok (.iaload, 1) := by decide +kernel
theorem dL_law_451 : decode cL_law 451 = .ok (.invokevirtual 64, 3) := by decide +kernel
theorem dL_law_454 : decode cL_law 454 = .ok (.aload_n 2, 1) := by decide +kernel
theorem dL_law_455 : decode cL_law 455 = .ok (.aload_n 0, 1) := by decide +kernel
theorem dL_law_456 : decode cL_law 456 = .ok (.iload 4, 2) := by decide +kernel
theorem dL_law_458 : decode cL_law 458 = .ok (.iconst 1, 1) := by decide +kernel
theorem dL_law_459 : decode cL_law 459 = .ok (.iadd, 1) := by decide +kernel
theorem dL_law_460 : decode cL_law 460 = .ok (.iaload, 1) := by decide +kernel
theorem dL_law_461 : decode cL_law 461 = .ok (.aload_n 0, 1) := by decide +kernel
theorem dL_law_462 : decode cL_law 462 = .ok (.iload 4, 2) := by decide +kernel
theorem dL_law_464 : decode cL_law 464 = .ok (.iconst 2, 1) := by decide +kernel
theorem dL_law_465 : decode cL_law 465 = .ok (.iadd, 1) := by decide +kernel
theorem dL_law_466 : decode cL_law 466 = .ok (.iaload, 1) := by decide +kernel
theorem dL_law_467 : decode cL_law 467 = .ok (.invokevirtual 67, 3) := by decide +kernel
theorem dL_law_470 : decode cL_law 470 = .ok (.if_icmp .eq 247, 3) := by decide +kernel
theorem dL_law_473 : decode cL_law 473 = .ok (.iconst 0, 1) := by decide +kernel
theorem dL_law_474 : decode cL_law 474 = .ok (.ireturn, 1) := by decide +kernel
theorem dL_law_475 : decode cL_law 475 = .ok (.aload_n 1, 1) := by decide +kernel
theorem dL_law_476 : decode cL_law 476 = .ok (.aload_n 0, 1) := by decide +kernel
theorem dL_law_477 : decode cL_law 477 = .ok (.iload 4, 2) := by decide +kernel
theorem dL_law_479 : decode cL_law 479 = .ok (.iconst 1, 1) := by decide +kernel
theorem dL_law_480 : decode cL_law 480 = .ok (.iadd, 1) := by decide +kernel
theorem dL_law_481 : decode cL_law 481 = .ok (.iaload, 1) := by decide +kernel
theorem dL_law_482 : decode cL_law 482 = .ok (.invokevirtual 68, 3) := by decide +kernel
theorem dL_law_485 : decode cL_law 485 = .ok (.aload_n 2, 1) := by decide +kernel
theorem dL_law_486 : decode cL_law 486 = .ok (.aload_n 0, 1) := by decide +kernel
theorem dL_law_487 : decode cL_law 487 = .ok (.iload 4, 2) := by decide +kernel
theorem dL_law_489 : decode cL_law 489 = .ok (.iconst 1, 1) := by decide +kernel
theorem dL_law_490 : decode cL_law 490 = .ok (.iadd, 1) := by decide +kernel
theorem dL_law_491 : decode cL_law 491 = .ok (.iaload, 1) := by decide +kernel
theorem dL_law_492 : decode cL_law 492 = .ok (.invokevirtual 71, 3) := by decide +kernel
theorem dL_law_495 : decode cL_law 495 = .ok (.if_icmp .eq 222, 3) := by decide +kernel
theorem dL_law_498 : decode cL_law 498 = .ok (.iconst 0, 1) := by decide +kernel
theorem dL_law_499 : decode cL_law 499 = .ok (.ireturn, 1) := by decide +kernel
theorem dL_law_500 : decode cL_law 500 = .ok (.aload_n 1, 1) := by decide +kernel
theorem dL_law_501 : decode cL_law 501 = .ok (.aload_n 0, 1) := by decide +kernel
theorem dL_law_502 : decode cL_law 502 = .ok (.iload 4, 2) := by decide +kernel
theorem dL_law_504 : decode cL_law 504 = .ok (.iconst 1, 1) := by decide +kernel
theorem dL_law_505 : decode cL_law 505 = .ok (.iadd, 1) := by decide +kernel
theorem dL_law_506 : decode cL_law 506 = .ok (.iaload, 1) := by decide +kernel
theorem dL_law_507 : decode cL_law 507 = .ok (.invokevirtual 72, 3) := by decide +kernel
theorem dL_law_510 : decode cL_law 510 = .ok (.aload_n 2, 1) := by decide +kernel
theorem dL_law_511 : decode cL_law 511 = .ok (.aload_n 0, 1) := by decide +kernel
theorem dL_law_512 : decode cL_law 512 = .ok (.iload 4, 2) := by decide +kernel
theorem dL_law_514 : decode cL_law 514 = .ok (.iconst 1, 1) := by decide +kernel
theorem dL_law_515 : decode cL_law 515 = .ok (.iadd, 1) := by decide +kernel
theorem dL_law_516 : decode cL_law 516 = .ok (.iaload, 1) := by decide +kernel
theorem dL_law_517 : decode cL_law 517 = .ok (.invokevirtual 75, 3) := by decide +kernel
theorem dL_law_520 : decode cL_law 520 = .ok (.if_icmp .eq 197, 3) := by decide +kernel
theorem dL_law_523 : decode cL_law 523 = .ok (.iconst 0, 1) := by decide +kernel
theorem dL_law_524 : decode cL_law 524 = .ok (.ireturn, 1) := by decide +kernel
theorem dL_law_525 : decode cL_law 525 = .ok (.aload_n 1, 1) := by decide +kernel
theorem dL_law_526 : decode cL_law 526 = .ok (.aload_n 0, 1) := by decide +kernel
theorem dL_law_527 : decode cL_law 527 = .ok (.iload 4, 2) := by decide +kernel
theorem dL_law_529 : decode cL_law 529 = .ok (.iconst 1, 1) := by decide +kernel
theorem dL_law_530 : decode cL_law 530 = .ok (.iadd, 1) := by decide +kernel
theorem dL_law_531 : decode cL_law 531 = .ok (.iaload, 1) := by decide +kernel
theorem dL_law_532 : decode cL_law 532 = .ok (.invokevirtual 76, 3) := by decide +kernel
theorem dL_law_535 : decode cL_law 535 = .ok (.aload_n 2, 1) := by decide +kernel
theorem dL_law_536 : decode cL_law 536 = .ok (.aload_n 0, 1) := by decide +kernel
theorem dL_law_537 : decode cL_law 537 = .ok (.iload 4, 2) := by decide +kernel
theorem dL_law_539 : decode cL_law 539 = .ok (.iconst 1, 1) := by decide +kernel
theorem dL_law_540 : decode cL_law 540 = .ok (.iadd, 1) := by decide +kernel
theorem dL_law_541 : decode cL_law 541 = .ok (.iaload, 1) := by decide +kernel
theorem dL_law_542 : decode cL_law 542 = .ok (.invokevirtual 79, 3) := by decide +kernel
theorem dL_law_545 : decode cL_law 545 = .ok (.if_icmp .eq 172, 3) := by decide +kernel
theorem dL_law_548 : decode cL_law 548 = .ok (.iconst 0, 1) := by decide +kernel
theorem dL_law_549 : decode cL_law 549 = .ok (.ireturn, 1) := by decide +kernel
theorem dL_law_550 : decode cL_law 550 = .ok (.aload_n 1, 1) := by decide +kernel
theorem dL_law_551 : decode cL_law 551 = .ok (.aload_n 0, 1) := by decide +kernel
theorem dL_law_552 : decode cL_law 552 = .ok (.iload 4, 2) := by decide +kernel
theorem dL_law_554 : decode cL_law 554 = .ok (.iconst 1, 1) := by decide +kernel
theorem dL_law_555 : decode cL_law 555 = .ok (.iadd, 1) := by decide +kernel
theorem dL_law_556 : decode cL_law 556 = .ok (.iaload, 1) := by decide +kernel
theorem dL_law_557 : decode cL_law 557 = .ok (.aload_n 0, 1) := by decide +kernel
theorem dL_law_558 : decode cL_law 558 = .ok (.iload 4, 2) := by decide +kernel
theorem dL_law_560 : decode cL_law 560 = .ok (.iconst 2, 1) := by decide +kernel
theorem dL_law_561 : decode cL_law 561 = .ok (.iadd, 1) := by decide +kernel
theorem dL_law_562 : decode cL_law 562 = .ok (.iaload, 1) := by decide +kernel
theorem dL_law_563 : decode cL_law 563 = .ok (.invokevirtual 80, 3) := by decide +kernel
theorem dL_law_566 : decode cL_law 566 = .ok (.aload_n 2, 1) := by decide +kernel
theorem dL_law_567 : decode cL_law 567 = .ok (.aload_n 0, 1) := by decide +kernel
theorem dL_law_568 : decode cL_law 568 = .ok (.iload 4, 2) := by decide +kernel
theorem dL_law_570 : decode cL_law 570 = .ok (.iconst 1, 1) := by decide +kernel
theorem dL_law_571 : decode cL_law 571 = .ok (.iadd, 1) := by decide +kernel
theorem dL_law_572 : decode cL_law 572 = .ok (.iaload, 1) := by decide +kernel
theorem dL_law_573 : decode cL_law 573 = .ok (.aload_n 0, 1) := by decide +kernel
theorem dL_law_574 : decode cL_law 574 = .ok (.iload 4, 2) := by decide +kernel
theorem dL_law_576 : decode cL_law 576 = .ok (.iconst 2, 1) := by decide +kernel
theorem dL_law_577 : decode cL_law 577 = .ok (.iadd, 1) := by decide +kernel
theorem dL_law_578 : decode cL_law 578 = .ok (.iaload, 1) := by decide +kernel
theorem dL_law_579 : decode cL_law 579 = .ok (.invokevirtual 83, 3) := by decide +kernel
theorem dL_law_582 : decode cL_law 582 = .ok (.if_icmp .eq 135, 3) := by decide +kernel
theorem dL_law_585 : decode cL_law 585 = .ok (.iconst 0, 1) := by decide +kernel
theorem dL_law_586 : decode cL_law 586 = .ok (.ireturn, 1) := by decide +kernel
theorem dL_law_587 : decode cL_law 587 = .ok (.aload_n 1, 1) := by decide +kernel
theorem dL_law_588 : decode cL_law 588 = .ok (.aload_n 0, 1) := by decide +kernel
theorem dL_law_589 : decode cL_law 589 = .ok (.iload 4, 2) := by decide +kernel
theorem dL_law_591 : decode cL_law 591 = .ok (.iconst 1, 1) := by decide +kernel
theorem dL_law_592 : decode cL_law 592 = .ok (.iadd, 1) := by decide +kernel
theorem dL_law_593 : decode cL_law 593 = .ok (.iaload, 1) := by decide +kernel
theorem dL_law_594 : decode cL_law 594 = .ok (.aload_n 0, 1) := by decide +kernel
theorem dL_law_595 : decode cL_law 595 = .ok (.iload 4, 2) := by decide +kernel
theorem dL_law_597 : decode cL_law 597 = .ok (.iconst 2, 1) := by decide +kernel
theorem dL_law_598 : decode cL_law 598 = .ok (.iadd, 1) := by decide +kernel
theorem dL_law_599 : decode cL_law 599 = .ok (.iaload, 1) := by decide +kernel
theorem dL_law_600 : decode cL_law 600 = .ok (.aload_n 3, 1) := by decide +kernel
theorem dL_law_601 : decode cL_law 601 = .ok (.invokestatic 84, 3) := by decide +kernel
theorem dL_law_604 : decode cL_law 604 = .ok (.istore 5, 2) := by decide +kernel
theorem dL_law_606 : decode cL_law 606 = .ok (.aload_n 2, 1) := by decide +kernel
theorem dL_law_607 : decode cL_law 607 = .ok (.aload_n 0, 1) := by decide +kernel
theorem dL_law_608 : decode cL_law 608 = .ok (.iload 4, 2) := by decide +kernel
theorem dL_law_610 : decode cL_law 610 = .ok (.iconst 1, 1) := by decide +kernel
theorem dL_law_611 : decode cL_law 611 = .ok (.iadd, 1) := by decide +kernel
theorem dL_law_612 : decode cL_law 612 = .ok (.iaload, 1) := by decide +kernel
theorem dL_law_613 : decode cL_law 613 = .ok (.aload_n 0, 1) := by decide +kernel
theorem dL_law_614 : decode cL_law 614 = .ok (.iload 4, 2) := by decide +kernel
theorem dL_law_616 : decode cL_law 616 = .ok (.iconst 2, 1) := by decide +kernel
theorem dL_law_617 : decode cL_law 617 = .ok (.iadd, 1) := by decide +kernel
theorem dL_law_618 : decode cL_law 618 = .ok (.iaload, 1) := by decide +kernel
theorem dL_law_619 : decode cL_law 619 = .ok (.invokevirtual 89, 3) := by decide +kernel
theorem dL_law_622 : decode cL_law 622 = .ok (.istore 6, 2) := by decide +kernel
theorem dL_law_624 : decode cL_law 624 = .ok (.aload_n 2, 1) := by decide +kernel
theorem dL_law_625 : decode cL_law 625 = .ok (.invokevirtual 90, 3) := by decide +kernel
theorem dL_law_628 : decode cL_law 628 = .ok (.iload 5, 2) := by decide +kernel
theorem dL_law_630 : decode cL_law 630 = .ok (.if_icmp .eq 5, 3) := by decide +kernel
theorem dL_law_633 : decode cL_law 633 = .ok (.iconst 0, 1) := by decide +kernel
theorem dL_law_634 : decode cL_law 634 = .ok (.ireturn, 1) := by decide +kernel
theorem dL_law_635 : decode cL_law 635 = .ok (.iload 5, 2) := by decide +kernel
theorem dL_law_637 : decode cL_law 637 = .ok (.ifCond .ne 15, 3) := by decide +kernel
theorem dL_law_640 : decode cL_law 640 = .ok (.aload_n 3, 1) := by decide +kernel
theorem dL_law_641 : decode cL_law 641 = .ok (.iconst 0, 1) := by decide +kernel
theorem dL_law_642 : decode cL_law 642 = .ok (.laload, 1) := by decide +kernel
theorem dL_law_643 : decode cL_law 643 = .ok (.iload 6, 2) := by decide +kernel
theorem dL_law_645 : decode cL_law 645 = .ok (.i2l, 1) := by decide +kernel
theorem dL_law_646 : decode cL_law 646 = .ok (.lcmp, 1) := by decide +kernel
theorem dL_law_647 : decode cL_law 647 = .ok (.ifCond .eq 5, 3) := by decide +kernel
theorem dL_law_650 : decode cL_law 650 = .ok (.iconst 0, 1) := by decide +kernel
theorem dL_law_651 : decode cL_law 651 = .ok (.ireturn, 1) := by decide +kernel
theorem dL_law_652 : decode cL_law 652 = .ok (.goto 65, 3) := by decide +kernel
theorem dL_law_655 : decode cL_law 655 = .ok (.aload_n 1, 1) := by decide +kernel
theorem dL_law_656 : decode cL_law 656 = .ok (.aload_n 0, 1) := by decide +kernel
theorem dL_law_657 : decode cL_law 657 = .ok (.iload 4, 2) := by decide +kernel
theorem dL_law_659 : decode cL_law 659 = .ok (.iconst 1, 1) := by decide +kernel
theorem dL_law_660 : decode cL_law 660 = .ok (.iadd, 1) := by decide +kernel
theorem dL_law_661 : decode cL_law 661 = .ok (.iaload, 1) := by decide +kernel
theorem dL_law_662 : decode cL_law 662 = .ok (.aload_n 0, 1) := by decide +kernel
theorem dL_law_663 : decode cL_law 663 = .ok (.iload 4, 2) := by decide +kernel
theorem dL_law_665 : decode cL_law 665 = .ok (.iconst 2, 1) := by decide +kernel
theorem dL_law_666 : decode cL_law 666 = .ok (.iadd, 1) := by decide +kernel
theorem dL_law_667 : decode cL_law 667 = .ok (.iaload, 1) := by decide +kernel
theorem dL_law_668 : decode cL_law 668 = .ok (.invokevirtual 93, 3) := by decide +kernel
theorem dL_law_671 : decode cL_law 671 = .ok (.aload_n 2, 1) := by decide +kernel
theorem dL_law_672 : decode cL_law 672 = .ok (.aload_n 0, 1) := by decide +kernel
theorem dL_law_673 : decode cL_law 673 = .ok (.iload 4, 2) := by decide +kernel
theorem dL_law_675 : decode cL_law 675 = .ok (.iconst 1, 1) := by decide +kernel
theorem dL_law_676 : decode cL_law 676 = .ok (.iadd, 1) := by decide +kernel
theorem dL_law_677 : decode cL_law 677 = .ok (.iaload, 1) := by decide +kernel
theorem dL_law_678 : decode cL_law 678 = .ok (.aload_n 0, 1) := by decide +kernel
theorem dL_law_679 : decode cL_law 679 = .ok (.iload 4, 2) := by decide +kernel
