theorem dX1_weighJoining_10 : decode cX1_weighJoining 10 = .ok (.aload_n 0, 1) := by decide +kernel
theorem dX1_weighJoining_11 : decode cX1_weighJoining 11 = .ok (.getfield 29, 3) := by decide +kernel
theorem dX1_weighJoining_14 : decode cX1_weighJoining 14 = .ok (.iload_n 2, 1) := by decide +kernel
theorem dX1_weighJoining_15 : decode cX1_weighJoining 15 = .ok (.aaload, 1) := by decide +kernel
theorem dX1_weighJoining_16 : decode cX1_weighJoining 16 = .ok (.iconst 0, 1) := by decide +kernel
theorem dX1_weighJoining_17 : decode cX1_weighJoining 17 = .ok (.invokestatic 96, 3) := by decide +kernel
theorem dX1_weighJoining_20 : decode cX1_weighJoining 20 = .ok (.iconst 0, 1) := by decide +kernel
theorem dX1_weighJoining_21 : decode cX1_weighJoining 21 = .ok (.istore_n 3, 1) := by decide +kernel
theorem dX1_weighJoining_22 : decode cX1_weighJoining 22 = .ok (.iload_n 3, 1) := by decide +kernel
theorem dX1_weighJoining_23 : decode cX1_weighJoining 23 = .ok (.aload_n 0, 1) := by decide +kernel
theorem dX1_weighJoining_24 : decode cX1_weighJoining 24 = .ok (.getfield 35, 3) := by decide +kernel
theorem dX1_weighJoining_27 : decode cX1_weighJoining 27 = .ok (.if_icmp .ge 50, 3) := by decide +kernel
theorem dX1_weighJoining_30 : decode cX1_weighJoining 30 = .ok (.iload_n 3, 1) := by decide +kernel
theorem dX1_weighJoining_31 : decode cX1_weighJoining 31 = .ok (.iload_n 2, 1) := by decide +kernel
theorem dX1_weighJoining_32 : decode cX1_weighJoining 32 = .ok (.if_icmp .eq 39, 3) := by decide +kernel
theorem dX1_weighJoining_35 : decode cX1_weighJoining 35 = .ok (.aload_n 0, 1) := by decide +kernel
theorem dX1_weighJoining_36 : decode cX1_weighJoining 36 = .ok (.getfield 29, 3) := by decide +kernel
theorem dX1_weighJoining_39 : decode cX1_weighJoining 39 = .ok (.iload_n 2, 1) := by decide +kernel
theorem dX1_weighJoining_40 : decode cX1_weighJoining 40 = .ok (.aaload, 1) := by decide +kernel
theorem dX1_weighJoining_41 : decode cX1_weighJoining 41 = .ok (.aload_n 0, 1) := by decide +kernel
theorem dX1_weighJoining_42 : decode cX1_weighJoining 42 = .ok (.getfield 16, 3) := by decide +kernel
theorem dX1_weighJoining_45 : decode cX1_weighJoining 45 = .ok (.iload_n 3, 1) := by decide +kernel
theorem dX1_weighJoining_46 : decode cX1_weighJoining 46 = .ok (.iaload, 1) := by decide +kernel
theorem dX1_weighJoining_47 : decode cX1_weighJoining 47 = .ok (.dup2, 1) := by decide +kernel
theorem dX1_weighJoining_48 : decode cX1_weighJoining 48 = .ok (.iaload, 1) := by decide +kernel
theorem dX1_weighJoining_49 : decode cX1_weighJoining 49 = .ok (.aload_n 1, 1) := by decide +kernel
theorem dX1_weighJoining_50 : decode cX1_weighJoining 50 = .ok (.iload_n 2, 1) := by decide +kernel
theorem dX1_weighJoining_51 : decode cX1_weighJoining 51 = .ok (.iload_n 3, 1) := by decide +kernel
theorem dX1_weighJoining_52 : decode cX1_weighJoining 52 = .ok (.invokevirtual 64, 3) := by decide +kernel
theorem dX1_weighJoining_55 : decode cX1_weighJoining 55 = .ok (.aload_n 0, 1) := by decide +kernel
theorem dX1_weighJoining_56 : decode cX1_weighJoining 56 = .ok (.getfield 42, 3) := by decide +kernel
theorem dX1_weighJoining_59 : decode cX1_weighJoining 59 = .ok (.isub, 1) := by decide +kernel
theorem dX1_weighJoining_60 : decode cX1_weighJoining 60 = .ok (.aload_n 0, 1) := by decide +kernel
theorem dX1_weighJoining_61 : decode cX1_weighJoining 61 = .ok (.getfield 11, 3) := by decide +kernel
theorem dX1_weighJoining_64 : decode cX1_weighJoining 64 = .ok (.iload_n 2, 1) := by decide +kernel
theorem dX1_weighJoining_65 : decode cX1_weighJoining 65 = .ok (.aaload, 1) := by decide +kernel
theorem dX1_weighJoining_66 : decode cX1_weighJoining 66 = .ok (.iload_n 3, 1) := by decide +kernel
theorem dX1_weighJoining_67 : decode cX1_weighJoining 67 = .ok (.iaload, 1) := by decide +kernel
theorem dX1_weighJoining_68 : decode cX1_weighJoining 68 = .ok (.iadd, 1) := by decide +kernel
theorem dX1_weighJoining_69 : decode cX1_weighJoining 69 = .ok (.iadd, 1) := by decide +kernel
theorem dX1_weighJoining_70 : decode cX1_weighJoining 70 = .ok (.iastore, 1) := by decide +kernel
theorem dX1_weighJoining_71 : decode cX1_weighJoining 71 = .ok (.iinc 3 1, 3) := by decide +kernel
theorem dX1_weighJoining_74 : decode cX1_weighJoining 74 = .ok (.goto (-52), 3) := by decide +kernel
theorem dX1_weighJoining_77 : decode cX1_weighJoining 77 = .ok (.iinc 2 1, 3) := by decide +kernel
theorem dX1_weighJoining_80 : decode cX1_weighJoining 80 = .ok (.goto (-78), 3) := by decide +kernel
theorem dX1_weighJoining_83 : decode cX1_weighJoining 83 = .ok (.return_, 1) := by decide +kernel
set_option maxRecDepth 20000 in
theorem ggX1_weighMelting_J7_fill_53178 : GoodIn wsX1_weighMelting wsJ7_fill_53178 := goodIn_r _ [9] (by decide +kernel) (by decide +kernel)
set_option maxRecDepth 20000 in
theorem gX1_weighMelting_J7_fill_53178 : GoodIn wsX1_weighMelting (va_wsS RX1 96 yJ7_fill_53178 wsJ7_fill_53178) := goodIn_app (goodIn_of _ (by decide +kernel)) ggX1_weighMelting_J7_fill_53178
theorem dX1_weighMelting_0 : decode cX1_weighMelting 0 = .ok (.iconst 0, 1) := by decide +kernel
theorem dX1_weighMelting_1 : decode cX1_weighMelting 1 = .ok (.istore_n 1, 1) := by decide +kernel
theorem dX1_weighMelting_2 : decode cX1_weighMelting 2 = .ok (.iload_n 1, 1) := by decide +kernel
theorem dX1_weighMelting_3 : decode cX1_weighMelting 3 = .ok (.aload_n 0, 1) := by decide +kernel
theorem dX1_weighMelting_4 : decode cX1_weighMelting 4 = .ok (.getfield 39, 3) := by decide +kernel
theorem dX1_weighMelting_7 : decode cX1_weighMelting 7 = .ok (.if_icmp .ge 19, 3) := by decide +kernel
theorem dX1_weighMelting_10 : decode cX1_weighMelting 10 = .ok (.aload_n 0, 1) := by decide +kernel
theorem dX1_weighMelting_11 : decode cX1_weighMelting 11 = .ok (.getfield 32, 3) := by decide +kernel
theorem dX1_weighMelting_14 : decode cX1_weighMelting 14 = .ok (.iload_n 1, 1) := by decide +kernel
theorem dX1_weighMelting_15 : decode cX1_weighMelting 15 = .ok (.aaload, 1) := by decide +kernel
theorem dX1_weighMelting_16 : decode cX1_weighMelting 16 = .ok (.iconst 0, 1) := by decide +kernel
theorem dX1_weighMelting_17 : decode cX1_weighMelting 17 = .ok (.invokestatic 96, 3) := by decide +kernel
theorem dX1_weighMelting_20 : decode cX1_weighMelting 20 = .ok (.iinc 1 1, 3) := by decide +kernel
theorem dX1_weighMelting_23 : decode cX1_weighMelting 23 = .ok (.goto (-21), 3) := by decide +kernel
theorem dX1_weighMelting_26 : decode cX1_weighMelting 26 = .ok (.iconst 0, 1) := by decide +kernel
theorem dX1_weighMelting_27 : decode cX1_weighMelting 27 = .ok (.istore_n 1, 1) := by decide +kernel
theorem dX1_weighMelting_28 : decode cX1_weighMelting 28 = .ok (.iload_n 1, 1) := by decide +kernel
theorem dX1_weighMelting_29 : decode cX1_weighMelting 29 = .ok (.aload_n 0, 1) := by decide +kernel
theorem dX1_weighMelting_30 : decode cX1_weighMelting 30 = .ok (.getfield 35, 3) := by decide +kernel
theorem dX1_weighMelting_33 : decode cX1_weighMelting 33 = .ok (.if_icmp .ge 49, 3) := by decide +kernel
theorem dX1_weighMelting_36 : decode cX1_weighMelting 36 = .ok (.iconst 0, 1) := by decide +kernel
theorem dX1_weighMelting_37 : decode cX1_weighMelting 37 = .ok (.istore_n 2, 1) := by decide +kernel
theorem dX1_weighMelting_38 : decode cX1_weighMelting 38 = .ok (.iload_n 2, 1) := by decide +kernel
theorem dX1_weighMelting_39 : decode cX1_weighMelting 39 = .ok (.aload_n 0, 1) := by decide +kernel
theorem dX1_weighMelting_40 : decode cX1_weighMelting 40 = .ok (.getfield 39, 3) := by decide +kernel
theorem dX1_weighMelting_43 : decode cX1_weighMelting 43 = .ok (.if_icmp .ge 33, 3) := by decide +kernel
theorem dX1_weighMelting_46 : decode cX1_weighMelting 46 = .ok (.aload_n 0, 1) := by decide +kernel
theorem dX1_weighMelting_47 : decode cX1_weighMelting 47 = .ok (.getfield 32, 3) := by decide +kernel
theorem dX1_weighMelting_50 : decode cX1_weighMelting 50 = .ok (.aload_n 0, 1) := by decide +kernel
theorem dX1_weighMelting_51 : decode cX1_weighMelting 51 = .ok (.getfield 16, 3) := by decide +kernel
theorem dX1_weighMelting_54 : decode cX1_weighMelting 54 = .ok (.iload_n 1, 1) := by decide +kernel
theorem dX1_weighMelting_55 : decode cX1_weighMelting 55 = .ok (.iaload, 1) := by decide +kernel
theorem dX1_weighMelting_56 : decode cX1_weighMelting 56 = .ok (.aaload, 1) := by decide +kernel
theorem dX1_weighMelting_57 : decode cX1_weighMelting 57 = .ok (.iload_n 2, 1) := by decide +kernel
theorem dX1_weighMelting_58 : decode cX1_weighMelting 58 = .ok (.dup2, 1) := by decide +kernel
theorem dX1_weighMelting_59 : decode cX1_weighMelting 59 = .ok (.iaload, 1) := by decide +kernel
theorem dX1_weighMelting_60 : decode cX1_weighMelting 60 = .ok (.aload_n 0, 1) := by decide +kernel
theorem dX1_weighMelting_61 : decode cX1_weighMelting 61 = .ok (.getfield 29, 3) := by decide +kernel
theorem dX1_weighMelting_64 : decode cX1_weighMelting 64 = .ok (.iload_n 1, 1) := by decide +kernel
theorem dX1_weighMelting_65 : decode cX1_weighMelting 65 = .ok (.aaload, 1) := by decide +kernel
theorem dX1_weighMelting_66 : decode cX1_weighMelting 66 = .ok (.iload_n 2, 1) := by decide +kernel
theorem dX1_weighMelting_67 : decode cX1_weighMelting 67 = .ok (.iaload, 1) := by decide +kernel
theorem dX1_weighMelting_68 : decode cX1_weighMelting 68 = .ok (.iadd, 1) := by decide +kernel
theorem dX1_weighMelting_69 : decode cX1_weighMelting 69 = .ok (.iastore, 1) := by decide +kernel
theorem dX1_weighMelting_70 : decode cX1_weighMelting 70 = .ok (.iinc 2 1, 3) := by decide +kernel
theorem dX1_weighMelting_73 : decode cX1_weighMelting 73 = .ok (.goto (-35), 3) := by decide +kernel
theorem dX1_weighMelting_76 : decode cX1_weighMelting 76 = .ok (.iinc 1 1, 3) := by decide +kernel
theorem dX1_weighMelting_79 : decode cX1_weighMelting 79 = .ok (.goto (-51), 3) := by decide +kernel
theorem dX1_weighMelting_82 : decode cX1_weighMelting 82 = .ok (.return_, 1) := by decide +kernel
set_option maxRecDepth 20000 in
theorem ggX1_findBest_X1_findBestMove : GoodIn wsX1_findBest wsX1_findBestMove := goodIn_r _ [12, 13, 14, 3, 15, 16, 17, 18, 11, 19, 1, 5, 7, 20, 21, 22, 23, 24, 25, 26, 27, 28, 29, 30, 31, 32, 33, 34] (by decide +kernel) (by decide +kernel)
set_option maxRecDepth 20000 in
theorem gX1_findBest_X1_findBestMove : GoodIn wsX1_findBest (wsV RX1 102 RX1 yX1_findBestMove wsX1_findBestMove) := goodIn_app (goodIn_of _ (by decide +kernel)) ggX1_findBest_X1_findBestMove
theorem dX1_findBest_0 : decode cX1_findBest 0 = .ok (.aload_n 0, 1) := by decide +kernel
theorem dX1_findBest_1 : decode cX1_findBest 1 = .ok (.iconst 0, 1) := by decide +kernel
theorem dX1_findBest_2 : decode cX1_findBest 2 = .ok (.putfield 48, 3) := by decide +kernel
theorem dX1_findBest_5 : decode cX1_findBest 5 = .ok (.iconst 0, 1) := by decide +kernel
theorem dX1_findBest_6 : decode cX1_findBest 6 = .ok (.istore_n 1, 1) := by decide +kernel
theorem dX1_findBest_7 : decode cX1_findBest 7 = .ok (.iload_n 1, 1) := by decide +kernel
theorem dX1_findBest_8 : decode cX1_findBest 8 = .ok (.aload_n 0, 1) := by decide +kernel
theorem dX1_findBest_9 : decode cX1_findBest 9 = .ok (.getfield 35, 3) := by decide +kernel
theorem dX1_findBest_12 : decode cX1_findBest 12 = .ok (.if_icmp .ge 14, 3) := by decide +kernel
theorem dX1_findBest_15 : decode cX1_findBest 15 = .ok (.aload_n 0, 1) := by decide +kernel
theorem dX1_findBest_16 : decode cX1_findBest 16 = .ok (.iload_n 1, 1) := by decide +kernel
theorem dX1_findBest_17 : decode cX1_findBest 17 = .ok (.invokevirtual 102, 3) := by decide +kernel
theorem dX1_findBest_20 : decode cX1_findBest 20 = .ok (.iinc 1 1, 3) := by decide +kernel
theorem dX1_findBest_23 : decode cX1_findBest 23 = .ok (.goto (-16), 3) := by decide +kernel
theorem dX1_findBest_26 : decode cX1_findBest 26 = .ok (.iconst 0, 1) := by decide +kernel
theorem dX1_findBest_27 : decode cX1_findBest 27 = .ok (.istore_n 1, 1) := by decide +kernel
theorem dX1_findBest_28 : decode cX1_findBest 28 = .ok (.iload_n 1, 1) := by decide +kernel
theorem dX1_findBest_29 : decode cX1_findBest 29 = .ok (.aload_n 0, 1) := by decide +kernel
theorem dX1_findBest_30 : decode cX1_findBest 30 = .ok (.getfield 39, 3) := by decide +kernel
theorem dX1_findBest_33 : decode cX1_findBest 33 = .ok (.if_icmp .ge 69, 3) := by decide +kernel
theorem dX1_findBest_36 : decode cX1_findBest 36 = .ok (.iload_n 1, 1) := by decide +kernel
theorem dX1_findBest_37 : decode cX1_findBest 37 = .ok (.iconst 1, 1) := by decide +kernel
theorem dX1_findBest_38 : decode cX1_findBest 38 = .ok (.iadd, 1) := by decide +kernel
theorem dX1_findBest_39 : decode cX1_findBest 39 = .ok (.istore_n 2, 1) := by decide +kernel
theorem dX1_findBest_40 : decode cX1_findBest 40 = .ok (.iload_n 2, 1) := by decide +kernel
theorem dX1_findBest_41 : decode cX1_findBest 41 = .ok (.aload_n 0, 1) := by decide +kernel
theorem dX1_findBest_42 : decode cX1_findBest 42 = .ok (.getfield 39, 3) := by decide +kernel
theorem dX1_findBest_45 : decode cX1_findBest 45 = .ok (.if_icmp .ge 51, 3) := by decide +kernel
theorem dX1_findBest_48 : decode cX1_findBest 48 = .ok (.aload_n 0, 1) := by decide +kernel
theorem dX1_findBest_49 : decode cX1_findBest 49 = .ok (.getfield 32, 3) := by decide +kernel
theorem dX1_findBest_52 : decode cX1_findBest 52 = .ok (.iload_n 1, 1) := by decide +kernel
theorem dX1_findBest_53 : decode cX1_findBest 53 = .ok (.aaload, 1) := by decide +kernel
theorem dX1_findBest_54 : decode cX1_findBest 54 = .ok (.iload_n 2, 1) := by decide +kernel
theorem dX1_findBest_55 : decode cX1_findBest 55 = .ok (.iaload, 1) := by decide +kernel
theorem dX1_findBest_56 : decode cX1_findBest 56 = .ok (.aload_n 0, 1) := by decide +kernel
theorem dX1_findBest_57 : decode cX1_findBest 57 = .ok (.getfield 48, 3) := by decide +kernel
theorem dX1_findBest_60 : decode cX1_findBest 60 = .ok (.if_icmp .ge 30, 3) := by decide +kernel
theorem dX1_findBest_63 : decode cX1_findBest 63 = .ok (.aload_n 0, 1) := by decide +kernel
theorem dX1_findBest_64 : decode cX1_findBest 64 = .ok (.aload_n 0, 1) := by decide +kernel
theorem dX1_findBest_65 : decode cX1_findBest 65 = .ok (.getfield 32, 3) := by decide +kernel
theorem dX1_findBest_68 : decode cX1_findBest 68 = .ok (.iload_n 1, 1) := by decide +kernel
theorem dX1_findBest_69 : decode cX1_findBest 69 = .ok (.aaload, 1) := by decide +kernel
theorem dX1_findBest_70 : decode cX1_findBest 70 = .ok (.iload_n 2, 1) := by decide +kernel
theorem dX1_findBest_71 : decode cX1_findBest 71 = .ok (.iaload, 1) := by decide +kernel
theorem dX1_findBest_72 : decode cX1_findBest 72 = .ok (.putfield 48, 3) := by decide +kernel
theorem dX1_findBest_75 : decode cX1_findBest 75 = .ok (.aload_n 0, 1) := by decide +kernel
theorem dX1_findBest_76 : decode cX1_findBest 76 = .ok (.iconst (-1), 1) := by decide +kernel
theorem dX1_findBest_77 : decode cX1_findBest 77 = .ok (.putfield 51, 3) := by decide +kernel
theorem dX1_findBest_80 : decode cX1_findBest 80 = .ok (.aload_n 0, 1) := by decide +kernel
theorem dX1_findBest_81 : decode cX1_findBest 81 = .ok (.iload_n 2, 1) := by decide +kernel
theorem dX1_findBest_82 : decode cX1_findBest 82 = .ok (.putfield 54, 3) := by decide +kernel
theorem dX1_findBest_85 : decode cX1_findBest 85 = .ok (.aload_n 0, 1) := by decide +kernel
theorem dX1_findBest_86 : decode cX1_findBest 86 = .ok (.iload_n 1, 1) := by decide +kernel
theorem dX1_findBest_87 : decode cX1_findBest 87 = .ok (.putfield 57, 3) := by decide +kernel
theorem dX1_findBest_90 : decode cX1_findBest 90 = .ok (.iinc 2 1, 3) := by decide +kernel
theorem dX1_findBest_93 : decode cX1_findBest 93 = .ok (.goto (-53), 3) := by decide +kernel
theorem dX1_findBest_96 : decode cX1_findBest 96 = .ok (.iinc 1 1, 3) := by decide +kernel
theorem dX1_findBest_99 : decode cX1_findBest 99 = .ok (.goto (-71), 3) := by decide +kernel
theorem dX1_findBest_102 : decode cX1_findBest 102 = .ok (.return_, 1) := by decide +kernel
set_option maxRecDepth 20000 in
theorem ggX1_findBestMove_X1_weighMove : GoodIn wsX1_findBestMove wsX1_weighMove := goodIn_r _ [9, 10, 11, 12, 13, 14, 15, 16, 17, 18, 19, 20, 21, 22, 23, 24, 25, 26, 27] (by decide +kernel) (by decide +kernel)
set_option maxRecDepth 20000 in
theorem gX1_findBestMove_X1_weighMove : GoodIn wsX1_findBestMove (wsV RX1 106 RX1 yX1_weighMove wsX1_weighMove) := goodIn_app (goodIn_of _ (by decide +kernel)) ggX1_findBestMove_X1_weighMove
theorem dX1_findBestMove_0 : decode cX1_findBestMove 0 = .ok (.aload_n 0, 1) := by decide +kernel
theorem dX1_findBestMove_1 : decode cX1_findBestMove 1 = .ok (.getfield 16, 3) := by decide +kernel
theorem dX1_findBestMove_4 : decode cX1_findBestMove 4 = .ok (.iload_n 1, 1) := by decide +kernel
theorem dX1_findBestMove_5 : decode cX1_findBestMove 5 = .ok (.iaload, 1) := by decide +kernel
theorem dX1_findBestMove_6 : decode cX1_findBestMove 6 = .ok (.istore_n 2, 1) := by decide +kernel
theorem dX1_findBestMove_7 : decode cX1_findBestMove 7 = .ok (.aload_n 0, 1) := by decide +kernel
theorem dX1_findBestMove_8 : decode cX1_findBestMove 8 = .ok (.getfield 29, 3) := by decide +kernel
theorem dX1_findBestMove_11 : decode cX1_findBestMove 11 = .ok (.iload_n 1, 1) := by decide +kernel
theorem dX1_findBestMove_12 : decode cX1_findBestMove 12 = .ok (.aaload, 1) := by decide +kernel
theorem dX1_findBestMove_13 : decode cX1_findBestMove 13 = .ok (.iload_n 2, 1) := by decide +kernel
theorem dX1_findBestMove_14 : decode cX1_findBestMove 14 = .ok (.iaload, 1) := by decide +kernel
theorem dX1_findBestMove_15 : decode cX1_findBestMove 15 = .ok (.ineg, 1) := by decide +kernel
theorem dX1_findBestMove_16 : decode cX1_findBestMove 16 = .ok (.istore_n 3, 1) := by decide +kernel
theorem dX1_findBestMove_17 : decode cX1_findBestMove 17 = .ok (.iconst 0, 1) := by decide +kernel
theorem dX1_findBestMove_18 : decode cX1_findBestMove 18 = .ok (.istore 4, 2) := by decide +kernel
theorem dX1_findBestMove_20 : decode cX1_findBestMove 20 = .ok (.iload 4, 2) := by decide +kernel
theorem dX1_findBestMove_22 : decode cX1_findBestMove 22 = .ok (.aload_n 0, 1) := by decide +kernel
theorem dX1_findBestMove_23 : decode cX1_findBestMove 23 = .ok (.getfield 39, 3) := by decide +kernel
theorem dX1_findBestMove_26 : decode cX1_findBestMove 26 = .ok (.if_icmp .ge 33, 3) := by decide +kernel
theorem dX1_findBestMove_29 : decode cX1_findBestMove 29 = .ok (.iload 4, 2) := by decide +kernel
theorem dX1_findBestMove_31 : decode cX1_findBestMove 31 = .ok (.iload_n 2, 1) := by decide +kernel
theorem dX1_findBestMove_32 : decode cX1_findBestMove 32 = .ok (.if_icmp .eq 21, 3) := by decide +kernel
theorem dX1_findBestMove_35 : decode cX1_findBestMove 35 = .ok (.aload_n 0, 1) := by decide +kernel
theorem dX1_findBestMove_36 : decode cX1_findBestMove 36 = .ok (.iload_n 1, 1) := by decide +kernel
theorem dX1_findBestMove_37 : decode cX1_findBestMove 37 = .ok (.iload 4, 2) := by decide +kernel
theorem dX1_findBestMove_39 : decode cX1_findBestMove 39 = .ok (.iload_n 3, 1) := by decide +kernel
theorem dX1_findBestMove_40 : decode cX1_findBestMove 40 = .ok (.aload_n 0, 1) := by decide +kernel
theorem dX1_findBestMove_41 : decode cX1_findBestMove 41 = .ok (.getfield 29, 3) := by decide +kernel
theorem dX1_findBestMove_44 : decode cX1_findBestMove 44 = .ok (.iload_n 1, 1) := by decide +kernel
theorem dX1_findBestMove_45 : decode cX1_findBestMove 45 = .ok (.aaload, 1) := by decide +kernel
theorem dX1_findBestMove_46 : decode cX1_findBestMove 46 = .ok (.iload 4, 2) := by decide +kernel
theorem dX1_findBestMove_48 : decode cX1_findBestMove 48 = .ok (.iaload, 1) := by decide +kernel
theorem dX1_findBestMove_49 : decode cX1_findBestMove 49 = .ok (.iadd, 1) := by decide +kernel
theorem dX1_findBestMove_50 : decode cX1_findBestMove 50 = .ok (.invokevirtual 106, 3) := by decide +kernel
theorem dX1_findBestMove_53 : decode cX1_findBestMove 53 = .ok (.iinc 4 1, 3) := by decide +kernel
theorem dX1_findBestMove_56 : decode cX1_findBestMove 56 = .ok (.goto (-36), 3) := by decide +kernel
theorem dX1_findBestMove_59 : decode cX1_findBestMove 59 = .ok (.aload_n 0, 1) := by decide +kernel
theorem dX1_findBestMove_60 : decode cX1_findBestMove 60 = .ok (.getfield 23, 3) := by decide +kernel
theorem dX1_findBestMove_63 : decode cX1_findBestMove 63 = .ok (.iload_n 2, 1) := by decide +kernel
theorem dX1_findBestMove_64 : decode cX1_findBestMove 64 = .ok (.iaload, 1) := by decide +kernel
theorem dX1_findBestMove_65 : decode cX1_findBestMove 65 = .ok (.iconst 1, 1) := by decide +kernel
theorem dX1_findBestMove_66 : decode cX1_findBestMove 66 = .ok (.if_icmp .le 13, 3) := by decide +kernel
theorem dX1_findBestMove_69 : decode cX1_findBestMove 69 = .ok (.aload_n 0, 1) := by decide +kernel
theorem dX1_findBestMove_70 : decode cX1_findBestMove 70 = .ok (.iload_n 1, 1) := by decide +kernel
theorem dX1_findBestMove_71 : decode cX1_findBestMove 71 = .ok (.aload_n 0, 1) := by decide +kernel
theorem dX1_findBestMove_72 : decode cX1_findBestMove 72 = .ok (.getfield 39, 3) := by decide +kernel
theorem dX1_findBestMove_75 : decode cX1_findBestMove 75 = .ok (.iload_n 3, 1) := by decide +kernel
theorem dX1_findBestMove_76 : decode cX1_findBestMove 76 = .ok (.invokevirtual 106, 3) := by decide +kernel
theorem dX1_findBestMove_79 : decode cX1_findBestMove 79 = .ok (.return_, 1) := by decide +kernel
theorem dX1_weighMove_0 : decode cX1_weighMove 0 = .ok (.iload_n 3, 1) := by decide +kernel
theorem dX1_weighMove_1 : decode cX1_weighMove 1 = .ok (.aload_n 0, 1) := by decide +kernel
theorem dX1_weighMove_2 : decode cX1_weighMove 2 = .ok (.getfield 48, 3) := by decide +kernel
theorem dX1_weighMove_5 : decode cX1_weighMove 5 = .ok (.if_icmp .ge 18, 3) := by decide +kernel
theorem dX1_weighMove_8 : decode cX1_weighMove 8 = .ok (.aload_n 0, 1) := by decide +kernel
theorem dX1_weighMove_9 : decode cX1_weighMove 9 = .ok (.iload_n 3, 1) := by decide +kernel
theorem dX1_weighMove_10 : decode cX1_weighMove 10 = .ok (.putfield 48, 3) := by decide +kernel
theorem dX1_weighMove_13 : decode cX1_weighMove 13 = .ok (.aload_n 0, 1) := by decide +kernel
theorem dX1_weighMove_14 : decode cX1_weighMove 14 = .ok (.iload_n 1, 1) := by decide +kernel
theorem dX1_weighMove_15 : decode cX1_weighMove 15 = .ok (.putfield 51, 3) := by decide +kernel
theorem dX1_weighMove_18 : decode cX1_weighMove 18 = .ok (.aload_n 0, 1) := by decide +kernel
theorem dX1_weighMove_19 : decode cX1_weighMove 19 = .ok (.iload_n 2, 1) := by decide +kernel
theorem dX1_weighMove_20 : decode cX1_weighMove 20 = .ok (.putfield 57, 3) := by decide +kernel
theorem dX1_weighMove_23 : decode cX1_weighMove 23 = .ok (.return_, 1) := by decide +kernel
set_option maxRecDepth 20000 in
theorem ggX1_doBest_X1_numberAnew : GoodIn wsX1_doBest wsX1_numberAnew := goodIn_r _ [10, 11, 12, 4, 2, 13, 14, 15, 16, 17, 18, 19, 20, 21, 22, 23, 24, 25, 26, 27, 28, 29, 30, 31, 32, 33] (by decide +kernel) (by decide +kernel)
set_option maxRecDepth 20000 in
theorem gX1_doBest_X1_numberAnew : GoodIn wsX1_doBest (wsV RX1 79 RX1 yX1_numberAnew wsX1_numberAnew) := goodIn_app (goodIn_of _ (by decide +kernel)) ggX1_doBest_X1_numberAnew
theorem dX1_doBest_0 : decode cX1_doBest 0 = .ok (.aload_n 0, 1) := by decide +kernel
theorem dX1_doBest_1 : decode cX1_doBest 1 = .ok (.getfield 51, 3) := by decide +kernel
theorem dX1_doBest_4 : decode cX1_doBest 4 = .ok (.iconst (-1), 1) := by decide +kernel
theorem dX1_doBest_5 : decode cX1_doBest 5 = .ok (.if_icmp .eq 19, 3) := by decide +kernel
theorem dX1_doBest_8 : decode cX1_doBest 8 = .ok (.aload_n 0, 1) := by decide +kernel
theorem dX1_doBest_9 : decode cX1_doBest 9 = .ok (.getfield 16, 3) := by decide +kernel
theorem dX1_doBest_12 : decode cX1_doBest 12 = .ok (.aload_n 0, 1) := by decide +kernel
theorem dX1_doBest_13 : decode cX1_doBest 13 = .ok (.getfield 51, 3) := by decide +kernel
theorem dX1_doBest_16 : decode cX1_doBest 16 = .ok (.aload_n 0, 1) := by decide +kernel
theorem dX1_doBest_17 : decode cX1_doBest 17 = .ok (.getfield 57, 3) := by decide +kernel
theorem dX1_doBest_20 : decode cX1_doBest 20 = .ok (.iastore, 1) := by decide +kernel
theorem dX1_doBest_21 : decode cX1_doBest 21 = .ok (.goto 42, 3) := by decide +kernel
theorem dX1_doBest_24 : decode cX1_doBest 24 = .ok (.iconst 0, 1) := by decide +kernel
theorem dX1_doBest_25 : decode cX1_doBest 25 = .ok (.istore_n 1, 1) := by decide +kernel
theorem dX1_doBest_26 : decode cX1_doBest 26 = .ok (.iload_n 1, 1) := by decide +kernel
theorem dX1_doBest_27 : decode cX1_doBest 27 = .ok (.aload_n 0, 1) := by decide +kernel
theorem dX1_doBest_28 : decode cX1_doBest 28 = .ok (.getfield 35, 3) := by decide +kernel
theorem dX1_doBest_31 : decode cX1_doBest 31 = .ok (.if_icmp .ge 32, 3) := by decide +kernel
theorem dX1_doBest_34 : decode cX1_doBest 34 = .ok (.aload_n 0, 1) := by decide +kernel
theorem dX1_doBest_35 : decode cX1_doBest 35 = .ok (.getfield 16, 3) := by decide +kernel
theorem dX1_doBest_38 : decode cX1_doBest 38 = .ok (.iload_n 1, 1) := by decide +kernel
theorem dX1_doBest_39 : decode cX1_doBest 39 = .ok (.iaload, 1) := by decide +kernel
theorem dX1_doBest_40 : decode cX1_doBest 40 = .ok (.aload_n 0, 1) := by decide +kernel
theorem dX1_doBest_41 : decode cX1_doBest 41 = .ok (.getfield 54, 3) := by decide +kernel
theorem dX1_doBest_44 : decode cX1_doBest 44 = .ok (.if_icmp .ne 13, 3) := by decide +kernel
theorem dX1_doBest_47 : decode cX1_doBest 47 = .ok (.aload_n 0, 1) := by decide +kernel
theorem dX1_doBest_48 : decode cX1_doBest 48 = .ok (.getfield 16, 3) := by decide +kernel
theorem dX1_doBest_51 : decode cX1_doBest 51 = .ok (.iload_n 1, 1) := by decide +kernel
theorem dX1_doBest_52 : decode cX1_doBest 52 = .ok (.aload_n 0, 1) := by decide +kernel
theorem dX1_doBest_53 : decode cX1_doBest 53 = .ok (.getfield 57, 3) := by decide +kernel
theorem dX1_doBest_56 : decode cX1_doBest 56 = .ok (.iastore, 1) := by decide +kernel
theorem dX1_doBest_57 : decode cX1_doBest 57 = .ok (.iinc 1 1, 3) := by decide +kernel
theorem dX1_doBest_60 : decode cX1_doBest 60 = .ok (.goto (-34), 3) := by decide +kernel
theorem dX1_doBest_63 : decode cX1_doBest 63 = .ok (.aload_n 0, 1) := by decide +kernel
theorem dX1_doBest_64 : decode cX1_doBest 64 = .ok (.invokevirtual 79, 3) := by decide +kernel
theorem dX1_doBest_67 : decode cX1_doBest 67 = .ok (.return_, 1) := by decide +kernel
set_option maxRecDepth 20000 in
theorem ggX1_numberAnew_J7_fill_53178 : GoodIn wsX1_numberAnew wsJ7_fill_53178 := goodIn_r _ [10] (by decide +kernel) (by decide +kernel)
set_option maxRecDepth 20000 in
theorem gX1_numberAnew_J7_fill_53178 : GoodIn wsX1_numberAnew (va_wsS RX1 96 yJ7_fill_53178 wsJ7_fill_53178) := goodIn_app (goodIn_of _ (by decide +kernel)) ggX1_numberAnew_J7_fill_53178
theorem dX1_numberAnew_0 : decode cX1_numberAnew 0 = .ok (.aload_n 0, 1) := by decide +kernel
theorem dX1_numberAnew_1 : decode cX1_numberAnew 1 = .ok (.getfield 26, 3) := by decide +kernel
theorem dX1_numberAnew_4 : decode cX1_numberAnew 4 = .ok (.iconst (-1), 1) := by decide +kernel
theorem dX1_numberAnew_5 : decode cX1_numberAnew 5 = .ok (.invokestatic 96, 3) := by decide +kernel
theorem dX1_numberAnew_8 : decode cX1_numberAnew 8 = .ok (.aload_n 0, 1) := by decide +kernel
theorem dX1_numberAnew_9 : decode cX1_numberAnew 9 = .ok (.iconst 0, 1) := by decide +kernel
theorem dX1_numberAnew_10 : decode cX1_numberAnew 10 = .ok (.putfield 39, 3) := by decide +kernel
theorem dX1_numberAnew_13 : decode cX1_numberAnew 13 = .ok (.iconst 0, 1) := by decide +kernel
theorem dX1_numberAnew_14 : decode cX1_numberAnew 14 = .ok (.istore_n 1, 1) := by decide +kernel
theorem dX1_numberAnew_15 : decode cX1_numberAnew 15 = .ok (.iload_n 1, 1) := by decide +kernel
theorem dX1_numberAnew_16 : decode cX1_numberAnew 16 = .ok (.aload_n 0, 1) := by decide +kernel
theorem dX1_numberAnew_17 : decode cX1_numberAnew 17 = .ok (.getfield 35, 3) := by decide +kernel
theorem dX1_numberAnew_20 : decode cX1_numberAnew 20 = .ok (.if_icmp .ge 93, 3) := by decide +kernel
theorem dX1_numberAnew_23 : decode cX1_numberAnew 23 = .ok (.aload_n 0, 1) := by decide +kernel
theorem dX1_numberAnew_24 : decode cX1_numberAnew 24 = .ok (.getfield 16, 3) := by decide +kernel
theorem dX1_numberAnew_27 : decode cX1_numberAnew 27 = .ok (.iload_n 1, 1) := by decide +kernel
theorem dX1_numberAnew_28 : decode cX1_numberAnew 28 = .ok (.iaload, 1) := by decide +kernel
theorem dX1_numberAnew_29 : decode cX1_numberAnew 29 = .ok (.istore_n 2, 1) := by decide +kernel
theorem dX1_numberAnew_30 : decode cX1_numberAnew 30 = .ok (.aload_n 0, 1) := by decide +kernel
theorem dX1_numberAnew_31 : decode cX1_numberAnew 31 = .ok (.getfield 26, 3) := by decide +kernel
theorem dX1_numberAnew_34 : decode cX1_numberAnew 34 = .ok (.iload_n 2, 1) := by decide +kernel
theorem dX1_numberAnew_35 : decode cX1_numberAnew 35 = .ok (.iaload, 1) := by decide +kernel
theorem dX1_numberAnew_36 : decode cX1_numberAnew 36 = .ok (.iconst (-1), 1) := by decide +kernel
theorem dX1_numberAnew_37 : decode cX1_numberAnew 37 = .ok (.if_icmp .ne 43, 3) := by decide +kernel
theorem dX1_numberAnew_40 : decode cX1_numberAnew 40 = .ok (.aload_n 0, 1) := by decide +kernel
theorem dX1_numberAnew_41 : decode cX1_numberAnew 41 = .ok (.getfield 26, 3) := by decide +kernel
theorem dX1_numberAnew_44 : decode cX1_numberAnew 44 = .ok (.iload_n 2, 1) := by decide +kernel
theorem dX1_numberAnew_45 : decode cX1_numberAnew 45 = .ok (.aload_n 0, 1) := by decide +kernel
theorem dX1_numberAnew_46 : decode cX1_numberAnew 46 = .ok (.getfield 39, 3) := by decide +kernel
theorem dX1_numberAnew_49 : decode cX1_numberAnew 49 = .ok (.iastore, 1) := by decide +kernel
theorem dX1_numberAnew_50 : decode cX1_numberAnew 50 = .ok (.aload_n 0, 1) := by decide +kernel
theorem dX1_numberAnew_51 : decode cX1_numberAnew 51 = .ok (.getfield 20, 3) := by decide +kernel
theorem dX1_numberAnew_54 : decode cX1_numberAnew 54 = .ok (.aload_n 0, 1) := by decide +kernel
theorem dX1_numberAnew_55 : decode cX1_numberAnew 55 = .ok (.getfield 39, 3) := by decide +kernel
theorem dX1_numberAnew_58 : decode cX1_numberAnew 58 = .ok (.iload_n 1, 1) := by decide +kernel
theorem dX1_numberAnew_59 : decode cX1_numberAnew 59 = .ok (.iastore, 1) := by decide +kernel
theorem dX1_numberAnew_60 : decode cX1_numberAnew 60 = .ok (.aload_n 0, 1) := by decide +kernel
theorem dX1_numberAnew_61 : decode cX1_numberAnew 61 = .ok (.getfield 23, 3) := by decide +kernel
theorem dX1_numberAnew_64 : decode cX1_numberAnew 64 = .ok (.aload_n 0, 1) := by decide +kernel
theorem dX1_numberAnew_65 : decode cX1_numberAnew 65 = .ok (.getfield 39, 3) := by decide +kernel
theorem dX1_numberAnew_68 : decode cX1_numberAnew 68 = .ok (.iconst 0, 1) := by decide +kernel
theorem dX1_numberAnew_69 : decode cX1_numberAnew 69 = .ok (.iastore, 1) := by decide +kernel
theorem dX1_numberAnew_70 : decode cX1_numberAnew 70 = .ok (.aload_n 0, 1) := by decide +kernel
theorem dX1_numberAnew_71 : decode cX1_numberAnew 71 = .ok (.dup, 1) := by decide +kernel
theorem dX1_numberAnew_72 : decode cX1_numberAnew 72 = .ok (.getfield 39, 3) := by decide +kernel
theorem dX1_numberAnew_75 : decode cX1_numberAnew 75 = .ok (.iconst 1, 1) := by decide +kernel
theorem dX1_numberAnew_76 : decode cX1_numberAnew 76 = .ok (.iadd, 1) := by decide +kernel
theorem dX1_numberAnew_77 : decode cX1_numberAnew 77 = .ok (.putfield 39, 3) := by decide +kernel
theorem dX1_numberAnew_80 : decode cX1_numberAnew 80 = .ok (.aload_n 0, 1) := by decide +kernel
theorem dX1_numberAnew_81 : decode cX1_numberAnew 81 = .ok (.getfield 16, 3) := by decide +kernel
theorem dX1_numberAnew_84 : decode cX1_numberAnew 84 = .ok (.iload_n 1, 1) := by decide +kernel
theorem dX1_numberAnew_85 : decode cX1_numberAnew 85 = .ok (.aload_n 0, 1) := by decide +kernel
theorem dX1_numberAnew_86 : decode cX1_numberAnew 86 = .ok (.getfield 26, 3) := by decide +kernel
theorem dX1_numberAnew_89 : decode cX1_numberAnew 89 = .ok (.iload_n 2, 1) := by decide +kernel
theorem dX1_numberAnew_90 : decode cX1_numberAnew 90 = .ok (.iaload, 1) := by decide +kernel
theorem dX1_numberAnew_91 : decode cX1_numberAnew 91 = .ok (.iastore, 1) := by decide +kernel
theorem dX1_numberAnew_92 : decode cX1_numberAnew 92 = .ok (.aload_n 0, 1) := by decide +kernel
theorem dX1_numberAnew_93 : decode cX1_numberAnew 93 = .ok (.getfield 23, 3) := by decide +kernel
theorem dX1_numberAnew_96 : decode cX1_numberAnew 96 = .ok (.aload_n 0, 1) := by decide +kernel
theorem dX1_numberAnew_97 : decode cX1_numberAnew 97 = .ok (.getfield 16, 3) := by decide +kernel
theorem dX1_numberAnew_100 : decode cX1_numberAnew 100 = .ok (.iload_n 1, 1) := by decide +kernel
theorem dX1_numberAnew_101 : decode cX1_numberAnew 101 = .ok (.iaload, 1) := by decide +kernel
theorem dX1_numberAnew_102 : decode cX1_numberAnew 102 = .ok (.dup2, 1) := by decide +kernel
theorem dX1_numberAnew_103 : decode cX1_numberAnew 103 = .ok (.iaload, 1) := by decide +kernel
theorem dX1_numberAnew_104 : decode cX1_numberAnew 104 = .ok (.iconst 1, 1) := by decide +kernel
theorem dX1_numberAnew_105 : decode cX1_numberAnew 105 = .ok (.iadd, 1) := by decide +kernel
theorem dX1_numberAnew_106 : decode cX1_numberAnew 106 = .ok (.iastore, 1) := by decide +kernel
theorem dX1_numberAnew_107 : decode cX1_numberAnew 107 = .ok (.iinc 1 1, 3) := by decide +kernel
theorem dX1_numberAnew_110 : decode cX1_numberAnew 110 = .ok (.goto (-95), 3) := by decide +kernel
theorem dX1_numberAnew_113 : decode cX1_numberAnew 113 = .ok (.return_, 1) := by decide +kernel
theorem dX2_init_0 : decode cX2_init 0 = .ok (.aload_n 0, 1) := by decide +kernel
theorem dX2_init_1 : decode cX2_init 1 = .ok (.invokespecial 3, 3) := by decide +kernel
theorem dX2_init_4 : decode cX2_init 4 = .ok (.aload_n 0, 1) := by decide +kernel
theorem dX2_init_5 : decode cX2_init 5 = .ok (.bipush 12, 2) := by decide +kernel
theorem dX2_init_7 : decode cX2_init 7 = .ok (.newarray .int, 2) := by decide +kernel
theorem dX2_init_9 : decode cX2_init 9 = .ok (.putfield 9, 3) := by decide +kernel
theorem dX2_init_12 : decode cX2_init 12 = .ok (.aload_n 0, 1) := by decide +kernel
theorem dX2_init_13 : decode cX2_init 13 = .ok (.bipush 12, 2) := by decide +kernel
theorem dX2_init_15 : decode cX2_init 15 = .ok (.newarray .long, 2) := by decide +kernel
theorem dX2_init_17 : decode cX2_init 17 = .ok (.putfield 15, 3) := by decide +kernel
theorem dX2_init_20 : decode cX2_init 20 = .ok (.aload_n 0, 1) := by decide +kernel
theorem dX2_init_21 : decode cX2_init 21 = .ok (.iconst 0, 1) := by decide +kernel
theorem dX2_init_22 : decode cX2_init 22 = .ok (.putfield 19, 3) := by decide +kernel
theorem dX2_init_25 : decode cX2_init 25 = .ok (.aload_n 0, 1) := by decide +kernel
theorem dX2_init_26 : decode cX2_init 26 = .ok (.iconst 3, 1) := by decide +kernel
theorem dX2_init_27 : decode cX2_init 27 = .ok (.newarray .int, 2) := by decide +kernel
theorem dX2_init_29 : decode cX2_init 29 = .ok (.putfield 23, 3) := by decide +kernel
theorem dX2_init_32 : decode cX2_init 32 = .ok (.aload_n 0, 1) := by decide +kernel
theorem dX2_init_33 : decode cX2_init 33 = .ok (.iconst 0, 1) := by decide +kernel
theorem dX2_init_34 : decode cX2_init 34 = .ok (.putfield 26, 3) := by decide +kernel
theorem dX2_init_37 : decode cX2_init 37 = .ok (.return_, 1) := by decide +kernel
theorem dX2_latestAt_0 : decode cX2_latestAt 0 = .ok (.iload_n 1, 1) := by decide +kernel
theorem dX2_latestAt_1 : decode cX2_latestAt 1 = .ok (.ifCond .lt 20, 3) := by decide +kernel
theorem dX2_latestAt_4 : decode cX2_latestAt 4 = .ok (.iload_n 1, 1) := by decide +kernel
theorem dX2_latestAt_5 : decode cX2_latestAt 5 = .ok (.aload_n 0, 1) := by decide +kernel
theorem dX2_latestAt_6 : decode cX2_latestAt 6 = .ok (.getfield 26, 3) := by decide +kernel
theorem dX2_latestAt_9 : decode cX2_latestAt 9 = .ok (.if_icmp .ge 12, 3) := by decide +kernel
theorem dX2_latestAt_12 : decode cX2_latestAt 12 = .ok (.aload_n 0, 1) := by decide +kernel
theorem dX2_latestAt_13 : decode cX2_latestAt 13 = .ok (.getfield 23, 3) := by decide +kernel
theorem dX2_latestAt_16 : decode cX2_latestAt 16 = .ok (.iload_n 1, 1) := by decide +kernel
theorem dX2_latestAt_17 : decode cX2_latestAt 17 = .ok (.iaload, 1) := by decide +kernel
theorem dX2_latestAt_18 : decode cX2_latestAt 18 = .ok (.goto 4, 3) := by decide +kernel
theorem dX2_latestAt_21 : decode cX2_latestAt 21 = .ok (.iconst (-1), 1) := by decide +kernel
theorem dX2_latestAt_22 : decode cX2_latestAt 22 = .ok (.ireturn, 1) := by decide +kernel
set_option maxRecDepth 20000 in
theorem ggX2_tell_X3_howMany : GoodIn wsX2_tell wsX3_howMany := goodIn_r _ [6, 7, 39, 40, 41, 42, 43, 44] (by decide +kernel) (by decide +kernel)
set_option maxRecDepth 20000 in
theorem gX2_tell_X3_howMany : GoodIn wsX2_tell (wsV RX2 29 RX3 yX3_howMany wsX3_howMany) := goodIn_app (goodIn_of _ (by decide +kernel)) ggX2_tell_X3_howMany
set_option maxRecDepth 20000 in
theorem ggX2_tell_X2_gatherShared : GoodIn wsX2_tell wsX2_gatherShared := goodIn_r _ [12, 13, 14, 15, 16, 17, 18, 5, 19, 20, 34, 35, 36, 37, 38, 39, 40, 41, 42, 43, 44] (by decide +kernel) (by decide +kernel)
set_option maxRecDepth 20000 in
theorem gX2_tell_X2_gatherShared : GoodIn wsX2_tell (wsV RX2 35 RX2 yX2_gatherShared wsX2_gatherShared) := goodIn_app (goodIn_of _ (by decide +kernel)) ggX2_tell_X2_gatherShared
set_option maxRecDepth 20000 in
theorem ggX2_tell_X2_findOne : GoodIn wsX2_tell wsX2_findOne := goodIn_r _ [24, 13, 15, 25, 14, 1, 34, 35, 36, 37, 38] (by decide +kernel) (by decide +kernel)
set_option maxRecDepth 20000 in
theorem gX2_tell_X2_findOne : GoodIn wsX2_tell (wsV RX2 39 RX2 yX2_findOne wsX2_findOne) := goodIn_app (goodIn_of _ (by decide +kernel)) ggX2_tell_X2_findOne
set_option maxRecDepth 20000 in
theorem ggX2_tell_X2_findTwo : GoodIn wsX2_tell wsX2_findTwo := goodIn_r _ [29, 13, 15, 25, 14, 1, 34, 35, 36, 37, 38] (by decide +kernel) (by decide +kernel)
set_option maxRecDepth 20000 in
theorem gX2_tell_X2_findTwo : GoodIn wsX2_tell (wsV RX2 43 RX2 yX2_findTwo wsX2_findTwo) := goodIn_app (goodIn_of _ (by decide +kernel)) ggX2_tell_X2_findTwo
set_option maxRecDepth 20000 in
theorem ggX2_tell_X2_findThree : GoodIn wsX2_tell wsX2_findThree := goodIn_r _ [33, 13, 15, 25, 14, 1, 34, 35, 36, 37, 38] (by decide +kernel) (by decide +kernel)
set_option maxRecDepth 20000 in
theorem gX2_tell_X2_findThree : GoodIn wsX2_tell (wsV RX2 46 RX2 yX2_findThree wsX2_findThree) := goodIn_app (goodIn_of _ (by decide +kernel)) ggX2_tell_X2_findThree
theorem dX2_tell_0 : decode cX2_tell 0 = .ok (.lconst 1, 1) := by decide +kernel
theorem dX2_tell_1 : decode cX2_tell 1 = .ok (.aload_n 1, 1) := by decide +kernel
theorem dX2_tell_2 : decode cX2_tell 2 = .ok (.invokevirtual 29, 3) := by decide +kernel
theorem dX2_tell_5 : decode cX2_tell 5 = .ok (.lshl, 1) := by decide +kernel
theorem dX2_tell_6 : decode cX2_tell 6 = .ok (.lconst 1, 1) := by decide +kernel
theorem dX2_tell_7 : decode cX2_tell 7 = .ok (.lsub, 1) := by decide +kernel
theorem dX2_tell_8 : decode cX2_tell 8 = .ok (.lstore 4, 2) := by decide +kernel
theorem dX2_tell_10 : decode cX2_tell 10 = .ok (.lload_n 2, 1) := by decide +kernel
theorem dX2_tell_11 : decode cX2_tell 11 = .ok (.lload 4, 2) := by decide +kernel
theorem dX2_tell_13 : decode cX2_tell 13 = .ok (.lcmp, 1) := by decide +kernel
theorem dX2_tell_14 : decode cX2_tell 14 = .ok (.ifCond .ne 13, 3) := by decide +kernel
theorem dX2_tell_17 : decode cX2_tell 17 = .ok (.aload_n 0, 1) := by decide +kernel
theorem dX2_tell_18 : decode cX2_tell 18 = .ok (.iconst 0, 1) := by decide +kernel
theorem dX2_tell_19 : decode cX2_tell 19 = .ok (.putfield 26, 3) := by decide +kernel
theorem dX2_tell_22 : decode cX2_tell 22 = .ok (.aload_n 0, 1) := by decide +kernel
theorem dX2_tell_23 : decode cX2_tell 23 = .ok (.getfield 26, 3) := by decide +kernel
theorem dX2_tell_26 : decode cX2_tell 26 = .ok (.ireturn, 1) := by decide +kernel
theorem dX2_tell_27 : decode cX2_tell 27 = .ok (.aload_n 0, 1) := by decide +kernel
theorem dX2_tell_28 : decode cX2_tell 28 = .ok (.aload_n 1, 1) := by decide +kernel
theorem dX2_tell_29 : decode cX2_tell 29 = .ok (.lload_n 2, 1) := by decide +kernel
theorem dX2_tell_30 : decode cX2_tell 30 = .ok (.invokevirtual 35, 3) := by decide +kernel
theorem dX2_tell_33 : decode cX2_tell 33 = .ok (.aload_n 0, 1) := by decide +kernel
theorem dX2_tell_34 : decode cX2_tell 34 = .ok (.lload_n 2, 1) := by decide +kernel
theorem dX2_tell_35 : decode cX2_tell 35 = .ok (.invokevirtual 39, 3) := by decide +kernel
theorem dX2_tell_38 : decode cX2_tell 38 = .ok (.ifCond .ne 19, 3) := by decide +kernel
theorem dX2_tell_41 : decode cX2_tell 41 = .ok (.aload_n 0, 1) := by decide +kernel
theorem dX2_tell_42 : decode cX2_tell 42 = .ok (.lload_n 2, 1) := by decide +kernel
theorem dX2_tell_43 : decode cX2_tell 43 = .ok (.invokevirtual 43, 3) := by decide +kernel
theorem dX2_tell_46 : decode cX2_tell 46 = .ok (.ifCond .ne 11, 3) := by decide +kernel
theorem dX2_tell_49 : decode cX2_tell 49 = .ok (.aload_n 0, 1) := by decide +kernel
theorem dX2_tell_50 : decode cX2_tell 50 = .ok (.lload_n 2, 1) := by decide +kernel
theorem dX2_tell_51 : decode cX2_tell 51 = .ok (.invokevirtual 46, 3) := by decide +kernel
theorem dX2_tell_54 : decode cX2_tell 54 = .ok (.ifCond .eq 10, 3) := by decide +kernel
theorem dX2_tell_57 : decode cX2_tell 57 = .ok (.aload_n 0, 1) := by decide +kernel
theorem dX2_tell_58 : decode cX2_tell 58 = .ok (.getfield 26, 3) := by decide +kernel
theorem dX2_tell_61 : decode cX2_tell 61 = .ok (.goto 4, 3) := by decide +kernel
theorem dX2_tell_64 : decode cX2_tell 64 = .ok (.iconst (-1), 1) := by decide +kernel
theorem dX2_tell_65 : decode cX2_tell 65 = .ok (.ireturn, 1) := by decide +kernel
set_option maxRecDepth 20000 in
theorem ggX2_gatherShared_X3_holdersOf : GoodIn wsX2_gatherShared wsX3_holdersOf := goodIn_r _ [8, 9, 15, 16, 17, 18, 19, 20] (by decide +kernel) (by decide +kernel)
set_option maxRecDepth 20000 in
theorem gX2_gatherShared_X3_holdersOf : GoodIn wsX2_gatherShared (wsV RX2 49 RX3 yX3_holdersOf wsX3_holdersOf) := goodIn_app (goodIn_of _ (by decide +kernel)) ggX2_gatherShared_X3_holdersOf
theorem dX2_gatherShared_0 : decode cX2_gatherShared 0 = .ok (.aload_n 0, 1) := by decide +kernel
theorem dX2_gatherShared_1 : decode cX2_gatherShared 1 = .ok (.iconst 0, 1) := by decide +kernel
theorem dX2_gatherShared_2 : decode cX2_gatherShared 2 = .ok (.putfield 19, 3) := by decide +kernel
theorem dX2_gatherShared_5 : decode cX2_gatherShared 5 = .ok (.iconst 1, 1) := by decide +kernel
theorem dX2_gatherShared_6 : decode cX2_gatherShared 6 = .ok (.istore 4, 2) := by decide +kernel
theorem dX2_gatherShared_8 : decode cX2_gatherShared 8 = .ok (.iload 4, 2) := by decide +kernel
theorem dX2_gatherShared_10 : decode cX2_gatherShared 10 = .ok (.sipush 500, 3) := by decide +kernel
theorem dX2_gatherShared_13 : decode cX2_gatherShared 13 = .ok (.if_icmp .gt 67, 3) := by decide +kernel
theorem dX2_gatherShared_16 : decode cX2_gatherShared 16 = .ok (.aload_n 0, 1) := by decide +kernel
theorem dX2_gatherShared_17 : decode cX2_gatherShared 17 = .ok (.getfield 19, 3) := by decide +kernel
theorem dX2_gatherShared_20 : decode cX2_gatherShared 20 = .ok (.bipush 12, 2) := by decide +kernel
theorem dX2_gatherShared_22 : decode cX2_gatherShared 22 = .ok (.if_icmp .ge 58, 3) := by decide +kernel
theorem dX2_gatherShared_25 : decode cX2_gatherShared 25 = .ok (.aload_n 1, 1) := by decide +kernel
theorem dX2_gatherShared_26 : decode cX2_gatherShared 26 = .ok (.iload 4, 2) := by decide +kernel
theorem dX2_gatherShared_28 : decode cX2_gatherShared 28 = .ok (.invokevirtual 49, 3) := by decide +kernel
theorem dX2_gatherShared_31 : decode cX2_gatherShared 31 = .ok (.lstore 5, 2) := by decide +kernel
theorem dX2_gatherShared_33 : decode cX2_gatherShared 33 = .ok (.lload 5, 2) := by decide +kernel
theorem dX2_gatherShared_35 : decode cX2_gatherShared 35 = .ok (.lload_n 2, 1) := by decide +kernel
theorem dX2_gatherShared_36 : decode cX2_gatherShared 36 = .ok (.land, 1) := by decide +kernel
theorem dX2_gatherShared_37 : decode cX2_gatherShared 37 = .ok (.lload_n 2, 1) := by decide +kernel
theorem dX2_gatherShared_38 : decode cX2_gatherShared 38 = .ok (.lcmp, 1) := by decide +kernel
theorem dX2_gatherShared_39 : decode cX2_gatherShared 39 = .ok (.ifCond .ne 35, 3) := by decide +kernel
theorem dX2_gatherShared_42 : decode cX2_gatherShared 42 = .ok (.aload_n 0, 1) := by decide +kernel
theorem dX2_gatherShared_43 : decode cX2_gatherShared 43 = .ok (.getfield 9, 3) := by decide +kernel
theorem dX2_gatherShared_46 : decode cX2_gatherShared 46 = .ok (.aload_n 0, 1) := by decide +kernel
theorem dX2_gatherShared_47 : decode cX2_gatherShared 47 = .ok (.getfield 19, 3) := by decide +kernel
theorem dX2_gatherShared_50 : decode cX2_gatherShared 50 = .ok (.iload 4, 2) := by decide +kernel
theorem dX2_gatherShared_52 : decode cX2_gatherShared 52 = .ok (.iastore, 1) := by decide +kernel
theorem dX2_gatherShared_53 : decode cX2_gatherShared 53 = .ok (.aload_n 0, 1) := by decide +kernel
theorem dX2_gatherShared_54 : decode cX2_gatherShared 54 = .ok (.getfield 15, 3) := by decide +kernel
theorem dX2_gatherShared_57 : decode cX2_gatherShared 57 = .ok (.aload_n 0, 1) := by decide +kernel
theorem dX2_gatherShared_58 : decode cX2_gatherShared 58 = .ok (.getfield 19, 3) := by decide +kernel
theorem dX2_gatherShared_61 : decode cX2_gatherShared 61 = .ok (.lload 5, 2) := by decide +kernel
theorem dX2_gatherShared_63 : decode cX2_gatherShared 63 = .ok (.lastore, 1) := by decide +kernel
theorem dX2_gatherShared_64 : decode cX2_gatherShared 64 = .ok (.aload_n 0, 1) := by decide +kernel
theorem dX2_gatherShared_65 : decode cX2_gatherShared 65 = .ok (.dup, 1) := by decide +kernel
theorem dX2_gatherShared_66 : decode cX2_gatherShared 66 = .ok (.getfield 19, 3) := by decide +kernel
theorem dX2_gatherShared_69 : decode cX2_gatherShared 69 = .ok (.iconst 1, 1) := by decide +kernel
theorem dX2_gatherShared_70 : decode cX2_gatherShared 70 = .ok (.iadd, 1) := by decide +kernel
theorem dX2_gatherShared_71 : decode cX2_gatherShared 71 = .ok (.putfield 19, 3) := by decide +kernel
theorem dX2_gatherShared_74 : decode cX2_gatherShared 74 = .ok (.iinc 4 1, 3) := by decide +kernel
theorem dX2_gatherShared_77 : decode cX2_gatherShared 77 = .ok (.goto (-69), 3) := by decide +kernel
theorem dX2_gatherShared_80 : decode cX2_gatherShared 80 = .ok (.return_, 1) := by decide +kernel
theorem dX2_findOne_0 : decode cX2_findOne 0 = .ok (.iconst 0, 1) := by decide +kernel
theorem dX2_findOne_1 : decode cX2_findOne 1 = .ok (.istore_n 3, 1) := by decide +kernel
theorem dX2_findOne_2 : decode cX2_findOne 2 = .ok (.iload_n 3, 1) := by decide +kernel
theorem dX2_findOne_3 : decode cX2_findOne 3 = .ok (.aload_n 0, 1) := by decide +kernel
theorem dX2_findOne_4 : decode cX2_findOne 4 = .ok (.getfield 19, 3) := by decide +kernel
theorem dX2_findOne_7 : decode cX2_findOne 7 = .ok (.if_icmp .ge 39, 3) := by decide +kernel
theorem dX2_findOne_10 : decode cX2_findOne 10 = .ok (.aload_n 0, 1) := by decide +kernel
theorem dX2_findOne_11 : decode cX2_findOne 11 = .ok (.getfield 15, 3) := by decide +kernel
theorem dX2_findOne_14 : decode cX2_findOne 14 = .ok (.iload_n 3, 1) := by decide +kernel
theorem dX2_findOne_15 : decode cX2_findOne 15 = .ok (.laload, 1) := by decide +kernel
theorem dX2_findOne_16 : decode cX2_findOne 16 = .ok (.lload_n 1, 1) := by decide +kernel
theorem dX2_findOne_17 : decode cX2_findOne 17 = .ok (.lcmp, 1) := by decide +kernel
theorem dX2_findOne_18 : decode cX2_findOne 18 = .ok (.ifCond .ne 22, 3) := by decide +kernel
theorem dX2_findOne_21 : decode cX2_findOne 21 = .ok (.aload_n 0, 1) := by decide +kernel
theorem dX2_findOne_22 : decode cX2_findOne 22 = .ok (.getfield 23, 3) := by decide +kernel
theorem dX2_findOne_25 : decode cX2_findOne 25 = .ok (.iconst 0, 1) := by decide +kernel
theorem dX2_findOne_26 : decode cX2_findOne 26 = .ok (.aload_n 0, 1) := by decide +kernel
theorem dX2_findOne_27 : decode cX2_findOne 27 = .ok (.getfield 9, 3) := by decide +kernel
theorem dX2_findOne_30 : decode cX2_findOne 30 = .ok (.iload_n 3, 1) := by decide +kernel
theorem dX2_findOne_31 : decode cX2_findOne 31 = .ok (.iaload, 1) := by decide +kernel
theorem dX2_findOne_32 : decode cX2_findOne 32 = .ok (.iastore, 1) := by decide +kernel
theorem dX2_findOne_33 : decode cX2_findOne 33 = .ok (.aload_n 0, 1) := by decide +kernel
theorem dX2_findOne_34 : decode cX2_findOne 34 = .ok (.iconst 1, 1) := by decide +kernel
theorem dX2_findOne_35 : decode cX2_findOne 35 = .ok (.putfield 26, 3) := by decide +kernel
theorem dX2_findOne_38 : decode cX2_findOne 38 = .ok (.iconst 1, 1) := by decide +kernel
theorem dX2_findOne_39 : decode cX2_findOne 39 = .ok (.ireturn, 1) := by decide +kernel
theorem dX2_findOne_40 : decode cX2_findOne 40 = .ok (.iinc 3 1, 3) := by decide +kernel
theorem dX2_findOne_43 : decode cX2_findOne 43 = .ok (.goto (-41), 3) := by decide +kernel
theorem dX2_findOne_46 : decode cX2_findOne 46 = .ok (.iconst 0, 1) := by decide +kernel
theorem dX2_findOne_47 : decode cX2_findOne 47 = .ok (.ireturn, 1) := by decide +kernel
theorem dX2_findTwo_0 : decode cX2_findTwo 0 = .ok (.iconst 0, 1) := by decide +kernel
theorem dX2_findTwo_1 : decode cX2_findTwo 1 = .ok (.istore_n 3, 1) := by decide +kernel
theorem dX2_findTwo_2 : decode cX2_findTwo 2 = .ok (.iload_n 3, 1) := by decide +kernel
theorem dX2_findTwo_3 : decode cX2_findTwo 3 = .ok (.aload_n 0, 1) := by decide +kernel
theorem dX2_findTwo_4 : decode cX2_findTwo 4 = .ok (.getfield 19, 3) := by decide +kernel
theorem dX2_findTwo_7 : decode cX2_findTwo 7 = .ok (.if_icmp .ge 80, 3) := by decide +kernel
theorem dX2_findTwo_10 : decode cX2_findTwo 10 = .ok (.iload_n 3, 1) := by decide +kernel
theorem dX2_findTwo_11 : decode cX2_findTwo 11 = .ok (.iconst 1, 1) := by decide +kernel
theorem dX2_findTwo_12 : decode cX2_findTwo 12 = .ok (.iadd, 1) := by decide +kernel
theorem dX2_findTwo_13 : decode cX2_findTwo 13 = .ok (.istore 4, 2) := by decide +kernel
theorem dX2_findTwo_15 : decode cX2_findTwo 15 = .ok (.iload 4, 2) := by decide +kernel
theorem dX2_findTwo_17 : decode cX2_findTwo 17 = .ok (.aload_n 0, 1) := by decide +kernel
theorem dX2_findTwo_18 : decode cX2_findTwo 18 = .ok (.getfield 19, 3) := by decide +kernel
theorem dX2_findTwo_21 : decode cX2_findTwo 21 = .ok (.if_icmp .ge 60, 3) := by decide +kernel
theorem dX2_findTwo_24 : decode cX2_findTwo 24 = .ok (.aload_n 0, 1) := by decide +kernel
theorem dX2_findTwo_25 : decode cX2_findTwo 25 = .ok (.getfield 15, 3) := by decide +kernel
theorem dX2_findTwo_28 : decode cX2_findTwo 28 = .ok (.iload_n 3, 1) := by decide +kernel
theorem dX2_findTwo_29 : decode cX2_findTwo 29 = .ok (.laload, 1) := by decide +kernel
theorem dX2_findTwo_30 : decode cX2_findTwo 30 = .ok (.aload_n 0, 1) := by decide +kernel
theorem dX2_findTwo_31 : decode cX2_findTwo 31 = .ok (.getfield 15, 3) := by decide +kernel
theorem dX2_findTwo_34 : decode cX2_findTwo 34 = .ok (.iload 4, 2) := by decide +kernel
theorem dX2_findTwo_36 : decode cX2_findTwo 36 = .ok (.laload, 1) := by decide +kernel
theorem dX2_findTwo_37 : decode cX2_findTwo 37 = .ok (.land, 1) := by decide +kernel
theorem dX2_findTwo_38 : decode cX2_findTwo 38 = .ok (.lload_n 1, 1) := by decide +kernel
theorem dX2_findTwo_39 : decode cX2_findTwo 39 = .ok (.lcmp, 1) := by decide +kernel
theorem dX2_findTwo_40 : decode cX2_findTwo 40 = .ok (.ifCond .ne 35, 3) := by decide +kernel
theorem dX2_findTwo_43 : decode cX2_findTwo 43 = .ok (.aload_n 0, 1) := by decide +kernel
theorem dX2_findTwo_44 : decode cX2_findTwo 44 = .ok (.getfield 23, 3) := by decide +kernel
theorem dX2_findTwo_47 : decode cX2_findTwo 47 = .ok (.iconst 0, 1) := by decide +kernel
theorem dX2_findTwo_48 : decode cX2_findTwo 48 = .ok (.aload_n 0, 1) := by decide +kernel
theorem dX2_findTwo_49 : decode cX2_findTwo 49 = .ok (.getfield 9, 3) := by decide +kernel
theorem dX2_findTwo_52 : decode cX2_findTwo 52 = .ok (.iload_n 3, 1) := by decide +kernel
theorem dX2_findTwo_53 : decode cX2_findTwo 53 = .ok (.iaload, 1) := by decide +kernel
theorem dX2_findTwo_54 : decode cX2_findTwo 54 = .ok (.iastore, 1) := by decide +kernel
theorem dX2_findTwo_55 : decode cX2_findTwo 55 = .ok (.aload_n 0, 1) := by decide +kernel
theorem dX2_findTwo_56 : decode cX2_findTwo 56 = .ok (.getfield 23, 3) := by decide +kernel
theorem dX2_findTwo_59 : decode cX2_findTwo 59 = .ok (.iconst 1, 1) := by decide +kernel
theorem dX2_findTwo_60 : decode cX2_findTwo 60 = .ok (.aload_n 0, 1) := by decide +kernel
theorem dX2_findTwo_61 : decode cX2_findTwo 61 = .ok (.getfield 9, 3) := by decide +kernel
theorem dX2_findTwo_64 : decode cX2_findTwo 64 = .ok (.iload 4, 2) := by decide +kernel
theorem dX2_findTwo_66 : decode cX2_findTwo 66 = .ok (.iaload, 1) := by decide +kernel
theorem dX2_findTwo_67 : decode cX2_findTwo 67 = .ok (.iastore, 1) := by decide +kernel
theorem dX2_findTwo_68 : decode cX2_findTwo 68 = .ok (.aload_n 0, 1) := by decide +kernel
theorem dX2_findTwo_69 : decode cX2_findTwo 69 = .ok (.iconst 2, 1) := by decide +kernel
theorem dX2_findTwo_70 : decode cX2_findTwo 70 = .ok (.putfield 26, 3) := by decide +kernel
theorem dX2_findTwo_73 : decode cX2_findTwo 73 = .ok (.iconst 1, 1) := by decide +kernel
theorem dX2_findTwo_74 : decode cX2_findTwo 74 = .ok (.ireturn, 1) := by decide +kernel
theorem dX2_findTwo_75 : decode cX2_findTwo 75 = .ok (.iinc 4 1, 3) := by decide +kernel
theorem dX2_findTwo_78 : decode cX2_findTwo 78 = .ok (.goto (-63), 3) := by decide +kernel
theorem dX2_findTwo_81 : decode cX2_findTwo 81 = .ok (.iinc 3 1, 3) := by decide +kernel
theorem dX2_findTwo_84 : decode cX2_findTwo 84 = .ok (.goto (-82), 3) := by decide +kernel
theorem dX2_findTwo_87 : decode cX2_findTwo 87 = .ok (.iconst 0, 1) := by decide +kernel
theorem dX2_findTwo_88 : decode cX2_findTwo 88 = .ok (.ireturn, 1) := by decide +kernel
theorem dX2_findThree_0 : decode cX2_findThree 0 = .ok (.iconst 0, 1) := by decide +kernel
theorem dX2_findThree_1 : decode cX2_findThree 1 = .ok (.istore_n 3, 1) := by decide +kernel
theorem dX2_findThree_2 : decode cX2_findThree 2 = .ok (.iload_n 3, 1) := by decide +kernel
theorem dX2_findThree_3 : decode cX2_findThree 3 = .ok (.aload_n 0, 1) := by decide +kernel
theorem dX2_findThree_4 : decode cX2_findThree 4 = .ok (.getfield 19, 3) := by decide +kernel
theorem dX2_findThree_7 : decode cX2_findThree 7 = .ok (.if_icmp .ge 122, 3) := by decide +kernel
theorem dX2_findThree_10 : decode cX2_findThree 10 = .ok (.iload_n 3, 1) := by decide +kernel
theorem dX2_findThree_11 : decode cX2_findThree 11 = .ok (.iconst 1, 1) := by decide +kernel
theorem dX2_findThree_12 : decode cX2_findThree 12 = .ok (.iadd, 1) := by decide +kernel
theorem dX2_findThree_13 : decode cX2_findThree 13 = .ok (.istore 4, 2) := by decide +kernel
theorem dX2_findThree_15 : decode cX2_findThree 15 = .ok (.iload 4, 2) := by decide +kernel
theorem dX2_findThree_17 : decode cX2_findThree 17 = .ok (.aload_n 0, 1) := by decide +kernel
theorem dX2_findThree_18 : decode cX2_findThree 18 = .ok (.getfield 19, 3) := by decide +kernel
theorem dX2_findThree_21 : decode cX2_findThree 21 = .ok (.if_icmp .ge 102, 3) := by decide +kernel
theorem dX2_findThree_24 : decode cX2_findThree 24 = .ok (.iload 4, 2) := by decide +kernel
theorem dX2_findThree_26 : decode cX2_findThree 26 = .ok (.iconst 1, 1) := by decide +kernel
theorem dX2_findThree_27 : decode cX2_findThree 27 = .ok (.iadd, 1) := by decide +kernel
theorem dX2_findThree_28 : decode cX2_findThree 28 = .ok (.istore 5, 2) := by decide +kernel
theorem dX2_findThree_30 : decode cX2_findThree 30 = .ok (.iload 5, 2) := by decide +kernel
theorem dX2_findThree_32 : decode cX2_findThree 32 = .ok (.aload_n 0, 1) := by decide +kernel
theorem dX2_findThree_33 : decode cX2_findThree 33 = .ok (.getfield 19, 3) := by decide +kernel
theorem dX2_findThree_36 : decode cX2_findThree 36 = .ok (.if_icmp .ge 81, 3) := by decide +kernel
theorem dX2_findThree_39 : decode cX2_findThree 39 = .ok (.aload_n 0, 1) := by decide +kernel
theorem dX2_findThree_40 : decode cX2_findThree 40 = .ok (.getfield 15, 3) := by decide +kernel
theorem dX2_findThree_43 : decode cX2_findThree 43 = .ok (.iload_n 3, 1) := by decide +kernel
theorem dX2_findThree_44 : decode cX2_findThree 44 = .ok (.laload, 1) := by decide +kernel
theorem dX2_findThree_45 : decode cX2_findThree 45 = .ok (.aload_n 0, 1) := by decide +kernel
theorem dX2_findThree_46 : decode cX2_findThree 46 = .ok (.getfield 15, 3) := by decide +kernel
theorem dX2_findThree_49 : decode cX2_findThree 49 = .ok (.iload 4, 2) := by decide +kernel
theorem dX2_findThree_51 : decode cX2_findThree 51 = .ok (.laload, 1) := by decide +kernel
theorem dX2_findThree_52 : decode cX2_findThree 52 = .ok (.land, 1) := by decide +kernel
theorem dX2_findThree_53 : decode cX2_findThree 53 = .ok (.aload_n 0, 1) := by decide +kernel
theorem dX2_findThree_54 : decode cX2_findThree 54 = .ok (.getfield 15, 3) := by decide +kernel
theorem dX2_findThree_57 : decode cX2_findThree 57 = .ok (.iload 5, 2) := by decide +kernel
theorem dX2_findThree_59 : decode cX2_findThree 59 = .ok (.laload, 1) := by decide +kernel
theorem dX2_findThree_60 : decode cX2_findThree 60 = .ok (.land, 1) := by decide +kernel
theorem dX2_findThree_61 : decode cX2_findThree 61 = .ok (.lload_n 1, 1) := by decide +kernel
theorem dX2_findThree_62 : decode cX2_findThree 62 = .ok (.lcmp, 1) := by decide +kernel
theorem dX2_findThree_63 : decode cX2_findThree 63 = .ok (.ifCond .ne 48, 3) := by decide +kernel
theorem dX2_findThree_66 : decode cX2_findThree 66 = .ok (.aload_n 0, 1) := by decide +kernel
theorem dX2_findThree_67 : decode cX2_findThree 67 = .ok (.getfield 23, 3) := by decide +kernel
theorem dX2_findThree_70 : decode cX2_findThree 70 = .ok (.iconst 0, 1) := by decide +kernel
theorem dX2_findThree_71 : decode cX2_findThree 71 = .ok (.aload_n 0, 1) := by decide +kernel
theorem dX2_findThree_72 : decode cX2_findThree 72 = .ok (.getfield 9, 3) := by decide +kernel
theorem dX2_findThree_75 : decode cX2_findThree 75 = .ok (.iload_n 3, 1) := by decide +kernel
theorem dX2_findThree_76 : decode cX2_findThree 76 = .ok (.iaload, 1) := by decide +kernel
theorem dX2_findThree_77 : decode cX2_findThree 77 = .ok (.iastore, 1) := by decide +kernel
theorem dX2_findThree_78 : decode cX2_findThree 78 = .ok (.aload_n 0, 1) := by decide +kernel
theorem dX2_findThree_79 : decode cX2_findThree 79 = .ok (.getfield 23, 3) := by decide +kernel
theorem dX2_findThree_82 : decode cX2_findThree 82 = .ok (.iconst 1, 1) := by decide +kernel
theorem dX2_findThree_83 : decode cX2_findThree 83 = .ok (.aload_n 0, 1) := by decide +kernel
theorem dX2_findThree_84 : decode cX2_findThree 84 = .ok (.getfield 9, 3) := by decide +kernel
theorem dX2_findThree_87 : decode cX2_findThree 87 = .ok (.iload 4, 2) := by decide +kernel
theorem dX2_findThree_89 : decode cX2_findThree 89 = .ok (.iaload, 1) := by decide +kernel
theorem dX2_findThree_90 : decode cX2_findThree 90 = .ok (.iastore, 1) := by decide +kernel
theorem dX2_findThree_91 : decode cX2_findThree 91 = .ok (.aload_n 0, 1) := by decide +kernel
theorem dX2_findThree_92 : decode cX2_findThree 92 = .ok (.getfield 23, 3) := by decide +kernel
theorem dX2_findThree_95 : decode cX2_findThree 95 = .ok (.iconst 2, 1) := by decide +kernel
theorem dX2_findThree_96 : decode cX2_findThree 96 = .ok (.aload_n 0, 1) := by decide +kernel
theorem dX2_findThree_97 : decode cX2_findThree 97 = .ok (.getfield 9, 3) := by decide +kernel
theorem dX2_findThree_100 : decode cX2_findThree 100 = .ok (.iload 5, 2) := by decide +kernel
theorem dX2_findThree_102 : decode cX2_findThree 102 = .ok (.iaload, 1) := by decide +kernel
theorem dX2_findThree_103 : decode cX2_findThree 103 = .ok (.iastore, 1) := by decide +kernel
theorem dX2_findThree_104 : decode cX2_findThree 104 = .ok (.aload_n 0, 1) := by decide +kernel
theorem dX2_findThree_105 : decode cX2_findThree 105 = .ok (.iconst 3, 1) := by decide +kernel
theorem dX2_findThree_106 : decode cX2_findThree 106 = .ok (.putfield 26, 3) := by decide +kernel
theorem dX2_findThree_109 : decode cX2_findThree 109 = .ok (.iconst 1, 1) := by decide +kernel
theorem dX2_findThree_110 : decode cX2_findThree 110 = .ok (.ireturn, 1) := by decide +kernel
theorem dX2_findThree_111 : decode cX2_findThree 111 = .ok (.iinc 5 1, 3) := by decide +kernel
theorem dX2_findThree_114 : decode cX2_findThree 114 = .ok (.goto (-84), 3) := by decide +kernel
theorem dX2_findThree_117 : decode cX2_findThree 117 = .ok (.iinc 4 1, 3) := by decide +kernel
theorem dX2_findThree_120 : decode cX2_findThree 120 = .ok (.goto (-105), 3) := by decide +kernel
theorem dX2_findThree_123 : decode cX2_findThree 123 = .ok (.iinc 3 1, 3) := by decide +kernel
theorem dX2_findThree_126 : decode cX2_findThree 126 = .ok (.goto (-124), 3) := by decide +kernel
theorem dX2_findThree_129 : decode cX2_findThree 129 = .ok (.iconst 0, 1) := by decide +kernel
theorem dX2_findThree_130 : decode cX2_findThree 130 = .ok (.ireturn, 1) := by decide +kernel
theorem dX3_init_0 : decode cX3_init 0 = .ok (.aload_n 0, 1) := by decide +kernel
theorem dX3_init_1 : decode cX3_init 1 = .ok (.invokespecial 3, 3) := by decide +kernel
theorem dX3_init_4 : decode cX3_init 4 = .ok (.aload_n 0, 1) := by decide +kernel
theorem dX3_init_5 : decode cX3_init 5 = .ok (.bipush 40, 2) := by decide +kernel
theorem dX3_init_7 : decode cX3_init 7 = .ok (.bipush 12, 2) := by decide +kernel
theorem dX3_init_9 : decode cX3_init 9 = .ok (.multianewarray 9 2, 4) := by decide +kernel
theorem dX3_init_13 : decode cX3_init 13 = .ok (.putfield 11, 3) := by decide +kernel
theorem dX3_init_16 : decode cX3_init 16 = .ok (.aload_n 0, 1) := by decide +kernel
theorem dX3_init_17 : decode cX3_init 17 = .ok (.bipush 40, 2) := by decide +kernel
theorem dX3_init_19 : decode cX3_init 19 = .ok (.newarray .int, 2) := by decide +kernel
theorem dX3_init_21 : decode cX3_init 21 = .ok (.putfield 16, 3) := by decide +kernel
theorem dX3_init_24 : decode cX3_init 24 = .ok (.aload_n 0, 1) := by decide +kernel
theorem dX3_init_25 : decode cX3_init 25 = .ok (.bipush 40, 2) := by decide +kernel
theorem dX3_init_27 : decode cX3_init 27 = .ok (.newarray .int, 2) := by decide +kernel
theorem dX3_init_29 : decode cX3_init 29 = .ok (.putfield 20, 3) := by decide +kernel
theorem dX3_init_32 : decode cX3_init 32 = .ok (.aload_n 0, 1) := by decide +kernel
theorem dX3_init_33 : decode cX3_init 33 = .ok (.bipush 40, 2) := by decide +kernel
theorem dX3_init_35 : decode cX3_init 35 = .ok (.newarray .int, 2) := by decide +kernel
theorem dX3_init_37 : decode cX3_init 37 = .ok (.putfield 23, 3) := by decide +kernel
theorem dX3_init_40 : decode cX3_init 40 = .ok (.aload_n 0, 1) := by decide +kernel
theorem dX3_init_41 : decode cX3_init 41 = .ok (.sipush 501, 3) := by decide +kernel
theorem dX3_init_44 : decode cX3_init 44 = .ok (.newarray .long, 2) := by decide +kernel
theorem dX3_init_46 : decode cX3_init 46 = .ok (.putfield 26, 3) := by decide +kernel
theorem dX3_init_49 : decode cX3_init 49 = .ok (.aload_n 0, 1) := by decide +kernel
theorem dX3_init_50 : decode cX3_init 50 = .ok (.iconst 0, 1) := by decide +kernel
theorem dX3_init_51 : decode cX3_init 51 = .ok (.putfield 30, 3) := by decide +kernel
theorem dX3_init_54 : decode cX3_init 54 = .ok (.return_, 1) := by decide +kernel
theorem dX3_has_0 : decode cX3_has 0 = .ok (.iload_n 1, 1) := by decide +kernel
theorem dX3_has_1 : decode cX3_has 1 = .ok (.ifCond .lt 15, 3) := by decide +kernel
theorem dX3_has_4 : decode cX3_has 4 = .ok (.iload_n 1, 1) := by decide +kernel
theorem dX3_has_5 : decode cX3_has 5 = .ok (.aload_n 0, 1) := by decide +kernel
theorem dX3_has_6 : decode cX3_has 6 = .ok (.getfield 30, 3) := by decide +kernel
theorem dX3_has_9 : decode cX3_has 9 = .ok (.if_icmp .ge 7, 3) := by decide +kernel
theorem dX3_has_12 : decode cX3_has 12 = .ok (.iconst 1, 1) := by decide +kernel
theorem dX3_has_13 : decode cX3_has 13 = .ok (.goto 4, 3) := by decide +kernel
theorem dX3_has_16 : decode cX3_has 16 = .ok (.iconst 0, 1) := by decide +kernel
theorem dX3_has_17 : decode cX3_has 17 = .ok (.ireturn, 1) := by decide +kernel
set_option maxRecDepth 20000 in
theorem ggX3_hasTwo_X3_has : GoodIn wsX3_hasTwo wsX3_has := goodIn_r _ [5, 6, 7, 8, 9, 10, 11, 12] (by decide +kernel) (by decide +kernel)
set_option maxRecDepth 20000 in
theorem gX3_hasTwo_X3_has : GoodIn wsX3_hasTwo (wsV RX3 34 RX3 yX3_has wsX3_has) := goodIn_app (goodIn_of _ (by decide +kernel)) ggX3_hasTwo_X3_has
theorem dX3_hasTwo_0 : decode cX3_hasTwo 0 = .ok (.aload_n 0, 1) := by decide +kernel
theorem dX3_hasTwo_1 : decode cX3_hasTwo 1 = .ok (.iload_n 1, 1) := by decide +kernel
theorem dX3_hasTwo_2 : decode cX3_hasTwo 2 = .ok (.invokevirtual 34, 3) := by decide +kernel
theorem dX3_hasTwo_5 : decode cX3_hasTwo 5 = .ok (.ifCond .eq 20, 3) := by decide +kernel
theorem dX3_hasTwo_8 : decode cX3_hasTwo 8 = .ok (.aload_n 0, 1) := by decide +kernel
theorem dX3_hasTwo_9 : decode cX3_hasTwo 9 = .ok (.iload_n 2, 1) := by decide +kernel
theorem dX3_hasTwo_10 : decode cX3_hasTwo 10 = .ok (.invokevirtual 34, 3) := by decide +kernel
theorem dX3_hasTwo_13 : decode cX3_hasTwo 13 = .ok (.ifCond .eq 12, 3) := by decide +kernel
theorem dX3_hasTwo_16 : decode cX3_hasTwo 16 = .ok (.iload_n 1, 1) := by decide +kernel
theorem dX3_hasTwo_17 : decode cX3_hasTwo 17 = .ok (.iload_n 2, 1) := by decide +kernel
theorem dX3_hasTwo_18 : decode cX3_hasTwo 18 = .ok (.if_icmp .eq 7, 3) := by decide +kernel
theorem dX3_hasTwo_21 : decode cX3_hasTwo 21 = .ok (.iconst 1, 1) := by decide +kernel
theorem dX3_hasTwo_22 : decode cX3_hasTwo 22 = .ok (.goto 4, 3) := by decide +kernel
theorem dX3_hasTwo_25 : decode cX3_hasTwo 25 = .ok (.iconst 0, 1) := by decide +kernel
theorem dX3_hasTwo_26 : decode cX3_hasTwo 26 = .ok (.ireturn, 1) := by decide +kernel
set_option maxRecDepth 20000 in
theorem ggX3_hasFrame_X3_has : GoodIn wsX3_hasFrame wsX3_has := goodIn_r _ [6, 7, 8, 9, 10, 11, 12, 13] (by decide +kernel) (by decide +kernel)
set_option maxRecDepth 20000 in
theorem gX3_hasFrame_X3_has : GoodIn wsX3_hasFrame (wsV RX3 34 RX3 yX3_has wsX3_has) := goodIn_app (goodIn_of _ (by decide +kernel)) ggX3_hasFrame_X3_has
theorem dX3_hasFrame_0 : decode cX3_hasFrame 0 = .ok (.aload_n 0, 1) := by decide +kernel
theorem dX3_hasFrame_1 : decode cX3_hasFrame 1 = .ok (.iload_n 1, 1) := by decide +kernel
theorem dX3_hasFrame_2 : decode cX3_hasFrame 2 = .ok (.invokevirtual 34, 3) := by decide +kernel
theorem dX3_hasFrame_5 : decode cX3_hasFrame 5 = .ok (.ifCond .eq 21, 3) := by decide +kernel
theorem dX3_hasFrame_8 : decode cX3_hasFrame 8 = .ok (.iload_n 2, 1) := by decide +kernel
theorem dX3_hasFrame_9 : decode cX3_hasFrame 9 = .ok (.ifCond .lt 17, 3) := by decide +kernel
theorem dX3_hasFrame_12 : decode cX3_hasFrame 12 = .ok (.iload_n 2, 1) := by decide +kernel
theorem dX3_hasFrame_13 : decode cX3_hasFrame 13 = .ok (.aload_n 0, 1) := by decide +kernel
theorem dX3_hasFrame_14 : decode cX3_hasFrame 14 = .ok (.getfield 16, 3) := by decide +kernel
theorem dX3_hasFrame_17 : decode cX3_hasFrame 17 = .ok (.iload_n 1, 1) := by decide +kernel
theorem dX3_hasFrame_18 : decode cX3_hasFrame 18 = .ok (.iaload, 1) := by decide +kernel
theorem dX3_hasFrame_19 : decode cX3_hasFrame 19 = .ok (.if_icmp .ge 7, 3) := by decide +kernel
theorem dX3_hasFrame_22 : decode cX3_hasFrame 22 = .ok (.iconst 1, 1) := by decide +kernel
theorem dX3_hasFrame_23 : decode cX3_hasFrame 23 = .ok (.goto 4, 3) := by decide +kernel
theorem dX3_hasFrame_26 : decode cX3_hasFrame 26 = .ok (.iconst 0, 1) := by decide +kernel
theorem dX3_hasFrame_27 : decode cX3_hasFrame 27 = .ok (.ireturn, 1) := by decide +kernel
theorem dX3_isFull_0 : decode cX3_isFull 0 = .ok (.aload_n 0, 1) := by decide +kernel
theorem dX3_isFull_1 : decode cX3_isFull 1 = .ok (.getfield 30, 3) := by decide +kernel
theorem dX3_isFull_4 : decode cX3_isFull 4 = .ok (.bipush 40, 2) := by decide +kernel
theorem dX3_isFull_6 : decode cX3_isFull 6 = .ok (.if_icmp .lt 7, 3) := by decide +kernel
theorem dX3_isFull_9 : decode cX3_isFull 9 = .ok (.iconst 1, 1) := by decide +kernel
theorem dX3_isFull_10 : decode cX3_isFull 10 = .ok (.goto 4, 3) := by decide +kernel
theorem dX3_isFull_13 : decode cX3_isFull 13 = .ok (.iconst 0, 1) := by decide +kernel
theorem dX3_isFull_14 : decode cX3_isFull 14 = .ok (.ireturn, 1) := by decide +kernel
theorem dX3_howMany_0 : decode cX3_howMany 0 = .ok (.aload_n 0, 1) := by decide +kernel
theorem dX3_howMany_1 : decode cX3_howMany 1 = .ok (.getfield 30, 3) := by decide +kernel
theorem dX3_howMany_4 : decode cX3_howMany 4 = .ok (.ireturn, 1) := by decide +kernel
set_option maxRecDepth 20000 in
theorem ggX3_add_X4_howMany : GoodIn wsX3_add wsX4_howMany := goodIn_r _ [11, 12, 24, 25] (by decide +kernel) (by decide +kernel)
set_option maxRecDepth 20000 in
theorem gX3_add_X4_howMany : GoodIn wsX3_add (wsV RX3 38 RX4 yX4_howMany wsX4_howMany) := goodIn_app (goodIn_of _ (by decide +kernel)) ggX3_add_X4_howMany
set_option maxRecDepth 20000 in
theorem ggX3_add_X4_at : GoodIn wsX3_add wsX4_at := goodIn_r _ [16, 17, 24, 25] (by decide +kernel) (by decide +kernel)
set_option maxRecDepth 20000 in
theorem gX3_add_X4_at : GoodIn wsX3_add (wsV RX3 44 RX4 yX4_at wsX4_at) := goodIn_app (goodIn_of _ (by decide +kernel)) ggX3_add_X4_at
theorem dX3_add_0 : decode cX3_add 0 = .ok (.aload_n 0, 1) := by decide +kernel
theorem dX3_add_1 : decode cX3_add 1 = .ok (.getfield 30, 3) := by decide +kernel
theorem dX3_add_4 : decode cX3_add 4 = .ok (.istore_n 3, 1) := by decide +kernel
theorem dX3_add_5 : decode cX3_add 5 = .ok (.aload_n 0, 1) := by decide +kernel
theorem dX3_add_6 : decode cX3_add 6 = .ok (.getfield 16, 3) := by decide +kernel
theorem dX3_add_9 : decode cX3_add 9 = .ok (.iload_n 3, 1) := by decide +kernel
theorem dX3_add_10 : decode cX3_add 10 = .ok (.aload_n 1, 1) := by decide +kernel
theorem dX3_add_11 : decode cX3_add 11 = .ok (.invokevirtual 38, 3) := by decide +kernel
theorem dX3_add_14 : decode cX3_add 14 = .ok (.iastore, 1) := by decide +kernel
theorem dX3_add_15 : decode cX3_add 15 = .ok (.iconst 0, 1) := by decide +kernel
theorem dX3_add_16 : decode cX3_add 16 = .ok (.istore 4, 2) := by decide +kernel
theorem dX3_add_18 : decode cX3_add 18 = .ok (.iload 4, 2) := by decide +kernel
theorem dX3_add_20 : decode cX3_add 20 = .ok (.aload_n 1, 1) := by decide +kernel
theorem dX3_add_21 : decode cX3_add 21 = .ok (.invokevirtual 38, 3) := by decide +kernel
theorem dX3_add_24 : decode cX3_add 24 = .ok (.if_icmp .ge 41, 3) := by decide +kernel
theorem dX3_add_27 : decode cX3_add 27 = .ok (.aload_n 1, 1) := by decide +kernel
theorem dX3_add_28 : decode cX3_add 28 = .ok (.iload 4, 2) := by decide +kernel
theorem dX3_add_30 : decode cX3_add 30 = .ok (.invokevirtual 44, 3) := by decide +kernel
theorem dX3_add_33 : decode cX3_add 33 = .ok (.istore 5, 2) := by decide +kernel
theorem dX3_add_35 : decode cX3_add 35 = .ok (.aload_n 0, 1) := by decide +kernel
theorem dX3_add_36 : decode cX3_add 36 = .ok (.getfield 11, 3) := by decide +kernel
theorem dX3_add_39 : decode cX3_add 39 = .ok (.iload_n 3, 1) := by decide +kernel
theorem dX3_add_40 : decode cX3_add 40 = .ok (.aaload, 1) := by decide +kernel
theorem dX3_add_41 : decode cX3_add 41 = .ok (.iload 4, 2) := by decide +kernel
theorem dX3_add_43 : decode cX3_add 43 = .ok (.iload 5, 2) := by decide +kernel
theorem dX3_add_45 : decode cX3_add 45 = .ok (.iastore, 1) := by decide +kernel
theorem dX3_add_46 : decode cX3_add 46 = .ok (.aload_n 0, 1) := by decide +kernel
theorem dX3_add_47 : decode cX3_add 47 = .ok (.getfield 26, 3) := by decide +kernel
theorem dX3_add_50 : decode cX3_add 50 = .ok (.iload 5, 2) := by decide +kernel
theorem dX3_add_52 : decode cX3_add 52 = .ok (.dup2, 1) := by decide +kernel
theorem dX3_add_53 : decode cX3_add 53 = .ok (.laload, 1) := by decide +kernel
theorem dX3_add_54 : decode cX3_add 54 = .ok (.lconst 1, 1) := by decide +kernel
theorem dX3_add_55 : decode cX3_add 55 = .ok (.iload_n 3, 1) := by decide +kernel
theorem dX3_add_56 : decode cX3_add 56 = .ok (.lshl, 1) := by decide +kernel
theorem dX3_add_57 : decode cX3_add 57 = .ok (.lor, 1) := by decide +kernel
theorem dX3_add_58 : decode cX3_add 58 = .ok (.lastore, 1) := by decide +kernel
theorem dX3_add_59 : decode cX3_add 59 = .ok (.iinc 4 1, 3) := by decide +kernel
theorem dX3_add_62 : decode cX3_add 62 = .ok (.goto (-44), 3) := by decide +kernel
theorem dX3_add_65 : decode cX3_add 65 = .ok (.aload_n 0, 1) := by decide +kernel
theorem dX3_add_66 : decode cX3_add 66 = .ok (.getfield 20, 3) := by decide +kernel
theorem dX3_add_69 : decode cX3_add 69 = .ok (.iload_n 3, 1) := by decide +kernel
theorem dX3_add_70 : decode cX3_add 70 = .ok (.iload_n 2, 1) := by decide +kernel
theorem dX3_add_71 : decode cX3_add 71 = .ok (.iastore, 1) := by decide +kernel
theorem dX3_add_72 : decode cX3_add 72 = .ok (.aload_n 0, 1) := by decide +kernel
theorem dX3_add_73 : decode cX3_add 73 = .ok (.getfield 23, 3) := by decide +kernel
theorem dX3_add_76 : decode cX3_add 76 = .ok (.iload_n 3, 1) := by decide +kernel
theorem dX3_add_77 : decode cX3_add 77 = .ok (.iconst (-1), 1) := by decide +kernel
theorem dX3_add_78 : decode cX3_add 78 = .ok (.iastore, 1) := by decide +kernel
theorem dX3_add_79 : decode cX3_add 79 = .ok (.aload_n 0, 1) := by decide +kernel
theorem dX3_add_80 : decode cX3_add 80 = .ok (.dup, 1) := by decide +kernel
theorem dX3_add_81 : decode cX3_add 81 = .ok (.getfield 30, 3) := by decide +kernel
theorem dX3_add_84 : decode cX3_add 84 = .ok (.iconst 1, 1) := by decide +kernel
theorem dX3_add_85 : decode cX3_add 85 = .ok (.iadd, 1) := by decide +kernel
theorem dX3_add_86 : decode cX3_add 86 = .ok (.putfield 30, 3) := by decide +kernel
theorem dX3_add_89 : decode cX3_add 89 = .ok (.iload_n 3, 1) := by decide +kernel
theorem dX3_add_90 : decode cX3_add 90 = .ok (.ireturn, 1) := by decide +kernel
theorem dX3_frameAt_0 : decode cX3_frameAt 0 = .ok (.aload_n 0, 1) := by decide +kernel
theorem dX3_frameAt_1 : decode cX3_frameAt 1 = .ok (.getfield 11, 3) := by decide +kernel
theorem dX3_frameAt_4 : decode cX3_frameAt 4 = .ok (.iload_n 1, 1) := by decide +kernel
theorem dX3_frameAt_5 : decode cX3_frameAt 5 = .ok (.aaload, 1) := by decide +kernel
theorem dX3_frameAt_6 : decode cX3_frameAt 6 = .ok (.iload_n 2, 1) := by decide +kernel
theorem dX3_frameAt_7 : decode cX3_frameAt 7 = .ok (.iaload, 1) := by decide +kernel
theorem dX3_frameAt_8 : decode cX3_frameAt 8 = .ok (.ireturn, 1) := by decide +kernel
theorem dX3_lengthOf_0 : decode cX3_lengthOf 0 = .ok (.aload_n 0, 1) := by decide +kernel
theorem dX3_lengthOf_1 : decode cX3_lengthOf 1 = .ok (.getfield 16, 3) := by decide +kernel
theorem dX3_lengthOf_4 : decode cX3_lengthOf 4 = .ok (.iload_n 1, 1) := by decide +kernel
theorem dX3_lengthOf_5 : decode cX3_lengthOf 5 = .ok (.iaload, 1) := by decide +kernel
theorem dX3_lengthOf_6 : decode cX3_lengthOf 6 = .ok (.ireturn, 1) := by decide +kernel
theorem dX3_versionOf_0 : decode cX3_versionOf 0 = .ok (.aload_n 0, 1) := by decide +kernel
theorem dX3_versionOf_1 : decode cX3_versionOf 1 = .ok (.getfield 20, 3) := by decide +kernel
theorem dX3_versionOf_4 : decode cX3_versionOf 4 = .ok (.iload_n 1, 1) := by decide +kernel
theorem dX3_versionOf_5 : decode cX3_versionOf 5 = .ok (.iaload, 1) := by decide +kernel
theorem dX3_versionOf_6 : decode cX3_versionOf 6 = .ok (.ireturn, 1) := by decide +kernel
theorem dX3_fixedAt_0 : decode cX3_fixedAt 0 = .ok (.aload_n 0, 1) := by decide +kernel
theorem dX3_fixedAt_1 : decode cX3_fixedAt 1 = .ok (.getfield 23, 3) := by decide +kernel
theorem dX3_fixedAt_4 : decode cX3_fixedAt 4 = .ok (.iload_n 1, 1) := by decide +kernel
theorem dX3_fixedAt_5 : decode cX3_fixedAt 5 = .ok (.iaload, 1) := by decide +kernel
theorem dX3_fixedAt_6 : decode cX3_fixedAt 6 = .ok (.ireturn, 1) := by decide +kernel
theorem dX3_setFixedAt_0 : decode cX3_setFixedAt 0 = .ok (.aload_n 0, 1) := by decide +kernel
theorem dX3_setFixedAt_1 : decode cX3_setFixedAt 1 = .ok (.getfield 23, 3) := by decide +kernel
theorem dX3_setFixedAt_4 : decode cX3_setFixedAt 4 = .ok (.iload_n 1, 1) := by decide +kernel
theorem dX3_setFixedAt_5 : decode cX3_setFixedAt 5 = .ok (.iload_n 2, 1) := by decide +kernel
theorem dX3_setFixedAt_6 : decode cX3_setFixedAt 6 = .ok (.iastore, 1) := by decide +kernel
theorem dX3_setFixedAt_7 : decode cX3_setFixedAt 7 = .ok (.return_, 1) := by decide +kernel
theorem dX3_holdersOf_0 : decode cX3_holdersOf 0 = .ok (.aload_n 0, 1) := by decide +kernel
theorem dX3_holdersOf_1 : decode cX3_holdersOf 1 = .ok (.getfield 26, 3) := by decide +kernel
theorem dX3_holdersOf_4 : decode cX3_holdersOf 4 = .ok (.iload_n 1, 1) := by decide +kernel
theorem dX3_holdersOf_5 : decode cX3_holdersOf 5 = .ok (.laload, 1) := by decide +kernel
theorem dX3_holdersOf_6 : decode cX3_holdersOf 6 = .ok (.lreturn, 1) := by decide +kernel
set_option maxRecDepth 20000 in
theorem ggX3_isCommon_J13_bitCount_95d88 : GoodIn wsX3_isCommon wsJ13_bitCount_95d88 := goodIn_r _ [6, 7, 8, 9] (by decide +kernel) (by decide +kernel)
set_option maxRecDepth 20000 in
theorem gX3_isCommon_J13_bitCount_95d88 : GoodIn wsX3_isCommon (va_wsS RX3 48 yJ13_bitCount_95d88 wsJ13_bitCount_95d88) := goodIn_app (goodIn_of _ (by decide +kernel)) ggX3_isCommon_J13_bitCount_95d88
theorem dX3_isCommon_0 : decode cX3_isCommon 0 = .ok (.iload_n 1, 1) := by decide +kernel
theorem dX3_isCommon_1 : decode cX3_isCommon 1 = .ok (.ifCond .le 18, 3) := by decide +kernel
theorem dX3_isCommon_4 : decode cX3_isCommon 4 = .ok (.iload_n 1, 1) := by decide +kernel
theorem dX3_isCommon_5 : decode cX3_isCommon 5 = .ok (.sipush 500, 3) := by decide +kernel
theorem dX3_isCommon_8 : decode cX3_isCommon 8 = .ok (.if_icmp .gt 11, 3) := by decide +kernel
theorem dX3_isCommon_11 : decode cX3_isCommon 11 = .ok (.aload_n 0, 1) := by decide +kernel
theorem dX3_isCommon_12 : decode cX3_isCommon 12 = .ok (.getfield 30, 3) := by decide +kernel
theorem dX3_isCommon_15 : decode cX3_isCommon 15 = .ok (.iconst 5, 1) := by decide +kernel
theorem dX3_isCommon_16 : decode cX3_isCommon 16 = .ok (.if_icmp .ge 5, 3) := by decide +kernel
theorem dX3_isCommon_19 : decode cX3_isCommon 19 = .ok (.iconst 0, 1) := by decide +kernel
theorem dX3_isCommon_20 : decode cX3_isCommon 20 = .ok (.ireturn, 1) := by decide +kernel
theorem dX3_isCommon_21 : decode cX3_isCommon 21 = .ok (.iconst 5, 1) := by decide +kernel
theorem dX3_isCommon_22 : decode cX3_isCommon 22 = .ok (.aload_n 0, 1) := by decide +kernel
theorem dX3_isCommon_23 : decode cX3_isCommon 23 = .ok (.getfield 26, 3) := by decide +kernel
theorem dX3_isCommon_26 : decode cX3_isCommon 26 = .ok (.iload_n 1, 1) := by decide +kernel
theorem dX3_isCommon_27 : decode cX3_isCommon 27 = .ok (.laload, 1) := by decide +kernel
theorem dX3_isCommon_28 : decode cX3_isCommon 28 = .ok (.invokestatic 48, 3) := by decide +kernel
theorem dX3_isCommon_31 : decode cX3_isCommon 31 = .ok (.imul, 1) := by decide +kernel
theorem dX3_isCommon_32 : decode cX3_isCommon 32 = .ok (.iconst 4, 1) := by decide +kernel
theorem dX3_isCommon_33 : decode cX3_isCommon 33 = .ok (.aload_n 0, 1) := by decide +kernel
theorem dX3_isCommon_34 : decode cX3_isCommon 34 = .ok (.getfield 30, 3) := by decide +kernel
theorem dX3_isCommon_37 : decode cX3_isCommon 37 = .ok (.imul, 1) := by decide +kernel
theorem dX3_isCommon_38 : decode cX3_isCommon 38 = .ok (.if_icmp .lt 7, 3) := by decide +kernel
theorem dX3_isCommon_41 : decode cX3_isCommon 41 = .ok (.iconst 1, 1) := by decide +kernel
theorem dX3_isCommon_42 : decode cX3_isCommon 42 = .ok (.goto 4, 3) := by decide +kernel
theorem dX3_isCommon_45 : decode cX3_isCommon 45 = .ok (.iconst 0, 1) := by decide +kernel
theorem dX3_isCommon_46 : decode cX3_isCommon 46 = .ok (.ireturn, 1) := by decide +kernel
set_option maxRecDepth 20000 in
theorem ggX3_howManyCommon_X3_isCommon : GoodIn wsX3_howManyCommon wsX3_isCommon := goodIn_r _ [5, 6, 7, 8, 9, 10, 11, 12, 13, 14, 15, 16, 17, 18, 19, 20] (by decide +kernel) (by decide +kernel)
set_option maxRecDepth 20000 in
theorem gX3_howManyCommon_X3_isCommon : GoodIn wsX3_howManyCommon (wsV RX3 54 RX3 yX3_isCommon wsX3_isCommon) := goodIn_app (goodIn_of _ (by decide +kernel)) ggX3_howManyCommon_X3_isCommon
theorem dX3_howManyCommon_0 : decode cX3_howManyCommon 0 = .ok (.iconst 0, 1) := by decide +kernel
theorem dX3_howManyCommon_1 : decode cX3_howManyCommon 1 = .ok (.istore_n 1, 1) := by decide +kernel
theorem dX3_howManyCommon_2 : decode cX3_howManyCommon 2 = .ok (.iconst 1, 1) := by decide +kernel
theorem dX3_howManyCommon_3 : decode cX3_howManyCommon 3 = .ok (.istore_n 2, 1) := by decide +kernel
theorem dX3_howManyCommon_4 : decode cX3_howManyCommon 4 = .ok (.iload_n 2, 1) := by decide +kernel
theorem dX3_howManyCommon_5 : decode cX3_howManyCommon 5 = .ok (.sipush 500, 3) := by decide +kernel
theorem dX3_howManyCommon_8 : decode cX3_howManyCommon 8 = .ok (.if_icmp .gt 20, 3) := by decide +kernel
theorem dX3_howManyCommon_11 : decode cX3_howManyCommon 11 = .ok (.aload_n 0, 1) := by decide +kernel
theorem dX3_howManyCommon_12 : decode cX3_howManyCommon 12 = .ok (.iload_n 2, 1) := by decide +kernel
theorem dX3_howManyCommon_13 : decode cX3_howManyCommon 13 = .ok (.invokevirtual 54, 3) := by decide +kernel
theorem dX3_howManyCommon_16 : decode cX3_howManyCommon 16 = .ok (.ifCond .eq 6, 3) := by decide +kernel
theorem dX3_howManyCommon_19 : decode cX3_howManyCommon 19 = .ok (.iinc 1 1, 3) := by decide +kernel
theorem dX3_howManyCommon_22 : decode cX3_howManyCommon 22 = .ok (.iinc 2 1, 3) := by decide +kernel
theorem dX3_howManyCommon_25 : decode cX3_howManyCommon 25 = .ok (.goto (-21), 3) := by decide +kernel
theorem dX3_howManyCommon_28 : decode cX3_howManyCommon 28 = .ok (.iload_n 1, 1) := by decide +kernel
theorem dX3_howManyCommon_29 : decode cX3_howManyCommon 29 = .ok (.ireturn, 1) := by decide +kernel
theorem dX4_init_0 : decode cX4_init 0 = .ok (.aload_n 0, 1) := by decide +kernel
theorem dX4_init_1 : decode cX4_init 1 = .ok (.invokespecial 3, 3) := by decide +kernel
theorem dX4_init_4 : decode cX4_init 4 = .ok (.aload_n 0, 1) := by decide +kernel
theorem dX4_init_5 : decode cX4_init 5 = .ok (.bipush 12, 2) := by decide +kernel
theorem dX4_init_7 : decode cX4_init 7 = .ok (.newarray .int, 2) := by decide +kernel
theorem dX4_init_9 : decode cX4_init 9 = .ok (.putfield 9, 3) := by decide +kernel
theorem dX4_init_12 : decode cX4_init 12 = .ok (.aload_n 0, 1) := by decide +kernel
theorem dX4_init_13 : decode cX4_init 13 = .ok (.iconst 0, 1) := by decide +kernel
theorem dX4_init_14 : decode cX4_init 14 = .ok (.putfield 15, 3) := by decide +kernel
theorem dX4_init_17 : decode cX4_init 17 = .ok (.return_, 1) := by decide +kernel
theorem dX4_put_0 : decode cX4_put 0 = .ok (.iload_n 1, 1) := by decide +kernel
theorem dX4_put_1 : decode cX4_put 1 = .ok (.ifCond .lt 19, 3) := by decide +kernel
theorem dX4_put_4 : decode cX4_put 4 = .ok (.iload_n 1, 1) := by decide +kernel
theorem dX4_put_5 : decode cX4_put 5 = .ok (.sipush 500, 3) := by decide +kernel
theorem dX4_put_8 : decode cX4_put 8 = .ok (.if_icmp .gt 12, 3) := by decide +kernel
theorem dX4_put_11 : decode cX4_put 11 = .ok (.aload_n 0, 1) := by decide +kernel
theorem dX4_put_12 : decode cX4_put 12 = .ok (.getfield 15, 3) := by decide +kernel
theorem dX4_put_15 : decode cX4_put 15 = .ok (.bipush 12, 2) := by decide +kernel
theorem dX4_put_17 : decode cX4_put 17 = .ok (.if_icmp .lt 5, 3) := by decide +kernel
theorem dX4_put_20 : decode cX4_put 20 = .ok (.iconst (-1), 1) := by decide +kernel
theorem dX4_put_21 : decode cX4_put 21 = .ok (.ireturn, 1) := by decide +kernel
theorem dX4_put_22 : decode cX4_put 22 = .ok (.aload_n 0, 1) := by decide +kernel
theorem dX4_put_23 : decode cX4_put 23 = .ok (.getfield 9, 3) := by decide +kernel
theorem dX4_put_26 : decode cX4_put 26 = .ok (.aload_n 0, 1) := by decide +kernel
theorem dX4_put_27 : decode cX4_put 27 = .ok (.getfield 15, 3) := by decide +kernel
theorem dX4_put_30 : decode cX4_put 30 = .ok (.iload_n 1, 1) := by decide +kernel
theorem dX4_put_31 : decode cX4_put 31 = .ok (.iastore, 1) := by decide +kernel
theorem dX4_put_32 : decode cX4_put 32 = .ok (.aload_n 0, 1) := by decide +kernel
theorem dX4_put_33 : decode cX4_put 33 = .ok (.dup, 1) := by decide +kernel
theorem dX4_put_34 : decode cX4_put 34 = .ok (.getfield 15, 3) := by decide +kernel
theorem dX4_put_37 : decode cX4_put 37 = .ok (.iconst 1, 1) := by decide +kernel
theorem dX4_put_38 : decode cX4_put 38 = .ok (.iadd, 1) := by decide +kernel
theorem dX4_put_39 : decode cX4_put 39 = .ok (.putfield 15, 3) := by decide +kernel
theorem dX4_put_42 : decode cX4_put 42 = .ok (.aload_n 0, 1) := by decide +kernel
theorem dX4_put_43 : decode cX4_put 43 = .ok (.getfield 15, 3) := by decide +kernel
theorem dX4_put_46 : decode cX4_put 46 = .ok (.ireturn, 1) := by decide +kernel
theorem dX4_isEmpty_0 : decode cX4_isEmpty 0 = .ok (.aload_n 0, 1) := by decide +kernel
theorem dX4_isEmpty_1 : decode cX4_isEmpty 1 = .ok (.getfield 15, 3) := by decide +kernel
theorem dX4_isEmpty_4 : decode cX4_isEmpty 4 = .ok (.ifCond .ne 7, 3) := by decide +kernel
theorem dX4_isEmpty_7 : decode cX4_isEmpty 7 = .ok (.iconst 1, 1) := by decide +kernel
theorem dX4_isEmpty_8 : decode cX4_isEmpty 8 = .ok (.goto 4, 3) := by decide +kernel
theorem dX4_isEmpty_11 : decode cX4_isEmpty 11 = .ok (.iconst 0, 1) := by decide +kernel
theorem dX4_isEmpty_12 : decode cX4_isEmpty 12 = .ok (.ireturn, 1) := by decide +kernel
theorem dX4_howMany_0 : decode cX4_howMany 0 = .ok (.aload_n 0, 1) := by decide +kernel
theorem dX4_howMany_1 : decode cX4_howMany 1 = .ok (.getfield 15, 3) := by decide +kernel
theorem dX4_howMany_4 : decode cX4_howMany 4 = .ok (.ireturn, 1) := by decide +kernel
theorem dX4_at_0 : decode cX4_at 0 = .ok (.aload_n 0, 1) := by decide +kernel
theorem dX4_at_1 : decode cX4_at 1 = .ok (.getfield 9, 3) := by decide +kernel
theorem dX4_at_4 : decode cX4_at 4 = .ok (.iload_n 1, 1) := by decide +kernel
theorem dX4_at_5 : decode cX4_at 5 = .ok (.iaload, 1) := by decide +kernel
theorem dX4_at_6 : decode cX4_at 6 = .ok (.ireturn, 1) := by decide +kernel
theorem dX4_clear_0 : decode cX4_clear 0 = .ok (.aload_n 0, 1) := by decide +kernel
theorem dX4_clear_1 : decode cX4_clear 1 = .ok (.iconst 0, 1) := by decide +kernel
theorem dX4_clear_2 : decode cX4_clear 2 = .ok (.putfield 15, 3) := by decide +kernel
theorem dX4_clear_5 : decode cX4_clear 5 = .ok (.return_, 1) := by decide +kernel
set_option maxRecDepth 20000 in
theorem ggX4_fold_X4_foldOnce : GoodIn wsX4_fold wsX4_foldOnce := goodIn_r _ [5, 6, 7, 8, 9, 4, 10, 11, 12, 13, 14, 15, 16, 17] (by decide +kernel) (by decide +kernel)
set_option maxRecDepth 20000 in
theorem gX4_fold_X4_foldOnce : GoodIn wsX4_fold (wsV RX4 19 RX4 yX4_foldOnce wsX4_foldOnce) := goodIn_app (goodIn_of _ (by decide +kernel)) ggX4_fold_X4_foldOnce
theorem dX4_fold_0 : decode cX4_fold 0 = .ok (.iconst 0, 1) := by decide +kernel
theorem dX4_fold_1 : decode cX4_fold 1 = .ok (.istore_n 1, 1) := by decide +kernel
theorem dX4_fold_2 : decode cX4_fold 2 = .ok (.iload_n 1, 1) := by decide +kernel
theorem dX4_fold_3 : decode cX4_fold 3 = .ok (.bipush 12, 2) := by decide +kernel
theorem dX4_fold_5 : decode cX4_fold 5 = .ok (.if_icmp .ge 17, 3) := by decide +kernel
theorem dX4_fold_8 : decode cX4_fold 8 = .ok (.aload_n 0, 1) := by decide +kernel
theorem dX4_fold_9 : decode cX4_fold 9 = .ok (.invokevirtual 19, 3) := by decide +kernel
theorem dX4_fold_12 : decode cX4_fold 12 = .ok (.ifCond .ne 4, 3) := by decide +kernel
theorem dX4_fold_15 : decode cX4_fold 15 = .ok (.return_, 1) := by decide +kernel
theorem dX4_fold_16 : decode cX4_fold 16 = .ok (.iinc 1 1, 3) := by decide +kernel
theorem dX4_fold_19 : decode cX4_fold 19 = .ok (.goto (-17), 3) := by decide +kernel
theorem dX4_fold_22 : decode cX4_fold 22 = .ok (.return_, 1) := by decide +kernel
set_option maxRecDepth 20000 in
theorem ggX4_foldOnce_X4_standsTwice : GoodIn wsX4_foldOnce wsX4_standsTwice := goodIn_r _ [6, 7, 12, 13] (by decide +kernel) (by decide +kernel)
set_option maxRecDepth 20000 in
theorem gX4_foldOnce_X4_standsTwice : GoodIn wsX4_foldOnce (wsV RX4 23 RX4 yX4_standsTwice wsX4_standsTwice) := goodIn_app (goodIn_of _ (by decide +kernel)) ggX4_foldOnce_X4_standsTwice
set_option maxRecDepth 20000 in
theorem ggX4_foldOnce_X4_cut : GoodIn wsX4_foldOnce wsX4_cut := goodIn_r _ [11, 1, 7, 12, 13] (by decide +kernel) (by decide +kernel)
set_option maxRecDepth 20000 in
theorem gX4_foldOnce_X4_cut : GoodIn wsX4_foldOnce (wsV RX4 27 RX4 yX4_cut wsX4_cut) := goodIn_app (goodIn_of _ (by decide +kernel)) ggX4_foldOnce_X4_cut
theorem dX4_foldOnce_0 : decode cX4_foldOnce 0 = .ok (.iconst 1, 1) := by decide +kernel
theorem dX4_foldOnce_1 : decode cX4_foldOnce 1 = .ok (.istore_n 1, 1) := by decide +kernel
theorem dX4_foldOnce_2 : decode cX4_foldOnce 2 = .ok (.iload_n 1, 1) := by decide +kernel
theorem dX4_foldOnce_3 : decode cX4_foldOnce 3 = .ok (.iconst 3, 1) := by decide +kernel
theorem dX4_foldOnce_4 : decode cX4_foldOnce 4 = .ok (.if_icmp .gt 46, 3) := by decide +kernel
theorem dX4_foldOnce_7 : decode cX4_foldOnce 7 = .ok (.iconst 0, 1) := by decide +kernel
theorem dX4_foldOnce_8 : decode cX4_foldOnce 8 = .ok (.istore_n 2, 1) := by decide +kernel
theorem dX4_foldOnce_9 : decode cX4_foldOnce 9 = .ok (.iload_n 2, 1) := by decide +kernel
theorem dX4_foldOnce_10 : decode cX4_foldOnce 10 = .ok (.iconst 2, 1) := by decide +kernel
theorem dX4_foldOnce_11 : decode cX4_foldOnce 11 = .ok (.iload_n 1, 1) := by decide +kernel
theorem dX4_foldOnce_12 : decode cX4_foldOnce 12 = .ok (.imul, 1) := by decide +kernel
theorem dX4_foldOnce_13 : decode cX4_foldOnce 13 = .ok (.iadd, 1) := by decide +kernel
theorem dX4_foldOnce_14 : decode cX4_foldOnce 14 = .ok (.aload_n 0, 1) := by decide +kernel
theorem dX4_foldOnce_15 : decode cX4_foldOnce 15 = .ok (.getfield 15, 3) := by decide +kernel
theorem dX4_foldOnce_18 : decode cX4_foldOnce 18 = .ok (.if_icmp .gt 26, 3) := by decide +kernel
theorem dX4_foldOnce_21 : decode cX4_foldOnce 21 = .ok (.aload_n 0, 1) := by decide +kernel
theorem dX4_foldOnce_22 : decode cX4_foldOnce 22 = .ok (.iload_n 2, 1) := by decide +kernel
theorem dX4_foldOnce_23 : decode cX4_foldOnce 23 = .ok (.iload_n 1, 1) := by decide +kernel
theorem dX4_foldOnce_24 : decode cX4_foldOnce 24 = .ok (.invokevirtual 23, 3) := by decide +kernel
theorem dX4_foldOnce_27 : decode cX4_foldOnce 27 = .ok (.ifCond .eq 11, 3) := by decide +kernel
theorem dX4_foldOnce_30 : decode cX4_foldOnce 30 = .ok (.aload_n 0, 1) := by decide +kernel
theorem dX4_foldOnce_31 : decode cX4_foldOnce 31 = .ok (.iload_n 2, 1) := by decide +kernel
theorem dX4_foldOnce_32 : decode cX4_foldOnce 32 = .ok (.iload_n 1, 1) := by decide +kernel
theorem dX4_foldOnce_33 : decode cX4_foldOnce 33 = .ok (.invokevirtual 27, 3) := by decide +kernel
theorem dX4_foldOnce_36 : decode cX4_foldOnce 36 = .ok (.iconst 1, 1) := by decide +kernel
theorem dX4_foldOnce_37 : decode cX4_foldOnce 37 = .ok (.ireturn, 1) := by decide +kernel
theorem dX4_foldOnce_38 : decode cX4_foldOnce 38 = .ok (.iinc 2 1, 3) := by decide +kernel
theorem dX4_foldOnce_41 : decode cX4_foldOnce 41 = .ok (.goto (-32), 3) := by decide +kernel
theorem dX4_foldOnce_44 : decode cX4_foldOnce 44 = .ok (.iinc 1 1, 3) := by decide +kernel
theorem dX4_foldOnce_47 : decode cX4_foldOnce 47 = .ok (.goto (-45), 3) := by decide +kernel
theorem dX4_foldOnce_50 : decode cX4_foldOnce 50 = .ok (.iconst 0, 1) := by decide +kernel
theorem dX4_foldOnce_51 : decode cX4_foldOnce 51 = .ok (.ireturn, 1) := by decide +kernel
theorem dX4_standsTwice_0 : decode cX4_standsTwice 0 = .ok (.iload_n 1, 1) := by decide +kernel
theorem dX4_standsTwice_1 : decode cX4_standsTwice 1 = .ok (.istore_n 3, 1) := by decide +kernel
theorem dX4_standsTwice_2 : decode cX4_standsTwice 2 = .ok (.iload_n 3, 1) := by decide +kernel
theorem dX4_standsTwice_3 : decode cX4_standsTwice 3 = .ok (.iload_n 1, 1) := by decide +kernel
theorem dX4_standsTwice_4 : decode cX4_standsTwice 4 = .ok (.iload_n 2, 1) := by decide +kernel
theorem dX4_standsTwice_5 : decode cX4_standsTwice 5 = .ok (.iadd, 1) := by decide +kernel
theorem dX4_standsTwice_6 : decode cX4_standsTwice 6 = .ok (.if_icmp .ge 28, 3) := by decide +kernel
theorem dX4_standsTwice_9 : decode cX4_standsTwice 9 = .ok (.aload_n 0, 1) := by decide +kernel
theorem dX4_standsTwice_10 : decode cX4_standsTwice 10 = .ok (.getfield 9, 3) := by decide +kernel
theorem dX4_standsTwice_13 : decode cX4_standsTwice 13 = .ok (.iload_n 3, 1) := by decide +kernel
theorem dX4_standsTwice_14 : decode cX4_standsTwice 14 = .ok (.iaload, 1) := by decide +kernel
theorem dX4_standsTwice_15 : decode cX4_standsTwice 15 = .ok (.aload_n 0, 1) := by decide +kernel
theorem dX4_standsTwice_16 : decode cX4_standsTwice 16 = .ok (.getfield 9, 3) := by decide +kernel
theorem dX4_standsTwice_19 : decode cX4_standsTwice 19 = .ok (.iload_n 3, 1) := by decide +kernel
theorem dX4_standsTwice_20 : decode cX4_standsTwice 20 = .ok (.iload_n 2, 1) := by decide +kernel
theorem dX4_standsTwice_21 : decode cX4_standsTwice 21 = .ok (.iadd, 1) := by decide +kernel
theorem dX4_standsTwice_22 : decode cX4_standsTwice 22 = .ok (.iaload, 1) := by decide +kernel
theorem dX4_standsTwice_23 : decode cX4_standsTwice 23 = .ok (.if_icmp .eq 5, 3) := by decide +kernel
theorem dX4_standsTwice_26 : decode cX4_standsTwice 26 = .ok (.iconst 0, 1) := by decide +kernel
theorem dX4_standsTwice_27 : decode cX4_standsTwice 27 = .ok (.ireturn, 1) := by decide +kernel
theorem dX4_standsTwice_28 : decode cX4_standsTwice 28 = .ok (.iinc 3 1, 3) := by decide +kernel
theorem dX4_standsTwice_31 : decode cX4_standsTwice 31 = .ok (.goto (-29), 3) := by decide +kernel
theorem dX4_standsTwice_34 : decode cX4_standsTwice 34 = .ok (.iconst 1, 1) := by decide +kernel
theorem dX4_standsTwice_35 : decode cX4_standsTwice 35 = .ok (.ireturn, 1) := by decide +kernel
theorem dX4_cut_0 : decode cX4_cut 0 = .ok (.iload_n 1, 1) := by decide +kernel
theorem dX4_cut_1 : decode cX4_cut 1 = .ok (.istore_n 3, 1) := by decide +kernel
theorem dX4_cut_2 : decode cX4_cut 2 = .ok (.iload_n 3, 1) := by decide +kernel
theorem dX4_cut_3 : decode cX4_cut 3 = .ok (.iload_n 2, 1) := by decide +kernel
theorem dX4_cut_4 : decode cX4_cut 4 = .ok (.iadd, 1) := by decide +kernel
theorem dX4_cut_5 : decode cX4_cut 5 = .ok (.aload_n 0, 1) := by decide +kernel
theorem dX4_cut_6 : decode cX4_cut 6 = .ok (.getfield 15, 3) := by decide +kernel
theorem dX4_cut_9 : decode cX4_cut 9 = .ok (.if_icmp .ge 23, 3) := by decide +kernel
theorem dX4_cut_12 : decode cX4_cut 12 = .ok (.aload_n 0, 1) := by decide +kernel
theorem dX4_cut_13 : decode cX4_cut 13 = .ok (.getfield 9, 3) := by decide +kernel
theorem dX4_cut_16 : decode cX4_cut 16 = .ok (.iload_n 3, 1) := by decide +kernel
theorem dX4_cut_17 : decode cX4_cut 17 = .ok (.aload_n 0, 1) := by decide +kernel
theorem dX4_cut_18 : decode cX4_cut 18 = .ok (.getfield 9, 3) := by decide +kernel
theorem dX4_cut_21 : decode cX4_cut 21 = .ok (.iload_n 3, 1) := by decide +kernel
theorem dX4_cut_22 : decode cX4_cut 22 = .ok (.iload_n 2, 1) := by decide +kernel
theorem dX4_cut_23 : decode cX4_cut 23 = .ok (.iadd, 1) := by decide +kernel
theorem dX4_cut_24 : decode cX4_cut 24 = .ok (.iaload, 1) := by decide +kernel
theorem dX4_cut_25 : decode cX4_cut 25 = .ok (.iastore, 1) := by decide +kernel
theorem dX4_cut_26 : decode cX4_cut 26 = .ok (.iinc 3 1, 3) := by decide +kernel
theorem dX4_cut_29 : decode cX4_cut 29 = .ok (.goto (-27), 3) := by decide +kernel
theorem dX4_cut_32 : decode cX4_cut 32 = .ok (.aload_n 0, 1) := by decide +kernel
theorem dX4_cut_33 : decode cX4_cut 33 = .ok (.dup, 1) := by decide +kernel
theorem dX4_cut_34 : decode cX4_cut 34 = .ok (.getfield 15, 3) := by decide +kernel
theorem dX4_cut_37 : decode cX4_cut 37 = .ok (.iload_n 2, 1) := by decide +kernel
theorem dX4_cut_38 : decode cX4_cut 38 = .ok (.isub, 1) := by decide +kernel
theorem dX4_cut_39 : decode cX4_cut 39 = .ok (.putfield 15, 3) := by decide +kernel
theorem dX4_cut_42 : decode cX4_cut 42 = .ok (.return_, 1) := by decide +kernel
theorem dX5_init_0 : decode cX5_init 0 = .ok (.aload_n 0, 1) := by decide +kernel
theorem dX5_init_1 : decode cX5_init 1 = .ok (.invokespecial 3, 3) := by decide +kernel
theorem dX5_init_4 : decode cX5_init 4 = .ok (.aload_n 0, 1) := by decide +kernel
theorem dX5_init_5 : decode cX5_init 5 = .ok (.bipush 30, 2) := by decide +kernel
theorem dX5_init_7 : decode cX5_init 7 = .ok (.newarray .int, 2) := by decide +kernel
theorem dX5_init_9 : decode cX5_init 9 = .ok (.putfield 9, 3) := by decide +kernel
theorem dX5_init_12 : decode cX5_init 12 = .ok (.aload_n 0, 1) := by decide +kernel
theorem dX5_init_13 : decode cX5_init 13 = .ok (.iconst 1, 1) := by decide +kernel
theorem dX5_init_14 : decode cX5_init 14 = .ok (.putfield 15, 3) := by decide +kernel
theorem dX5_init_17 : decode cX5_init 17 = .ok (.aload_n 0, 1) := by decide +kernel
theorem dX5_init_18 : decode cX5_init 18 = .ok (.getfield 9, 3) := by decide +kernel
theorem dX5_init_21 : decode cX5_init 21 = .ok (.iconst 0, 1) := by decide +kernel
theorem dX5_init_22 : decode cX5_init 22 = .ok (.iconst 1, 1) := by decide +kernel
theorem dX5_init_23 : decode cX5_init 23 = .ok (.iastore, 1) := by decide +kernel
theorem dX5_init_24 : decode cX5_init 24 = .ok (.return_, 1) := by decide +kernel
theorem dX5_has_0 : decode cX5_has 0 = .ok (.iload_n 1, 1) := by decide +kernel
theorem dX5_has_1 : decode cX5_has 1 = .ok (.ifCond .lt 15, 3) := by decide +kernel
theorem dX5_has_4 : decode cX5_has 4 = .ok (.iload_n 1, 1) := by decide +kernel
theorem dX5_has_5 : decode cX5_has 5 = .ok (.aload_n 0, 1) := by decide +kernel
theorem dX5_has_6 : decode cX5_has 6 = .ok (.getfield 15, 3) := by decide +kernel
theorem dX5_has_9 : decode cX5_has 9 = .ok (.if_icmp .ge 7, 3) := by decide +kernel
theorem dX5_has_12 : decode cX5_has 12 = .ok (.iconst 1, 1) := by decide +kernel
theorem dX5_has_13 : decode cX5_has 13 = .ok (.goto 4, 3) := by decide +kernel
theorem dX5_has_16 : decode cX5_has 16 = .ok (.iconst 0, 1) := by decide +kernel
theorem dX5_has_17 : decode cX5_has 17 = .ok (.ireturn, 1) := by decide +kernel
theorem dX5_howMany_0 : decode cX5_howMany 0 = .ok (.aload_n 0, 1) := by decide +kernel
theorem dX5_howMany_1 : decode cX5_howMany 1 = .ok (.getfield 15, 3) := by decide +kernel
theorem dX5_howMany_4 : decode cX5_howMany 4 = .ok (.ireturn, 1) := by decide +kernel
set_option maxRecDepth 20000 in
theorem ggX5_make_X5_has : GoodIn wsX5_make wsX5_has := goodIn_r _ [7, 1, 8, 9] (by decide +kernel) (by decide +kernel)
set_option maxRecDepth 20000 in
theorem gX5_make_X5_has : GoodIn wsX5_make (wsV RX5 19 RX5 yX5_has wsX5_has) := goodIn_app (goodIn_of _ (by decide +kernel)) ggX5_make_X5_has
theorem dX5_make_0 : decode cX5_make 0 = .ok (.aload_n 0, 1) := by decide +kernel
theorem dX5_make_1 : decode cX5_make 1 = .ok (.iload_n 1, 1) := by decide +kernel
theorem dX5_make_2 : decode cX5_make 2 = .ok (.invokevirtual 19, 3) := by decide +kernel
theorem dX5_make_5 : decode cX5_make 5 = .ok (.ifCond .eq 12, 3) := by decide +kernel
theorem dX5_make_8 : decode cX5_make 8 = .ok (.aload_n 0, 1) := by decide +kernel
theorem dX5_make_9 : decode cX5_make 9 = .ok (.getfield 15, 3) := by decide +kernel
theorem dX5_make_12 : decode cX5_make 12 = .ok (.bipush 30, 2) := by decide +kernel
theorem dX5_make_14 : decode cX5_make 14 = .ok (.if_icmp .lt 5, 3) := by decide +kernel
theorem dX5_make_17 : decode cX5_make 17 = .ok (.iconst (-1), 1) := by decide +kernel
theorem dX5_make_18 : decode cX5_make 18 = .ok (.ireturn, 1) := by decide +kernel
theorem dX5_make_19 : decode cX5_make 19 = .ok (.aload_n 0, 1) := by decide +kernel
theorem dX5_make_20 : decode cX5_make 20 = .ok (.getfield 15, 3) := by decide +kernel
theorem dX5_make_23 : decode cX5_make 23 = .ok (.istore_n 2, 1) := by decide +kernel
theorem dX5_make_24 : decode cX5_make 24 = .ok (.aload_n 0, 1) := by decide +kernel
theorem dX5_make_25 : decode cX5_make 25 = .ok (.getfield 9, 3) := by decide +kernel
theorem dX5_make_28 : decode cX5_make 28 = .ok (.iload_n 2, 1) := by decide +kernel
theorem dX5_make_29 : decode cX5_make 29 = .ok (.aload_n 0, 1) := by decide +kernel
theorem dX5_make_30 : decode cX5_make 30 = .ok (.getfield 9, 3) := by decide +kernel
theorem dX5_make_33 : decode cX5_make 33 = .ok (.iload_n 1, 1) := by decide +kernel
theorem dX5_make_34 : decode cX5_make 34 = .ok (.iaload, 1) := by decide +kernel
theorem dX5_make_35 : decode cX5_make 35 = .ok (.iconst 1, 1) := by decide +kernel
theorem dX5_make_36 : decode cX5_make 36 = .ok (.iload_n 2, 1) := by decide +kernel
theorem dX5_make_37 : decode cX5_make 37 = .ok (.ishl, 1) := by decide +kernel
theorem dX5_make_38 : decode cX5_make 38 = .ok (.ior, 1) := by decide +kernel
theorem dX5_make_39 : decode cX5_make 39 = .ok (.iastore, 1) := by decide +kernel
theorem dX5_make_40 : decode cX5_make 40 = .ok (.aload_n 0, 1) := by decide +kernel
theorem dX5_make_41 : decode cX5_make 41 = .ok (.dup, 1) := by decide +kernel
theorem dX5_make_42 : decode cX5_make 42 = .ok (.getfield 15, 3) := by decide +kernel
theorem dX5_make_45 : decode cX5_make 45 = .ok (.iconst 1, 1) := by decide +kernel
theorem dX5_make_46 : decode cX5_make 46 = .ok (.iadd, 1) := by decide +kernel
theorem dX5_make_47 : decode cX5_make 47 = .ok (.putfield 15, 3) := by decide +kernel
theorem dX5_make_50 : decode cX5_make 50 = .ok (.iload_n 2, 1) := by decide +kernel
theorem dX5_make_51 : decode cX5_make 51 = .ok (.ireturn, 1) := by decide +kernel
theorem dX5_isOrIsBehind_0 : decode cX5_isOrIsBehind 0 = .ok (.aload_n 0, 1) := by decide +kernel
theorem dX5_isOrIsBehind_1 : decode cX5_isOrIsBehind 1 = .ok (.getfield 9, 3) := by decide +kernel
theorem dX5_isOrIsBehind_4 : decode cX5_isOrIsBehind 4 = .ok (.iload_n 1, 1) := by decide +kernel
theorem dX5_isOrIsBehind_5 : decode cX5_isOrIsBehind 5 = .ok (.iaload, 1) := by decide +kernel
theorem dX5_isOrIsBehind_6 : decode cX5_isOrIsBehind 6 = .ok (.iload_n 2, 1) := by decide +kernel
theorem dX5_isOrIsBehind_7 : decode cX5_isOrIsBehind 7 = .ok (.ishr, 1) := by decide +kernel
theorem dX5_isOrIsBehind_8 : decode cX5_isOrIsBehind 8 = .ok (.iconst 1, 1) := by decide +kernel
theorem dX5_isOrIsBehind_9 : decode cX5_isOrIsBehind 9 = .ok (.iand, 1) := by decide +kernel
theorem dX5_isOrIsBehind_10 : decode cX5_isOrIsBehind 10 = .ok (.iconst 1, 1) := by decide +kernel
theorem dX5_isOrIsBehind_11 : decode cX5_isOrIsBehind 11 = .ok (.if_icmp .ne 7, 3) := by decide +kernel
theorem dX5_isOrIsBehind_14 : decode cX5_isOrIsBehind 14 = .ok (.iconst 1, 1) := by decide +kernel
theorem dX5_isOrIsBehind_15 : decode cX5_isOrIsBehind 15 = .ok (.goto 4, 3) := by decide +kernel
theorem dX5_isOrIsBehind_18 : decode cX5_isOrIsBehind 18 = .ok (.iconst 0, 1) := by decide +kernel
theorem dX5_isOrIsBehind_19 : decode cX5_isOrIsBehind 19 = .ok (.ireturn, 1) := by decide +kernel
set_option maxRecDepth 20000 in
theorem ggX6_init_X4_init : GoodIn wsX6_init wsX4_init := goodIn_r _ [29, 30, 2, 3, 31, 32, 33, 93, 94] (by decide +kernel) (by decide +kernel)
set_option maxRecDepth 20000 in
theorem gX6_init_X4_init_n9 : GoodIn wsX6_init (wsX4_init) := ggX6_init_X4_init
set_option maxRecDepth 20000 in
theorem ggX6_init_X5_init : GoodIn wsX6_init wsX5_init := goodIn_r _ [36, 37, 2, 3, 31, 38, 39, 101, 102] (by decide +kernel) (by decide +kernel)
set_option maxRecDepth 20000 in
theorem gX6_init_X5_init : GoodIn wsX6_init (wsX5_init) := ggX6_init_X5_init
set_option maxRecDepth 20000 in
theorem ggX6_init_X3_init : GoodIn wsX6_init wsX3_init := goodIn_r _ [41, 42, 2, 3, 43, 31, 44, 45, 46, 47, 48, 49, 50, 103, 104, 105, 106, 107, 108] (by decide +kernel) (by decide +kernel)
set_option maxRecDepth 20000 in
theorem gX6_init_X3_init_n25 : GoodIn wsX6_init (wsX3_init) := ggX6_init_X3_init
set_option maxRecDepth 20000 in
theorem ggX6_init_X0_init : GoodIn wsX6_init wsX0_init := goodIn_r _ [53, 54, 2, 3, 55, 31, 56, 57, 58, 59, 60, 61, 62, 63, 64, 65, 109, 110, 111, 112, 113] (by decide +kernel) (by decide +kernel)
set_option maxRecDepth 20000 in
theorem gX6_init_X0_init : GoodIn wsX6_init (wsX0_init) := ggX6_init_X0_init
set_option maxRecDepth 20000 in
theorem ggX6_init_X1_init : GoodIn wsX6_init wsX1_init := goodIn_r _ [67, 68, 2, 3, 69, 31, 70, 71, 72, 73, 74, 75, 76, 77, 78, 79, 80, 81, 82, 83, 84, 114, 115, 116, 117, 118, 119, 120, 121, 122, 123, 124, 125, 126, 127, 128] (by decide +kernel) (by decide +kernel)
set_option maxRecDepth 20000 in
theorem gX6_init_X1_init_n39 : GoodIn wsX6_init (wsX1_init) := ggX6_init_X1_init
set_option maxRecDepth 20000 in
theorem ggX6_init_X2_init : GoodIn wsX6_init wsX2_init := goodIn_r _ [86, 87, 2, 3, 31, 88, 48, 89, 90, 91, 92, 129, 130, 131, 132, 133] (by decide +kernel) (by decide +kernel)
set_option maxRecDepth 20000 in
theorem gX6_init_X2_init_n46 : GoodIn wsX6_init (wsX2_init) := ggX6_init_X2_init
theorem dX6_init_0 : decode cX6_init 0 = .ok (.aload_n 0, 1) := by decide +kernel
theorem dX6_init_1 : decode cX6_init 1 = .ok (.invokespecial 1, 3) := by decide +kernel
theorem dX6_init_4 : decode cX6_init 4 = .ok (.aload_n 0, 1) := by decide +kernel
theorem dX6_init_5 : decode cX6_init 5 = .ok (.new 7, 3) := by decide +kernel
theorem dX6_init_8 : decode cX6_init 8 = .ok (.dup, 1) := by decide +kernel
theorem dX6_init_9 : decode cX6_init 9 = .ok (.invokespecial 9, 3) := by decide +kernel
theorem dX6_init_12 : decode cX6_init 12 = .ok (.putfield 10, 3) := by decide +kernel
theorem dX6_init_15 : decode cX6_init 15 = .ok (.aload_n 0, 1) := by decide +kernel
theorem dX6_init_16 : decode cX6_init 16 = .ok (.new 16, 3) := by decide +kernel
theorem dX6_init_19 : decode cX6_init 19 = .ok (.dup, 1) := by decide +kernel
theorem dX6_init_20 : decode cX6_init 20 = .ok (.invokespecial 18, 3) := by decide +kernel
theorem dX6_init_23 : decode cX6_init 23 = .ok (.putfield 19, 3) := by decide +kernel
theorem dX6_init_26 : decode cX6_init 26 = .ok (.aload_n 0, 1) := by decide +kernel
theorem dX6_init_27 : decode cX6_init 27 = .ok (.new 23, 3) := by decide +kernel
theorem dX6_init_30 : decode cX6_init 30 = .ok (.dup, 1) := by decide +kernel
theorem dX6_init_31 : decode cX6_init 31 = .ok (.invokespecial 25, 3) := by decide +kernel
theorem dX6_init_34 : decode cX6_init 34 = .ok (.putfield 26, 3) := by decide +kernel
theorem dX6_init_37 : decode cX6_init 37 = .ok (.aload_n 0, 1) := by decide +kernel
theorem dX6_init_38 : decode cX6_init 38 = .ok (.new 30, 3) := by decide +kernel
theorem dX6_init_41 : decode cX6_init 41 = .ok (.dup, 1) := by decide +kernel
theorem dX6_init_42 : decode cX6_init 42 = .ok (.invokespecial 32, 3) := by decide +kernel
theorem dX6_init_45 : decode cX6_init 45 = .ok (.putfield 33, 3) := by decide +kernel
theorem dX6_init_48 : decode cX6_init 48 = .ok (.aload_n 0, 1) := by decide +kernel
theorem dX6_init_49 : decode cX6_init 49 = .ok (.new 37, 3) := by decide +kernel
theorem dX6_init_52 : decode cX6_init 52 = .ok (.dup, 1) := by decide +kernel
theorem dX6_init_53 : decode cX6_init 53 = .ok (.invokespecial 39, 3) := by decide +kernel
theorem dX6_init_56 : decode cX6_init 56 = .ok (.putfield 40, 3) := by decide +kernel
theorem dX6_init_59 : decode cX6_init 59 = .ok (.aload_n 0, 1) := by decide +kernel
theorem dX6_init_60 : decode cX6_init 60 = .ok (.new 44, 3) := by decide +kernel
theorem dX6_init_63 : decode cX6_init 63 = .ok (.dup, 1) := by decide +kernel
theorem dX6_init_64 : decode cX6_init 64 = .ok (.invokespecial 46, 3) := by decide +kernel
theorem dX6_init_67 : decode cX6_init 67 = .ok (.putfield 47, 3) := by decide +kernel
theorem dX6_init_70 : decode cX6_init 70 = .ok (.return_, 1) := by decide +kernel
set_option maxRecDepth 20000 in
theorem ggX6_frame_X4_put : GoodIn wsX6_frame wsX4_put := goodIn_r _ [6, 7, 8, 15, 16] (by decide +kernel) (by decide +kernel)
set_option maxRecDepth 20000 in
theorem gX6_frame_X4_put : GoodIn wsX6_frame (wsV RX6 51 RX4 yX4_put wsX4_put) := goodIn_app (goodIn_of _ (by decide +kernel)) ggX6_frame_X4_put
theorem dX6_frame_0 : decode cX6_frame 0 = .ok (.aload_n 0, 1) := by decide +kernel
theorem dX6_frame_1 : decode cX6_frame 1 = .ok (.getfield 10, 3) := by decide +kernel
theorem dX6_frame_4 : decode cX6_frame 4 = .ok (.iload_n 1, 1) := by decide +kernel
theorem dX6_frame_5 : decode cX6_frame 5 = .ok (.invokevirtual 51, 3) := by decide +kernel
theorem dX6_frame_8 : decode cX6_frame 8 = .ok (.ireturn, 1) := by decide +kernel
set_option maxRecDepth 20000 in
theorem ggX6_version_X5_make : GoodIn wsX6_version wsX5_make := goodIn_r _ [6, 7, 8, 9, 10, 11, 5, 12, 19, 20] (by decide +kernel) (by decide +kernel)
set_option maxRecDepth 20000 in
theorem gX6_version_X5_make : GoodIn wsX6_version (wsV RX6 55 RX5 yX5_make wsX5_make) := goodIn_app (goodIn_of _ (by decide +kernel)) ggX6_version_X5_make
theorem dX6_version_0 : decode cX6_version 0 = .ok (.aload_n 0, 1) := by decide +kernel
theorem dX6_version_1 : decode cX6_version 1 = .ok (.getfield 19, 3) := by decide +kernel
theorem dX6_version_4 : decode cX6_version 4 = .ok (.iload_n 1, 1) := by decide +kernel
theorem dX6_version_5 : decode cX6_version 5 = .ok (.invokevirtual 55, 3) := by decide +kernel
theorem dX6_version_8 : decode cX6_version 8 = .ok (.ireturn, 1) := by decide +kernel
set_option maxRecDepth 20000 in
theorem ggX6_report_X4_isEmpty : GoodIn wsX6_report wsX4_isEmpty := goodIn_r _ [10, 11, 180, 181] (by decide +kernel) (by decide +kernel)
set_option maxRecDepth 20000 in
theorem gX6_report_X4_isEmpty : GoodIn wsX6_report (wsV RX6 58 RX4 yX4_isEmpty wsX4_isEmpty) := goodIn_app (goodIn_of _ (by decide +kernel)) ggX6_report_X4_isEmpty
set_option maxRecDepth 20000 in
theorem ggX6_report_X5_has : GoodIn wsX6_report wsX5_has := goodIn_r _ [16, 17, 182, 183] (by decide +kernel) (by decide +kernel)
set_option maxRecDepth 20000 in
theorem gX6_report_X5_has : GoodIn wsX6_report (wsV RX6 62 RX5 yX5_has wsX5_has) := goodIn_app (goodIn_of _ (by decide +kernel)) ggX6_report_X5_has
set_option maxRecDepth 20000 in
theorem ggX6_report_X3_isFull : GoodIn wsX6_report wsX3_isFull := goodIn_r _ [22, 23, 184, 185, 186, 187, 188, 189] (by decide +kernel) (by decide +kernel)
set_option maxRecDepth 20000 in
theorem gX6_report_X3_isFull : GoodIn wsX6_report (wsV RX6 66 RX3 yX3_isFull wsX3_isFull) := goodIn_app (goodIn_of _ (by decide +kernel)) ggX6_report_X3_isFull
set_option maxRecDepth 20000 in
theorem ggX6_report_X4_fold : GoodIn wsX6_report wsX4_fold := goodIn_r _ [27, 28, 29, 30, 9, 31, 11, 32, 33, 34, 35, 36, 37, 38, 39, 40, 180, 181] (by decide +kernel) (by decide +kernel)
set_option maxRecDepth 20000 in
theorem gX6_report_X4_fold : GoodIn wsX6_report (wsV RX6 69 RX4 yX4_fold wsX4_fold) := goodIn_app (goodIn_of _ (by decide +kernel)) ggX6_report_X4_fold
set_option maxRecDepth 20000 in
theorem ggX6_report_X3_add : GoodIn wsX6_report wsX3_add := goodIn_r _ [44, 23, 45, 46, 47, 48, 49, 50, 51, 52, 9, 53, 11, 54, 55, 56, 57, 36, 184, 185, 186, 187, 188, 189, 180, 181] (by decide +kernel) (by decide +kernel)
set_option maxRecDepth 20000 in
theorem gX6_report_X3_add : GoodIn wsX6_report (wsV RX6 72 RX3 yX3_add wsX3_add) := goodIn_app (goodIn_of _ (by decide +kernel)) ggX6_report_X3_add
set_option maxRecDepth 20000 in
theorem ggX6_report_X4_clear : GoodIn wsX6_report wsX4_clear := goodIn_r _ [61, 11, 180, 181] (by decide +kernel) (by decide +kernel)
set_option maxRecDepth 20000 in
theorem gX6_report_X4_clear : GoodIn wsX6_report (wsV RX6 76 RX4 yX4_clear wsX4_clear) := goodIn_app (goodIn_of _ (by decide +kernel)) ggX6_report_X4_clear
set_option maxRecDepth 20000 in
theorem ggX6_report_X0_renew : GoodIn wsX6_report wsX0_renew := goodIn_r _ [66, 67, 68, 69, 70, 71, 21, 72, 23, 73, 74, 75, 65, 76, 77, 78, 79, 80, 81, 82, 45, 83, 84, 85, 86, 46, 87, 88, 89, 90, 47, 91, 92, 93, 94, 95, 96, 97, 98, 99, 100, 101, 102, 103, 104, 105, 106, 107, 108, 109, 110, 111, 112, 190, 191, 192, 193, 194, 184, 185, 186, 187, 188, 189] (by decide +kernel) (by decide +kernel)
set_option maxRecDepth 20000 in
theorem gX6_report_X0_renew : GoodIn wsX6_report (wsV RX6 79 RX0 yX0_renew wsX0_renew) := goodIn_app (goodIn_of _ (by decide +kernel)) ggX6_report_X0_renew
set_option maxRecDepth 20000 in
theorem ggX6_report_X1_addAlone : GoodIn wsX6_report wsX1_addAlone := goodIn_r _ [117, 118, 119, 120, 121, 122, 123, 116, 124, 125, 126, 127, 128, 129, 130, 131, 195, 196, 197, 198, 199, 200, 201, 202, 203, 204, 205, 206, 207, 208, 209] (by decide +kernel) (by decide +kernel)
set_option maxRecDepth 20000 in
theorem gX6_report_X1_addAlone : GoodIn wsX6_report (wsV RX6 83 RX1 yX1_addAlone wsX1_addAlone) := goodIn_app (goodIn_of _ (by decide +kernel)) ggX6_report_X1_addAlone
set_option maxRecDepth 20000 in
theorem ggX6_report_X1_settle : GoodIn wsX6_report wsX1_settle := goodIn_r _ [135, 136, 137, 138, 139, 140, 141, 116, 142, 118, 143, 119, 144, 145, 128, 129, 130, 131, 146, 147, 148, 65, 149, 68, 150, 151, 152, 153, 120, 154, 155, 156, 157, 158, 159, 160, 161, 162, 163, 164, 165, 127, 166, 167, 168, 169, 170, 171, 172, 173, 121, 122, 123, 124, 125, 126, 195, 196, 197, 198, 199, 200, 201, 202, 203, 204, 205, 206, 207, 208, 209, 190, 191, 192, 193, 194] (by decide +kernel) (by decide +kernel)
set_option maxRecDepth 20000 in
theorem gX6_report_X1_settle : GoodIn wsX6_report (wsV RX6 86 RX1 yX1_settle wsX1_settle) := goodIn_app (goodIn_of _ (by decide +kernel)) ggX6_report_X1_settle
theorem dX6_report_0 : decode cX6_report 0 = .ok (.aload_n 0, 1) := by decide +kernel
theorem dX6_report_1 : decode cX6_report 1 = .ok (.getfield 10, 3) := by decide +kernel
theorem dX6_report_4 : decode cX6_report 4 = .ok (.invokevirtual 58, 3) := by decide +kernel
theorem dX6_report_7 : decode cX6_report 7 = .ok (.ifCond .ne 24, 3) := by decide +kernel
theorem dX6_report_10 : decode cX6_report 10 = .ok (.aload_n 0, 1) := by decide +kernel
theorem dX6_report_11 : decode cX6_report 11 = .ok (.getfield 19, 3) := by decide +kernel
theorem dX6_report_14 : decode cX6_report 14 = .ok (.iload_n 1, 1) := by decide +kernel
theorem dX6_report_15 : decode cX6_report 15 = .ok (.invokevirtual 62, 3) := by decide +kernel
theorem dX6_report_18 : decode cX6_report 18 = .ok (.ifCond .eq 13, 3) := by decide +kernel
theorem dX6_report_21 : decode cX6_report 21 = .ok (.aload_n 0, 1) := by decide +kernel
theorem dX6_report_22 : decode cX6_report 22 = .ok (.getfield 26, 3) := by decide +kernel
theorem dX6_report_25 : decode cX6_report 25 = .ok (.invokevirtual 66, 3) := by decide +kernel
theorem dX6_report_28 : decode cX6_report 28 = .ok (.ifCond .eq 5, 3) := by decide +kernel
theorem dX6_report_31 : decode cX6_report 31 = .ok (.iconst (-1), 1) := by decide +kernel
theorem dX6_report_32 : decode cX6_report 32 = .ok (.ireturn, 1) := by decide +kernel
theorem dX6_report_33 : decode cX6_report 33 = .ok (.aload_n 0, 1) := by decide +kernel
theorem dX6_report_34 : decode cX6_report 34 = .ok (.getfield 10, 3) := by decide +kernel
theorem dX6_report_37 : decode cX6_report 37 = .ok (.invokevirtual 69, 3) := by decide +kernel
theorem dX6_report_40 : decode cX6_report 40 = .ok (.aload_n 0, 1) := by decide +kernel
theorem dX6_report_41 : decode cX6_report 41 = .ok (.getfield 26, 3) := by decide +kernel
theorem dX6_report_44 : decode cX6_report 44 = .ok (.aload_n 0, 1) := by decide +kernel
theorem dX6_report_45 : decode cX6_report 45 = .ok (.getfield 10, 3) := by decide +kernel
theorem dX6_report_48 : decode cX6_report 48 = .ok (.iload_n 1, 1) := by decide +kernel
theorem dX6_report_49 : decode cX6_report 49 = .ok (.invokevirtual 72, 3) := by decide +kernel
theorem dX6_report_52 : decode cX6_report 52 = .ok (.istore_n 2, 1) := by decide +kernel
theorem dX6_report_53 : decode cX6_report 53 = .ok (.aload_n 0, 1) := by decide +kernel
theorem dX6_report_54 : decode cX6_report 54 = .ok (.getfield 10, 3) := by decide +kernel
theorem dX6_report_57 : decode cX6_report 57 = .ok (.invokevirtual 76, 3) := by decide +kernel
theorem dX6_report_60 : decode cX6_report 60 = .ok (.aload_n 0, 1) := by decide +kernel
theorem dX6_report_61 : decode cX6_report 61 = .ok (.getfield 33, 3) := by decide +kernel
theorem dX6_report_64 : decode cX6_report 64 = .ok (.aload_n 0, 1) := by decide +kernel
theorem dX6_report_65 : decode cX6_report 65 = .ok (.getfield 26, 3) := by decide +kernel
theorem dX6_report_68 : decode cX6_report 68 = .ok (.invokevirtual 79, 3) := by decide +kernel
theorem dX6_report_71 : decode cX6_report 71 = .ok (.aload_n 0, 1) := by decide +kernel
theorem dX6_report_72 : decode cX6_report 72 = .ok (.getfield 40, 3) := by decide +kernel
theorem dX6_report_75 : decode cX6_report 75 = .ok (.invokevirtual 83, 3) := by decide +kernel
theorem dX6_report_78 : decode cX6_report 78 = .ok (.aload_n 0, 1) := by decide +kernel
theorem dX6_report_79 : decode cX6_report 79 = .ok (.getfield 40, 3) := by decide +kernel
theorem dX6_report_82 : decode cX6_report 82 = .ok (.aload_n 0, 1) := by decide +kernel
theorem dX6_report_83 : decode cX6_report 83 = .ok (.getfield 33, 3) := by decide +kernel
theorem dX6_report_86 : decode cX6_report 86 = .ok (.invokevirtual 86, 3) := by decide +kernel
theorem dX6_report_89 : decode cX6_report 89 = .ok (.iload_n 2, 1) := by decide +kernel
theorem dX6_report_90 : decode cX6_report 90 = .ok (.ireturn, 1) := by decide +kernel
set_option maxRecDepth 20000 in
theorem ggX6_pair_X3_hasTwo : GoodIn wsX6_pair wsX3_hasTwo := goodIn_r _ [8, 9, 10, 11, 7, 12, 13, 83, 84, 85, 86, 87, 88] (by decide +kernel) (by decide +kernel)
set_option maxRecDepth 20000 in
theorem gX6_pair_X3_hasTwo : GoodIn wsX6_pair (wsV RX6 90 RX3 yX3_hasTwo wsX3_hasTwo) := goodIn_app (goodIn_of _ (by decide +kernel)) ggX6_pair_X3_hasTwo
set_option maxRecDepth 20000 in
theorem ggX6_pair_X1_wish : GoodIn wsX6_pair wsX1_wish := goodIn_r _ [18, 19, 89, 90, 91, 92, 93, 94, 95, 96, 97, 98, 99, 100, 101, 102, 103] (by decide +kernel) (by decide +kernel)
set_option maxRecDepth 20000 in
theorem gX6_pair_X1_wish : GoodIn wsX6_pair (wsV RX6 94 RX1 yX1_wish wsX1_wish) := goodIn_app (goodIn_of _ (by decide +kernel)) ggX6_pair_X1_wish
set_option maxRecDepth 20000 in
theorem ggX6_pair_X1_settle : GoodIn wsX6_pair wsX1_settle := goodIn_r _ [23, 24, 25, 26, 27, 28, 29, 17, 30, 31, 32, 33, 34, 19, 35, 36, 37, 38, 39, 40, 41, 42, 43, 44, 45, 46, 47, 48, 49, 50, 51, 52, 53, 54, 55, 56, 57, 58, 59, 60, 61, 62, 63, 64, 65, 66, 67, 68, 69, 70, 71, 72, 73, 74, 75, 76, 89, 90, 91, 92, 93, 94, 95, 96, 97, 98, 99, 100, 101, 102, 103, 104, 105, 106, 107, 108] (by decide +kernel) (by decide +kernel)
set_option maxRecDepth 20000 in
theorem gX6_pair_X1_settle : GoodIn wsX6_pair (wsV RX6 86 RX1 yX1_settle wsX1_settle) := goodIn_app (goodIn_of _ (by decide +kernel)) ggX6_pair_X1_settle
theorem dX6_pair_0 : decode cX6_pair 0 = .ok (.aload_n 0, 1) := by decide +kernel
theorem dX6_pair_1 : decode cX6_pair 1 = .ok (.getfield 26, 3) := by decide +kernel
theorem dX6_pair_4 : decode cX6_pair 4 = .ok (.iload_n 1, 1) := by decide +kernel
theorem dX6_pair_5 : decode cX6_pair 5 = .ok (.iload_n 2, 1) := by decide +kernel
theorem dX6_pair_6 : decode cX6_pair 6 = .ok (.invokevirtual 90, 3) := by decide +kernel
theorem dX6_pair_9 : decode cX6_pair 9 = .ok (.ifCond .ne 5, 3) := by decide +kernel
theorem dX6_pair_12 : decode cX6_pair 12 = .ok (.iconst 0, 1) := by decide +kernel
theorem dX6_pair_13 : decode cX6_pair 13 = .ok (.ireturn, 1) := by decide +kernel
theorem dX6_pair_14 : decode cX6_pair 14 = .ok (.aload_n 0, 1) := by decide +kernel
theorem dX6_pair_15 : decode cX6_pair 15 = .ok (.getfield 40, 3) := by decide +kernel
theorem dX6_pair_18 : decode cX6_pair 18 = .ok (.iload_n 1, 1) := by decide +kernel
theorem dX6_pair_19 : decode cX6_pair 19 = .ok (.iload_n 2, 1) := by decide +kernel
theorem dX6_pair_20 : decode cX6_pair 20 = .ok (.iload_n 3, 1) := by decide +kernel
theorem dX6_pair_21 : decode cX6_pair 21 = .ok (.ifCond .eq 9, 3) := by decide +kernel
theorem dX6_pair_24 : decode cX6_pair 24 = .ok (.sipush (-1000), 3) := by decide +kernel
theorem dX6_pair_27 : decode cX6_pair 27 = .ok (.goto 6, 3) := by decide +kernel
theorem dX6_pair_30 : decode cX6_pair 30 = .ok (.sipush 1000, 3) := by decide +kernel
theorem dX6_pair_33 : decode cX6_pair 33 = .ok (.invokevirtual 94, 3) := by decide +kernel
theorem dX6_pair_36 : decode cX6_pair 36 = .ok (.aload_n 0, 1) := by decide +kernel
theorem dX6_pair_37 : decode cX6_pair 37 = .ok (.getfield 40, 3) := by decide +kernel
theorem dX6_pair_40 : decode cX6_pair 40 = .ok (.aload_n 0, 1) := by decide +kernel
theorem dX6_pair_41 : decode cX6_pair 41 = .ok (.getfield 33, 3) := by decide +kernel
theorem dX6_pair_44 : decode cX6_pair 44 = .ok (.invokevirtual 86, 3) := by decide +kernel
theorem dX6_pair_47 : decode cX6_pair 47 = .ok (.iconst 1, 1) := by decide +kernel
theorem dX6_pair_48 : decode cX6_pair 48 = .ok (.ireturn, 1) := by decide +kernel
set_option maxRecDepth 20000 in
theorem ggX6_free_X3_hasTwo : GoodIn wsX6_free wsX3_hasTwo := goodIn_r _ [8, 9, 10, 11, 7, 12, 13, 87, 88, 89, 90, 91, 92] (by decide +kernel) (by decide +kernel)
set_option maxRecDepth 20000 in
theorem gX6_free_X3_hasTwo : GoodIn wsX6_free (wsV RX6 90 RX3 yX3_hasTwo wsX3_hasTwo) := goodIn_app (goodIn_of _ (by decide +kernel)) ggX6_free_X3_hasTwo
set_option maxRecDepth 20000 in
theorem ggX6_free_X1_hasWish : GoodIn wsX6_free wsX1_hasWish := goodIn_r _ [18, 19, 93, 94, 95, 96, 97, 98, 99, 100, 101, 102, 103, 104, 105, 106, 107] (by decide +kernel) (by decide +kernel)
set_option maxRecDepth 20000 in
theorem gX6_free_X1_hasWish : GoodIn wsX6_free (wsV RX6 98 RX1 yX1_hasWish wsX1_hasWish) := goodIn_app (goodIn_of _ (by decide +kernel)) ggX6_free_X1_hasWish
set_option maxRecDepth 20000 in
theorem ggX6_free_X1_wish : GoodIn wsX6_free wsX1_wish := goodIn_r _ [23, 19, 93, 94, 95, 96, 97, 98, 99, 100, 101, 102, 103, 104, 105, 106, 107] (by decide +kernel) (by decide +kernel)
set_option maxRecDepth 20000 in
theorem gX6_free_X1_wish : GoodIn wsX6_free (wsV RX6 94 RX1 yX1_wish wsX1_wish) := goodIn_app (goodIn_of _ (by decide +kernel)) ggX6_free_X1_wish
set_option maxRecDepth 20000 in
theorem ggX6_free_X1_settle : GoodIn wsX6_free wsX1_settle := goodIn_r _ [27, 28, 29, 30, 31, 32, 33, 17, 34, 35, 36, 37, 38, 19, 39, 40, 41, 42, 43, 44, 45, 46, 47, 48, 49, 50, 51, 52, 53, 54, 55, 56, 57, 58, 59, 60, 61, 62, 63, 64, 65, 66, 67, 68, 69, 70, 71, 72, 73, 74, 75, 76, 77, 78, 79, 80, 93, 94, 95, 96, 97, 98, 99, 100, 101, 102, 103, 104, 105, 106, 107, 108, 109, 110, 111, 112] (by decide +kernel) (by decide +kernel)
set_option maxRecDepth 20000 in
theorem gX6_free_X1_settle : GoodIn wsX6_free (wsV RX6 86 RX1 yX1_settle wsX1_settle) := goodIn_app (goodIn_of _ (by decide +kernel)) ggX6_free_X1_settle
theorem dX6_free_0 : decode cX6_free 0 = .ok (.aload_n 0, 1) := by decide +kernel
theorem dX6_free_1 : decode cX6_free 1 = .ok (.getfield 26, 3) := by decide +kernel
theorem dX6_free_4 : decode cX6_free 4 = .ok (.iload_n 1, 1) := by decide +kernel
theorem dX6_free_5 : decode cX6_free 5 = .ok (.iload_n 2, 1) := by decide +kernel
theorem dX6_free_6 : decode cX6_free 6 = .ok (.invokevirtual 90, 3) := by decide +kernel
theorem dX6_free_9 : decode cX6_free 9 = .ok (.ifCond .eq 15, 3) := by decide +kernel
theorem dX6_free_12 : decode cX6_free 12 = .ok (.aload_n 0, 1) := by decide +kernel
theorem dX6_free_13 : decode cX6_free 13 = .ok (.getfield 40, 3) := by decide +kernel
theorem dX6_free_16 : decode cX6_free 16 = .ok (.iload_n 1, 1) := by decide +kernel
theorem dX6_free_17 : decode cX6_free 17 = .ok (.iload_n 2, 1) := by decide +kernel
theorem dX6_free_18 : decode cX6_free 18 = .ok (.invokevirtual 98, 3) := by decide +kernel
theorem dX6_free_21 : decode cX6_free 21 = .ok (.ifCond .ne 5, 3) := by decide +kernel
theorem dX6_free_24 : decode cX6_free 24 = .ok (.iconst 0, 1) := by decide +kernel
theorem dX6_free_25 : decode cX6_free 25 = .ok (.ireturn, 1) := by decide +kernel
theorem dX6_free_26 : decode cX6_free 26 = .ok (.aload_n 0, 1) := by decide +kernel
theorem dX6_free_27 : decode cX6_free 27 = .ok (.getfield 40, 3) := by decide +kernel
theorem dX6_free_30 : decode cX6_free 30 = .ok (.iload_n 1, 1) := by decide +kernel
theorem dX6_free_31 : decode cX6_free 31 = .ok (.iload_n 2, 1) := by decide +kernel
theorem dX6_free_32 : decode cX6_free 32 = .ok (.iconst 0, 1) := by decide +kernel
theorem dX6_free_33 : decode cX6_free 33 = .ok (.invokevirtual 94, 3) := by decide +kernel
theorem dX6_free_36 : decode cX6_free 36 = .ok (.aload_n 0, 1) := by decide +kernel
theorem dX6_free_37 : decode cX6_free 37 = .ok (.getfield 40, 3) := by decide +kernel
theorem dX6_free_40 : decode cX6_free 40 = .ok (.aload_n 0, 1) := by decide +kernel
theorem dX6_free_41 : decode cX6_free 41 = .ok (.getfield 33, 3) := by decide +kernel
theorem dX6_free_44 : decode cX6_free 44 = .ok (.invokevirtual 86, 3) := by decide +kernel
theorem dX6_free_47 : decode cX6_free 47 = .ok (.iconst 1, 1) := by decide +kernel
theorem dX6_free_48 : decode cX6_free 48 = .ok (.ireturn, 1) := by decide +kernel
set_option maxRecDepth 20000 in
theorem ggX6_mark_X1_setT : GoodIn wsX6_mark wsX1_setT := goodIn_r _ [7, 8, 72, 73, 74, 75, 76, 77, 78, 79, 80, 81, 82, 83, 84, 85, 86] (by decide +kernel) (by decide +kernel)
set_option maxRecDepth 20000 in
theorem gX6_mark_X1_setT : GoodIn wsX6_mark (wsV RX6 101 RX1 yX1_setT wsX1_setT) := goodIn_app (goodIn_of _ (by decide +kernel)) ggX6_mark_X1_setT
set_option maxRecDepth 20000 in
theorem ggX6_mark_X1_settle : GoodIn wsX6_mark wsX1_settle := goodIn_r _ [12, 13, 14, 15, 16, 17, 18, 6, 19, 20, 21, 22, 8, 23, 24, 25, 26, 27, 28, 29, 30, 31, 32, 33, 34, 35, 36, 37, 38, 39, 40, 41, 42, 43, 44, 45, 46, 47, 48, 49, 50, 51, 52, 53, 54, 55, 56, 57, 58, 59, 60, 61, 62, 63, 64, 65, 72, 73, 74, 75, 76, 77, 78, 79, 80, 81, 82, 83, 84, 85, 86, 87, 88, 89, 90, 91] (by decide +kernel) (by decide +kernel)
set_option maxRecDepth 20000 in
theorem gX6_mark_X1_settle : GoodIn wsX6_mark (wsV RX6 86 RX1 yX1_settle wsX1_settle) := goodIn_app (goodIn_of _ (by decide +kernel)) ggX6_mark_X1_settle
theorem dX6_mark_0 : decode cX6_mark 0 = .ok (.aload_n 0, 1) := by decide +kernel
theorem dX6_mark_1 : decode cX6_mark 1 = .ok (.getfield 40, 3) := by decide +kernel
theorem dX6_mark_4 : decode cX6_mark 4 = .ok (.iload_n 1, 1) := by decide +kernel
theorem dX6_mark_5 : decode cX6_mark 5 = .ok (.invokevirtual 101, 3) := by decide +kernel
theorem dX6_mark_8 : decode cX6_mark 8 = .ok (.ifCond .ne 5, 3) := by decide +kernel
theorem dX6_mark_11 : decode cX6_mark 11 = .ok (.iconst 0, 1) := by decide +kernel
theorem dX6_mark_12 : decode cX6_mark 12 = .ok (.ireturn, 1) := by decide +kernel
theorem dX6_mark_13 : decode cX6_mark 13 = .ok (.aload_n 0, 1) := by decide +kernel
theorem dX6_mark_14 : decode cX6_mark 14 = .ok (.getfield 40, 3) := by decide +kernel
theorem dX6_mark_17 : decode cX6_mark 17 = .ok (.aload_n 0, 1) := by decide +kernel
theorem dX6_mark_18 : decode cX6_mark 18 = .ok (.getfield 33, 3) := by decide +kernel
theorem dX6_mark_21 : decode cX6_mark 21 = .ok (.invokevirtual 86, 3) := by decide +kernel
theorem dX6_mark_24 : decode cX6_mark 24 = .ok (.iconst 1, 1) := by decide +kernel
theorem dX6_mark_25 : decode cX6_mark 25 = .ok (.ireturn, 1) := by decide +kernel
set_option maxRecDepth 20000 in
theorem ggX6_resettle_X1_partAll : GoodIn wsX6_resettle wsX1_partAll := goodIn_r _ [7, 8, 9, 10, 11, 12, 6, 13, 14, 15, 16, 17, 18, 19, 20, 21, 76, 77, 78, 79, 80, 81, 82, 83, 84, 85, 86, 87, 88, 89, 90] (by decide +kernel) (by decide +kernel)
set_option maxRecDepth 20000 in
theorem gX6_resettle_X1_partAll : GoodIn wsX6_resettle (wsV RX6 104 RX1 yX1_partAll wsX1_partAll) := goodIn_app (goodIn_of _ (by decide +kernel)) ggX6_resettle_X1_partAll
set_option maxRecDepth 20000 in
theorem ggX6_resettle_X1_settle : GoodIn wsX6_resettle wsX1_settle := goodIn_r _ [25, 26, 27, 28, 29, 30, 31, 6, 32, 8, 33, 9, 34, 35, 18, 19, 20, 21, 36, 37, 38, 39, 40, 41, 42, 43, 44, 45, 15, 46, 47, 48, 49, 50, 51, 52, 53, 54, 55, 56, 57, 17, 58, 59, 60, 61, 62, 63, 64, 65, 10, 11, 12, 13, 14, 16, 76, 77, 78, 79, 80, 81, 82, 83, 84, 85, 86, 87, 88, 89, 90, 91, 92, 93, 94, 95] (by decide +kernel) (by decide +kernel)
set_option maxRecDepth 20000 in
theorem gX6_resettle_X1_settle : GoodIn wsX6_resettle (wsV RX6 86 RX1 yX1_settle wsX1_settle) := goodIn_app (goodIn_of _ (by decide +kernel)) ggX6_resettle_X1_settle
set_option maxRecDepth 20000 in
theorem ggX6_resettle_X1_howMany : GoodIn wsX6_resettle wsX1_howMany := goodIn_r _ [69, 15, 76, 77, 78, 79, 80, 81, 82, 83, 84, 85, 86, 87, 88, 89, 90] (by decide +kernel) (by decide +kernel)
set_option maxRecDepth 20000 in
theorem gX6_resettle_X1_howMany : GoodIn wsX6_resettle (wsV RX6 107 RX1 yX1_howMany wsX1_howMany) := goodIn_app (goodIn_of _ (by decide +kernel)) ggX6_resettle_X1_howMany
theorem dX6_resettle_0 : decode cX6_resettle 0 = .ok (.aload_n 0, 1) := by decide +kernel
theorem dX6_resettle_1 : decode cX6_resettle 1 = .ok (.getfield 40, 3) := by decide +kernel
theorem dX6_resettle_4 : decode cX6_resettle 4 = .ok (.invokevirtual 104, 3) := by decide +kernel
theorem dX6_resettle_7 : decode cX6_resettle 7 = .ok (.aload_n 0, 1) := by decide +kernel
theorem dX6_resettle_8 : decode cX6_resettle 8 = .ok (.getfield 40, 3) := by decide +kernel
theorem dX6_resettle_11 : decode cX6_resettle 11 = .ok (.aload_n 0, 1) := by decide +kernel
theorem dX6_resettle_12 : decode cX6_resettle 12 = .ok (.getfield 33, 3) := by decide +kernel
theorem dX6_resettle_15 : decode cX6_resettle 15 = .ok (.invokevirtual 86, 3) := by decide +kernel
theorem dX6_resettle_18 : decode cX6_resettle 18 = .ok (.aload_n 0, 1) := by decide +kernel
theorem dX6_resettle_19 : decode cX6_resettle 19 = .ok (.getfield 40, 3) := by decide +kernel
theorem dX6_resettle_22 : decode cX6_resettle 22 = .ok (.invokevirtual 107, 3) := by decide +kernel
theorem dX6_resettle_25 : decode cX6_resettle 25 = .ok (.ireturn, 1) := by decide +kernel
set_option maxRecDepth 20000 in
theorem ggX6_distance_X3_has : GoodIn wsX6_distance wsX3_has := goodIn_r _ [7, 8, 21, 22, 23, 24, 25, 26] (by decide +kernel) (by decide +kernel)
set_option maxRecDepth 20000 in
theorem gX6_distance_X3_has : GoodIn wsX6_distance (wsV RX6 111 RX3 yX3_has wsX3_has) := goodIn_app (goodIn_of _ (by decide +kernel)) ggX6_distance_X3_has
set_option maxRecDepth 20000 in
theorem ggX6_distance_X0_between : GoodIn wsX6_distance wsX0_between := goodIn_r _ [13, 14, 27, 28, 29, 30, 31] (by decide +kernel) (by decide +kernel)
set_option maxRecDepth 20000 in
theorem gX6_distance_X0_between : GoodIn wsX6_distance (wsV RX6 112 RX0 yX0_between wsX0_between) := goodIn_app (goodIn_of _ (by decide +kernel)) ggX6_distance_X0_between
theorem dX6_distance_0 : decode cX6_distance 0 = .ok (.aload_n 0, 1) := by decide +kernel
theorem dX6_distance_1 : decode cX6_distance 1 = .ok (.getfield 26, 3) := by decide +kernel
theorem dX6_distance_4 : decode cX6_distance 4 = .ok (.iload_n 1, 1) := by decide +kernel
theorem dX6_distance_5 : decode cX6_distance 5 = .ok (.invokevirtual 111, 3) := by decide +kernel
theorem dX6_distance_8 : decode cX6_distance 8 = .ok (.ifCond .eq 26, 3) := by decide +kernel
theorem dX6_distance_11 : decode cX6_distance 11 = .ok (.aload_n 0, 1) := by decide +kernel
theorem dX6_distance_12 : decode cX6_distance 12 = .ok (.getfield 26, 3) := by decide +kernel
theorem dX6_distance_15 : decode cX6_distance 15 = .ok (.iload_n 2, 1) := by decide +kernel
theorem dX6_distance_16 : decode cX6_distance 16 = .ok (.invokevirtual 111, 3) := by decide +kernel
theorem dX6_distance_19 : decode cX6_distance 19 = .ok (.ifCond .eq 15, 3) := by decide +kernel
theorem dX6_distance_22 : decode cX6_distance 22 = .ok (.aload_n 0, 1) := by decide +kernel
theorem dX6_distance_23 : decode cX6_distance 23 = .ok (.getfield 33, 3) := by decide +kernel
theorem dX6_distance_26 : decode cX6_distance 26 = .ok (.iload_n 1, 1) := by decide +kernel
theorem dX6_distance_27 : decode cX6_distance 27 = .ok (.iload_n 2, 1) := by decide +kernel
theorem dX6_distance_28 : decode cX6_distance 28 = .ok (.invokevirtual 112, 3) := by decide +kernel
theorem dX6_distance_31 : decode cX6_distance 31 = .ok (.goto 4, 3) := by decide +kernel
theorem dX6_distance_34 : decode cX6_distance 34 = .ok (.iconst (-1), 1) := by decide +kernel
theorem dX6_distance_35 : decode cX6_distance 35 = .ok (.ireturn, 1) := by decide +kernel
set_option maxRecDepth 20000 in
theorem ggX6_heap_X3_has : GoodIn wsX6_heap wsX3_has := goodIn_r _ [7, 8, 22, 23, 24, 25, 26, 27] (by decide +kernel) (by decide +kernel)
set_option maxRecDepth 20000 in
theorem gX6_heap_X3_has : GoodIn wsX6_heap (wsV RX6 111 RX3 yX3_has wsX3_has) := goodIn_app (goodIn_of _ (by decide +kernel)) ggX6_heap_X3_has
set_option maxRecDepth 20000 in
theorem ggX6_heap_X1_leastBeside : GoodIn wsX6_heap wsX1_leastBeside := goodIn_r _ [13, 14, 15, 28, 29, 30, 31, 32, 33, 34, 35, 36, 37, 38, 39, 40, 41, 42] (by decide +kernel) (by decide +kernel)
set_option maxRecDepth 20000 in
theorem gX6_heap_X1_leastBeside : GoodIn wsX6_heap (wsV RX6 116 RX1 yX1_leastBeside wsX1_leastBeside) := goodIn_app (goodIn_of _ (by decide +kernel)) ggX6_heap_X1_leastBeside
theorem dX6_heap_0 : decode cX6_heap 0 = .ok (.aload_n 0, 1) := by decide +kernel
theorem dX6_heap_1 : decode cX6_heap 1 = .ok (.getfield 26, 3) := by decide +kernel
theorem dX6_heap_4 : decode cX6_heap 4 = .ok (.iload_n 1, 1) := by decide +kernel
theorem dX6_heap_5 : decode cX6_heap 5 = .ok (.invokevirtual 111, 3) := by decide +kernel
theorem dX6_heap_8 : decode cX6_heap 8 = .ok (.ifCond .eq 14, 3) := by decide +kernel
theorem dX6_heap_11 : decode cX6_heap 11 = .ok (.aload_n 0, 1) := by decide +kernel
theorem dX6_heap_12 : decode cX6_heap 12 = .ok (.getfield 40, 3) := by decide +kernel
theorem dX6_heap_15 : decode cX6_heap 15 = .ok (.iload_n 1, 1) := by decide +kernel
theorem dX6_heap_16 : decode cX6_heap 16 = .ok (.invokevirtual 116, 3) := by decide +kernel
theorem dX6_heap_19 : decode cX6_heap 19 = .ok (.goto 4, 3) := by decide +kernel
theorem dX6_heap_22 : decode cX6_heap 22 = .ok (.iconst (-1), 1) := by decide +kernel
theorem dX6_heap_23 : decode cX6_heap 23 = .ok (.ireturn, 1) := by decide +kernel
set_option maxRecDepth 20000 in
theorem ggX6_cost_X1_costOfAll : GoodIn wsX6_cost wsX1_costOfAll := goodIn_r _ [8, 9, 10, 11, 12, 7, 13, 14, 15, 16, 17, 18, 19, 20, 21, 22, 23, 24, 25, 26, 27, 28, 29, 30, 48, 49, 50, 51, 52, 53, 54, 55, 56, 57, 58, 59, 60, 61, 62, 63, 64, 65, 66, 67] (by decide +kernel) (by decide +kernel)
set_option maxRecDepth 20000 in
theorem gX6_cost_X1_costOfAll : GoodIn wsX6_cost (wsV RX6 119 RX1 yX1_costOfAll wsX1_costOfAll) := goodIn_app (goodIn_of _ (by decide +kernel)) ggX6_cost_X1_costOfAll
set_option maxRecDepth 20000 in
theorem ggX6_cost_X3_hasTwo : GoodIn wsX6_cost wsX3_hasTwo := goodIn_r _ [35, 36, 37, 38, 34, 39, 40, 68, 69, 70, 71, 72, 73] (by decide +kernel) (by decide +kernel)
set_option maxRecDepth 20000 in
theorem gX6_cost_X3_hasTwo : GoodIn wsX6_cost (wsV RX6 90 RX3 yX3_hasTwo wsX3_hasTwo) := goodIn_app (goodIn_of _ (by decide +kernel)) ggX6_cost_X3_hasTwo
set_option maxRecDepth 20000 in
theorem ggX6_cost_X1_costOfPair : GoodIn wsX6_cost wsX1_costOfPair := goodIn_r _ [13, 14, 15, 16, 17, 18, 19, 20, 21, 22, 23, 24, 25, 26, 27, 28, 7, 29, 30, 48, 49, 50, 51, 52, 53, 54, 55, 56, 57, 58, 59, 60, 61, 62, 63, 64, 65, 66, 67] (by decide +kernel) (by decide +kernel)
set_option maxRecDepth 20000 in
theorem gX6_cost_X1_costOfPair : GoodIn wsX6_cost (wsV RX6 123 RX1 yX1_costOfPair wsX1_costOfPair) := goodIn_app (goodIn_of _ (by decide +kernel)) ggX6_cost_X1_costOfPair
theorem dX6_cost_0 : decode cX6_cost 0 = .ok (.iload_n 2, 1) := by decide +kernel
theorem dX6_cost_1 : decode cX6_cost 1 = .ok (.iconst (-1), 1) := by decide +kernel
theorem dX6_cost_2 : decode cX6_cost 2 = .ok (.if_icmp .ne 15, 3) := by decide +kernel
theorem dX6_cost_5 : decode cX6_cost 5 = .ok (.aload_n 0, 1) := by decide +kernel
theorem dX6_cost_6 : decode cX6_cost 6 = .ok (.getfield 40, 3) := by decide +kernel
theorem dX6_cost_9 : decode cX6_cost 9 = .ok (.aload_n 0, 1) := by decide +kernel
theorem dX6_cost_10 : decode cX6_cost 10 = .ok (.getfield 33, 3) := by decide +kernel
theorem dX6_cost_13 : decode cX6_cost 13 = .ok (.invokevirtual 119, 3) := by decide +kernel
theorem dX6_cost_16 : decode cX6_cost 16 = .ok (.ireturn, 1) := by decide +kernel
theorem dX6_cost_17 : decode cX6_cost 17 = .ok (.aload_n 0, 1) := by decide +kernel
theorem dX6_cost_18 : decode cX6_cost 18 = .ok (.getfield 26, 3) := by decide +kernel
theorem dX6_cost_21 : decode cX6_cost 21 = .ok (.iload_n 1, 1) := by decide +kernel
theorem dX6_cost_22 : decode cX6_cost 22 = .ok (.iload_n 2, 1) := by decide +kernel
theorem dX6_cost_23 : decode cX6_cost 23 = .ok (.invokevirtual 90, 3) := by decide +kernel
theorem dX6_cost_26 : decode cX6_cost 26 = .ok (.ifCond .eq 19, 3) := by decide +kernel
theorem dX6_cost_29 : decode cX6_cost 29 = .ok (.aload_n 0, 1) := by decide +kernel
theorem dX6_cost_30 : decode cX6_cost 30 = .ok (.getfield 40, 3) := by decide +kernel
theorem dX6_cost_33 : decode cX6_cost 33 = .ok (.iload_n 1, 1) := by decide +kernel
theorem dX6_cost_34 : decode cX6_cost 34 = .ok (.iload_n 2, 1) := by decide +kernel
theorem dX6_cost_35 : decode cX6_cost 35 = .ok (.aload_n 0, 1) := by decide +kernel
theorem dX6_cost_36 : decode cX6_cost 36 = .ok (.getfield 33, 3) := by decide +kernel
theorem dX6_cost_39 : decode cX6_cost 39 = .ok (.invokevirtual 123, 3) := by decide +kernel
theorem dX6_cost_42 : decode cX6_cost 42 = .ok (.goto 4, 3) := by decide +kernel
theorem dX6_cost_45 : decode cX6_cost 45 = .ok (.iconst (-1), 1) := by decide +kernel
theorem dX6_cost_46 : decode cX6_cost 46 = .ok (.ireturn, 1) := by decide +kernel
set_option maxRecDepth 20000 in
theorem ggX6_row_X3_hasFrame : GoodIn wsX6_row wsX3_hasFrame := goodIn_r _ [6, 7, 8, 9, 10, 5, 11, 12, 24, 25, 26, 27, 28, 29] (by decide +kernel) (by decide +kernel)
set_option maxRecDepth 20000 in
theorem gX6_row_X3_hasFrame : GoodIn wsX6_row (wsV RX6 127 RX3 yX3_hasFrame wsX3_hasFrame) := goodIn_app (goodIn_of _ (by decide +kernel)) ggX6_row_X3_hasFrame
set_option maxRecDepth 20000 in
theorem ggX6_row_X3_frameAt : GoodIn wsX6_row wsX3_frameAt := goodIn_r _ [16, 17, 24, 25, 26, 27, 28, 29] (by decide +kernel) (by decide +kernel)
set_option maxRecDepth 20000 in
theorem gX6_row_X3_frameAt : GoodIn wsX6_row (wsV RX6 130 RX3 yX3_frameAt wsX3_frameAt) := goodIn_app (goodIn_of _ (by decide +kernel)) ggX6_row_X3_frameAt
theorem dX6_row_0 : decode cX6_row 0 = .ok (.aload_n 0, 1) := by decide +kernel
theorem dX6_row_1 : decode cX6_row 1 = .ok (.getfield 26, 3) := by decide +kernel
theorem dX6_row_4 : decode cX6_row 4 = .ok (.iload_n 1, 1) := by decide +kernel
theorem dX6_row_5 : decode cX6_row 5 = .ok (.iload_n 2, 1) := by decide +kernel
theorem dX6_row_6 : decode cX6_row 6 = .ok (.invokevirtual 127, 3) := by decide +kernel
theorem dX6_row_9 : decode cX6_row 9 = .ok (.ifCond .eq 15, 3) := by decide +kernel
theorem dX6_row_12 : decode cX6_row 12 = .ok (.aload_n 0, 1) := by decide +kernel
theorem dX6_row_13 : decode cX6_row 13 = .ok (.getfield 26, 3) := by decide +kernel
theorem dX6_row_16 : decode cX6_row 16 = .ok (.iload_n 1, 1) := by decide +kernel
theorem dX6_row_17 : decode cX6_row 17 = .ok (.iload_n 2, 1) := by decide +kernel
theorem dX6_row_18 : decode cX6_row 18 = .ok (.invokevirtual 130, 3) := by decide +kernel
theorem dX6_row_21 : decode cX6_row 21 = .ok (.goto 4, 3) := by decide +kernel
