section
-- ===== PART A: goes FIRST, ahead of the names: the tables' words, and 'selects' of the private methods out of them =====
/-- a private method of a class that the tables say can be made, by its rows of tables_1 -/
def lw_okq (q : MethodName × Nat) : Prop := (q.1.cls ≠ "java/lang/invoke/MethodHandle" ∧ q.1.cls ≠ "java/lang/invoke/VarHandle") ∧ Cond.instantiable q.1.cls q.2 ∈ tables_1 ∧ Cond.privateMethod q.1 ∈ tables_1 ∧ Cond.instanceMethod q.1 ∈ tables_1
theorem lw_p0 : lw_okq (⟨"FaultHeaps$ToldRow", "foldOnce", "()Z"⟩, 2) := ⟨⟨by decide +kernel, by decide +kernel⟩, List.mem_of_getElem? (i := 25) (by decide +kernel), List.mem_of_getElem? (i := 238) (by decide +kernel), List.mem_of_getElem? (i := 239) (by decide +kernel)⟩
theorem lw_p1 : lw_okq (⟨"FaultHeaps$ToldRow", "standsTwice", "(II)Z"⟩, 2) := ⟨⟨by decide +kernel, by decide +kernel⟩, List.mem_of_getElem? (i := 25) (by decide +kernel), List.mem_of_getElem? (i := 242) (by decide +kernel), List.mem_of_getElem? (i := 243) (by decide +kernel)⟩
theorem lw_p2 : lw_okq (⟨"FaultHeaps$ToldRow", "cut", "(II)V"⟩, 2) := ⟨⟨by decide +kernel, by decide +kernel⟩, List.mem_of_getElem? (i := 25) (by decide +kernel), List.mem_of_getElem? (i := 246) (by decide +kernel), List.mem_of_getElem? (i := 247) (by decide +kernel)⟩
theorem lw_p3 : lw_okq (⟨"FaultHeaps$Distances", "strip", "(LFaultHeaps$Reports;I)Z"⟩, 5) := ⟨⟨by decide +kernel, by decide +kernel⟩, List.mem_of_getElem? (i := 80) (by decide +kernel), List.mem_of_getElem? (i := 274) (by decide +kernel), List.mem_of_getElem? (i := 275) (by decide +kernel)⟩
theorem lw_p4 : lw_okq (⟨"FaultHeaps$Distances", "measure", "(II)I"⟩, 5) := ⟨⟨by decide +kernel, by decide +kernel⟩, List.mem_of_getElem? (i := 80) (by decide +kernel), List.mem_of_getElem? (i := 296) (by decide +kernel), List.mem_of_getElem? (i := 297) (by decide +kernel)⟩
theorem lw_p5 : lw_okq (⟨"FaultHeaps$Heaps", "numberAnew", "()V"⟩, 15) := ⟨⟨by decide +kernel, by decide +kernel⟩, List.mem_of_getElem? (i := 107) (by decide +kernel), List.mem_of_getElem? (i := 313) (by decide +kernel), List.mem_of_getElem? (i := 314) (by decide +kernel)⟩
theorem lw_p6 : lw_okq (⟨"FaultHeaps$Heaps", "weighJoining", "(LFaultHeaps$Distances;)V"⟩, 15) := ⟨⟨by decide +kernel, by decide +kernel⟩, List.mem_of_getElem? (i := 107) (by decide +kernel), List.mem_of_getElem? (i := 323) (by decide +kernel), List.mem_of_getElem? (i := 324) (by decide +kernel)⟩
theorem lw_p7 : lw_okq (⟨"FaultHeaps$Heaps", "weighMelting", "()V"⟩, 15) := ⟨⟨by decide +kernel, by decide +kernel⟩, List.mem_of_getElem? (i := 107) (by decide +kernel), List.mem_of_getElem? (i := 331) (by decide +kernel), List.mem_of_getElem? (i := 332) (by decide +kernel)⟩
theorem lw_p8 : lw_okq (⟨"FaultHeaps$Heaps", "findBest", "()V"⟩, 15) := ⟨⟨by decide +kernel, by decide +kernel⟩, List.mem_of_getElem? (i := 107) (by decide +kernel), List.mem_of_getElem? (i := 335) (by decide +kernel), List.mem_of_getElem? (i := 336) (by decide +kernel)⟩
theorem lw_p9 : lw_okq (⟨"FaultHeaps$Heaps", "findBestMove", "(I)V"⟩, 15) := ⟨⟨by decide +kernel, by decide +kernel⟩, List.mem_of_getElem? (i := 107) (by decide +kernel), List.mem_of_getElem? (i := 339) (by decide +kernel), List.mem_of_getElem? (i := 340) (by decide +kernel)⟩
theorem lw_p10 : lw_okq (⟨"FaultHeaps$Heaps", "weighMove", "(III)V"⟩, 15) := ⟨⟨by decide +kernel, by decide +kernel⟩, List.mem_of_getElem? (i := 107) (by decide +kernel), List.mem_of_getElem? (i := 343) (by decide +kernel), List.mem_of_getElem? (i := 344) (by decide +kernel)⟩
theorem lw_p11 : lw_okq (⟨"FaultHeaps$Heaps", "doBest", "()V"⟩, 15) := ⟨⟨by decide +kernel, by decide +kernel⟩, List.mem_of_getElem? (i := 107) (by decide +kernel), List.mem_of_getElem? (i := 347) (by decide +kernel), List.mem_of_getElem? (i := 348) (by decide +kernel)⟩
theorem lw_p12 : lw_okq (⟨"FaultHeaps$Marks", "gatherShared", "(LFaultHeaps$Reports;J)V"⟩, 5) := ⟨⟨by decide +kernel, by decide +kernel⟩, List.mem_of_getElem? (i := 160) (by decide +kernel), List.mem_of_getElem? (i := 456) (by decide +kernel), List.mem_of_getElem? (i := 457) (by decide +kernel)⟩
theorem lw_p13 : lw_okq (⟨"FaultHeaps$Marks", "findOne", "(J)Z"⟩, 5) := ⟨⟨by decide +kernel, by decide +kernel⟩, List.mem_of_getElem? (i := 160) (by decide +kernel), List.mem_of_getElem? (i := 464) (by decide +kernel), List.mem_of_getElem? (i := 465) (by decide +kernel)⟩
theorem lw_p14 : lw_okq (⟨"FaultHeaps$Marks", "findTwo", "(J)Z"⟩, 5) := ⟨⟨by decide +kernel, by decide +kernel⟩, List.mem_of_getElem? (i := 160) (by decide +kernel), List.mem_of_getElem? (i := 468) (by decide +kernel), List.mem_of_getElem? (i := 469) (by decide +kernel)⟩
theorem lw_p15 : lw_okq (⟨"FaultHeaps$Marks", "findThree", "(J)Z"⟩, 5) := ⟨⟨by decide +kernel, by decide +kernel⟩, List.mem_of_getElem? (i := 160) (by decide +kernel), List.mem_of_getElem? (i := 472) (by decide +kernel), List.mem_of_getElem? (i := 473) (by decide +kernel)⟩
def lw_privs_1 : List (MethodName × Nat) := [(⟨"FaultHeaps$ToldRow", "foldOnce", "()Z"⟩, 2), (⟨"FaultHeaps$ToldRow", "standsTwice", "(II)Z"⟩, 2), (⟨"FaultHeaps$ToldRow", "cut", "(II)V"⟩, 2), (⟨"FaultHeaps$Distances", "strip", "(LFaultHeaps$Reports;I)Z"⟩, 5), (⟨"FaultHeaps$Distances", "measure", "(II)I"⟩, 5), (⟨"FaultHeaps$Heaps", "numberAnew", "()V"⟩, 15), (⟨"FaultHeaps$Heaps", "weighJoining", "(LFaultHeaps$Distances;)V"⟩, 15), (⟨"FaultHeaps$Heaps", "weighMelting", "()V"⟩, 15), (⟨"FaultHeaps$Heaps", "findBest", "()V"⟩, 15), (⟨"FaultHeaps$Heaps", "findBestMove", "(I)V"⟩, 15), (⟨"FaultHeaps$Heaps", "weighMove", "(III)V"⟩, 15), (⟨"FaultHeaps$Heaps", "doBest", "()V"⟩, 15), (⟨"FaultHeaps$Marks", "gatherShared", "(LFaultHeaps$Reports;J)V"⟩, 5), (⟨"FaultHeaps$Marks", "findOne", "(J)Z"⟩, 5), (⟨"FaultHeaps$Marks", "findTwo", "(J)Z"⟩, 5), (⟨"FaultHeaps$Marks", "findThree", "(J)Z"⟩, 5)]
theorem lw_r1 : ∀ q ∈ lw_privs_1, lw_okq q := List.forall_mem_cons.mpr ⟨lw_p0, List.forall_mem_cons.mpr ⟨lw_p1, List.forall_mem_cons.mpr ⟨lw_p2, List.forall_mem_cons.mpr ⟨lw_p3, List.forall_mem_cons.mpr ⟨lw_p4, List.forall_mem_cons.mpr ⟨lw_p5, List.forall_mem_cons.mpr ⟨lw_p6, List.forall_mem_cons.mpr ⟨lw_p7, List.forall_mem_cons.mpr ⟨lw_p8, List.forall_mem_cons.mpr ⟨lw_p9, List.forall_mem_cons.mpr ⟨lw_p10, List.forall_mem_cons.mpr ⟨lw_p11, List.forall_mem_cons.mpr ⟨lw_p12, List.forall_mem_cons.mpr ⟨lw_p13, List.forall_mem_cons.mpr ⟨lw_p14, List.forall_mem_cons.mpr ⟨lw_p15, fun _ h => absurd h List.not_mem_nil⟩⟩⟩⟩⟩⟩⟩⟩⟩⟩⟩⟩⟩⟩⟩⟩
theorem lw_p16 : lw_okq (⟨"FaultHeaps", "howManyCameBack", "()I"⟩, 6) := ⟨⟨by decide +kernel, by decide +kernel⟩, List.mem_of_getElem? (i := 17) (by decide +kernel), List.mem_of_getElem? (i := 523) (by decide +kernel), List.mem_of_getElem? (i := 524) (by decide +kernel)⟩
theorem lw_p17 : lw_okq (⟨"FaultHeaps", "cameBack", "(I)Z"⟩, 6) := ⟨⟨by decide +kernel, by decide +kernel⟩, List.mem_of_getElem? (i := 17) (by decide +kernel), List.mem_of_getElem? (i := 527) (by decide +kernel), List.mem_of_getElem? (i := 528) (by decide +kernel)⟩
theorem lw_p18 : lw_okq (⟨"java/lang/Throwable", "fillInStackTrace", "(I)Ljava/lang/Throwable;"⟩, 6) := ⟨⟨by decide +kernel, by decide +kernel⟩, List.mem_of_getElem? (i := 584) (by decide +kernel), List.mem_of_getElem? (i := 582) (by decide +kernel), List.mem_of_getElem? (i := 583) (by decide +kernel)⟩
theorem lw_p19 : lw_okq (⟨"FaultHeapsModel", "isVersion", "(I)Z"⟩, 31) := ⟨⟨by decide +kernel, by decide +kernel⟩, List.mem_of_getElem? (i := 624) (by decide +kernel), List.mem_of_getElem? (i := 728) (by decide +kernel), List.mem_of_getElem? (i := 729) (by decide +kernel)⟩
theorem lw_p20 : lw_okq (⟨"FaultHeapsModel", "isBehind", "(II)Z"⟩, 31) := ⟨⟨by decide +kernel, by decide +kernel⟩, List.mem_of_getElem? (i := 624) (by decide +kernel), List.mem_of_getElem? (i := 736) (by decide +kernel), List.mem_of_getElem? (i := 737) (by decide +kernel)⟩
theorem lw_p21 : lw_okq (⟨"FaultHeapsModel", "folds", "()Z"⟩, 31) := ⟨⟨by decide +kernel, by decide +kernel⟩, List.mem_of_getElem? (i := 624) (by decide +kernel), List.mem_of_getElem? (i := 748) (by decide +kernel), List.mem_of_getElem? (i := 749) (by decide +kernel)⟩
theorem lw_p22 : lw_okq (⟨"FaultHeapsModel", "isTwice", "(II)Z"⟩, 31) := ⟨⟨by decide +kernel, by decide +kernel⟩, List.mem_of_getElem? (i := 624) (by decide +kernel), List.mem_of_getElem? (i := 752) (by decide +kernel), List.mem_of_getElem? (i := 753) (by decide +kernel)⟩
theorem lw_p23 : lw_okq (⟨"FaultHeapsModel", "settles", "()V"⟩, 31) := ⟨⟨by decide +kernel, by decide +kernel⟩, List.mem_of_getElem? (i := 624) (by decide +kernel), List.mem_of_getElem? (i := 756) (by decide +kernel), List.mem_of_getElem? (i := 757) (by decide +kernel)⟩
theorem lw_p24 : lw_okq (⟨"FaultHeapsModel", "findDistances", "()V"⟩, 31) := ⟨⟨by decide +kernel, by decide +kernel⟩, List.mem_of_getElem? (i := 624) (by decide +kernel), List.mem_of_getElem? (i := 760) (by decide +kernel), List.mem_of_getElem? (i := 761) (by decide +kernel)⟩
theorem lw_p25 : lw_okq (⟨"FaultHeapsModel", "findCommon", "()V"⟩, 31) := ⟨⟨by decide +kernel, by decide +kernel⟩, List.mem_of_getElem? (i := 624) (by decide +kernel), List.mem_of_getElem? (i := 764) (by decide +kernel), List.mem_of_getElem? (i := 765) (by decide +kernel)⟩
theorem lw_p26 : lw_okq (⟨"FaultHeapsModel", "isCommon", "(I)Z"⟩, 31) := ⟨⟨by decide +kernel, by decide +kernel⟩, List.mem_of_getElem? (i := 624) (by decide +kernel), List.mem_of_getElem? (i := 768) (by decide +kernel), List.mem_of_getElem? (i := 769) (by decide +kernel)⟩
theorem lw_p27 : lw_okq (⟨"FaultHeapsModel", "stands", "(II)Z"⟩, 31) := ⟨⟨by decide +kernel, by decide +kernel⟩, List.mem_of_getElem? (i := 624) (by decide +kernel), List.mem_of_getElem? (i := 772) (by decide +kernel), List.mem_of_getElem? (i := 773) (by decide +kernel)⟩
theorem lw_p28 : lw_okq (⟨"FaultHeapsModel", "turns", "(II)I"⟩, 31) := ⟨⟨by decide +kernel, by decide +kernel⟩, List.mem_of_getElem? (i := 624) (by decide +kernel), List.mem_of_getElem? (i := 776) (by decide +kernel), List.mem_of_getElem? (i := 777) (by decide +kernel)⟩
theorem lw_p29 : lw_okq (⟨"FaultHeapsModel", "withoutCommon", "(I[I)I"⟩, 31) := ⟨⟨by decide +kernel, by decide +kernel⟩, List.mem_of_getElem? (i := 624) (by decide +kernel), List.mem_of_getElem? (i := 780) (by decide +kernel), List.mem_of_getElem? (i := 781) (by decide +kernel)⟩
theorem lw_p30 : lw_okq (⟨"FaultHeapsModel", "findBest", "()V"⟩, 31) := ⟨⟨by decide +kernel, by decide +kernel⟩, List.mem_of_getElem? (i := 624) (by decide +kernel), List.mem_of_getElem? (i := 793) (by decide +kernel), List.mem_of_getElem? (i := 794) (by decide +kernel)⟩
theorem lw_p31 : lw_okq (⟨"FaultHeapsModel", "moved", "(II)I"⟩, 31) := ⟨⟨by decide +kernel, by decide +kernel⟩, List.mem_of_getElem? (i := 624) (by decide +kernel), List.mem_of_getElem? (i := 797) (by decide +kernel), List.mem_of_getElem? (i := 798) (by decide +kernel)⟩
def lw_privs_2 : List (MethodName × Nat) := [(⟨"FaultHeaps", "howManyCameBack", "()I"⟩, 6), (⟨"FaultHeaps", "cameBack", "(I)Z"⟩, 6), (⟨"java/lang/Throwable", "fillInStackTrace", "(I)Ljava/lang/Throwable;"⟩, 6), (⟨"FaultHeapsModel", "isVersion", "(I)Z"⟩, 31), (⟨"FaultHeapsModel", "isBehind", "(II)Z"⟩, 31), (⟨"FaultHeapsModel", "folds", "()Z"⟩, 31), (⟨"FaultHeapsModel", "isTwice", "(II)Z"⟩, 31), (⟨"FaultHeapsModel", "settles", "()V"⟩, 31), (⟨"FaultHeapsModel", "findDistances", "()V"⟩, 31), (⟨"FaultHeapsModel", "findCommon", "()V"⟩, 31), (⟨"FaultHeapsModel", "isCommon", "(I)Z"⟩, 31), (⟨"FaultHeapsModel", "stands", "(II)Z"⟩, 31), (⟨"FaultHeapsModel", "turns", "(II)I"⟩, 31), (⟨"FaultHeapsModel", "withoutCommon", "(I[I)I"⟩, 31), (⟨"FaultHeapsModel", "findBest", "()V"⟩, 31), (⟨"FaultHeapsModel", "moved", "(II)I"⟩, 31)]
theorem lw_r2 : ∀ q ∈ lw_privs_2, lw_okq q := List.forall_mem_cons.mpr ⟨lw_p16, List.forall_mem_cons.mpr ⟨lw_p17, List.forall_mem_cons.mpr ⟨lw_p18, List.forall_mem_cons.mpr ⟨lw_p19, List.forall_mem_cons.mpr ⟨lw_p20, List.forall_mem_cons.mpr ⟨lw_p21, List.forall_mem_cons.mpr ⟨lw_p22, List.forall_mem_cons.mpr ⟨lw_p23, List.forall_mem_cons.mpr ⟨lw_p24, List.forall_mem_cons.mpr ⟨lw_p25, List.forall_mem_cons.mpr ⟨lw_p26, List.forall_mem_cons.mpr ⟨lw_p27, List.forall_mem_cons.mpr ⟨lw_p28, List.forall_mem_cons.mpr ⟨lw_p29, List.forall_mem_cons.mpr ⟨lw_p30, List.forall_mem_cons.mpr ⟨lw_p31, fun _ h => absurd h List.not_mem_nil⟩⟩⟩⟩⟩⟩⟩⟩⟩⟩⟩⟩⟩⟩⟩⟩
theorem lw_p32 : lw_okq (⟨"FaultHeapsModel", "gain", "(II)I"⟩, 31) := ⟨⟨by decide +kernel, by decide +kernel⟩, List.mem_of_getElem? (i := 624) (by decide +kernel), List.mem_of_getElem? (i := 801) (by decide +kernel), List.mem_of_getElem? (i := 802) (by decide +kernel)⟩
theorem lw_p33 : lw_okq (⟨"FaultHeapsModel", "pairCost", "(IIZ)I"⟩, 31) := ⟨⟨by decide +kernel, by decide +kernel⟩, List.mem_of_getElem? (i := 624) (by decide +kernel), List.mem_of_getElem? (i := 805) (by decide +kernel), List.mem_of_getElem? (i := 806) (by decide +kernel)⟩
theorem lw_p34 : lw_okq (⟨"FaultHeapsModel", "asks", "(IIIZ)V"⟩, 31) := ⟨⟨by decide +kernel, by decide +kernel⟩, List.mem_of_getElem? (i := 624) (by decide +kernel), List.mem_of_getElem? (i := 809) (by decide +kernel), List.mem_of_getElem? (i := 810) (by decide +kernel)⟩
theorem lw_p35 : lw_okq (⟨"FaultHeapsModel", "inHeap", "(I)I"⟩, 31) := ⟨⟨by decide +kernel, by decide +kernel⟩, List.mem_of_getElem? (i := 624) (by decide +kernel), List.mem_of_getElem? (i := 813) (by decide +kernel), List.mem_of_getElem? (i := 814) (by decide +kernel)⟩
theorem lw_p36 : lw_okq (⟨"FaultHeapsModel", "melted", "(II)I"⟩, 31) := ⟨⟨by decide +kernel, by decide +kernel⟩, List.mem_of_getElem? (i := 624) (by decide +kernel), List.mem_of_getElem? (i := 817) (by decide +kernel), List.mem_of_getElem? (i := 818) (by decide +kernel)⟩
theorem lw_p37 : lw_okq (⟨"FaultHeapsModel", "names", "()V"⟩, 31) := ⟨⟨by decide +kernel, by decide +kernel⟩, List.mem_of_getElem? (i := 624) (by decide +kernel), List.mem_of_getElem? (i := 821) (by decide +kernel), List.mem_of_getElem? (i := 822) (by decide +kernel)⟩
theorem lw_p38 : lw_okq (⟨"FaultHeapsModel", "heaps", "()I"⟩, 31) := ⟨⟨by decide +kernel, by decide +kernel⟩, List.mem_of_getElem? (i := 624) (by decide +kernel), List.mem_of_getElem? (i := 829) (by decide +kernel), List.mem_of_getElem? (i := 830) (by decide +kernel)⟩
theorem lw_p39 : lw_okq (⟨"FaultHeapsModel", "areTwo", "(II)Z"⟩, 31) := ⟨⟨by decide +kernel, by decide +kernel⟩, List.mem_of_getElem? (i := 624) (by decide +kernel), List.mem_of_getElem? (i := 837) (by decide +kernel), List.mem_of_getElem? (i := 838) (by decide +kernel)⟩
theorem lw_p40 : lw_okq (⟨"FaultHeapsModel", "isReport", "(I)Z"⟩, 31) := ⟨⟨by decide +kernel, by decide +kernel⟩, List.mem_of_getElem? (i := 624) (by decide +kernel), List.mem_of_getElem? (i := 841) (by decide +kernel), List.mem_of_getElem? (i := 842) (by decide +kernel)⟩
theorem lw_p41 : lw_okq (⟨"FaultHeapsModel", "tells", "(III)V"⟩, 31) := ⟨⟨by decide +kernel, by decide +kernel⟩, List.mem_of_getElem? (i := 624) (by decide +kernel), List.mem_of_getElem? (i := 845) (by decide +kernel), List.mem_of_getElem? (i := 846) (by decide +kernel)⟩
theorem lw_p42 : lw_okq (⟨"FaultHeapsModel", "findShared", "(I)V"⟩, 31) := ⟨⟨by decide +kernel, by decide +kernel⟩, List.mem_of_getElem? (i := 624) (by decide +kernel), List.mem_of_getElem? (i := 881) (by decide +kernel), List.mem_of_getElem? (i := 882) (by decide +kernel)⟩
theorem lw_p43 : lw_okq (⟨"FaultHeapsModel", "seeks", "(IIII)Z"⟩, 31) := ⟨⟨by decide +kernel, by decide +kernel⟩, List.mem_of_getElem? (i := 624) (by decide +kernel), List.mem_of_getElem? (i := 885) (by decide +kernel), List.mem_of_getElem? (i := 886) (by decide +kernel)⟩
theorem lw_p44 : lw_okq (⟨"FaultHeapsModel", "isMark", "(II)Z"⟩, 31) := ⟨⟨by decide +kernel, by decide +kernel⟩, List.mem_of_getElem? (i := 624) (by decide +kernel), List.mem_of_getElem? (i := 889) (by decide +kernel), List.mem_of_getElem? (i := 890) (by decide +kernel)⟩
theorem lw_p45 : lw_okq (⟨"FaultHeapsModel", "cameBack", "(I)Z"⟩, 31) := ⟨⟨by decide +kernel, by decide +kernel⟩, List.mem_of_getElem? (i := 624) (by decide +kernel), List.mem_of_getElem? (i := 905) (by decide +kernel), List.mem_of_getElem? (i := 906) (by decide +kernel)⟩
def lw_privs_3 : List (MethodName × Nat) := [(⟨"FaultHeapsModel", "gain", "(II)I"⟩, 31), (⟨"FaultHeapsModel", "pairCost", "(IIZ)I"⟩, 31), (⟨"FaultHeapsModel", "asks", "(IIIZ)V"⟩, 31), (⟨"FaultHeapsModel", "inHeap", "(I)I"⟩, 31), (⟨"FaultHeapsModel", "melted", "(II)I"⟩, 31), (⟨"FaultHeapsModel", "names", "()V"⟩, 31), (⟨"FaultHeapsModel", "heaps", "()I"⟩, 31), (⟨"FaultHeapsModel", "areTwo", "(II)Z"⟩, 31), (⟨"FaultHeapsModel", "isReport", "(I)Z"⟩, 31), (⟨"FaultHeapsModel", "tells", "(III)V"⟩, 31), (⟨"FaultHeapsModel", "findShared", "(I)V"⟩, 31), (⟨"FaultHeapsModel", "seeks", "(IIII)Z"⟩, 31), (⟨"FaultHeapsModel", "isMark", "(II)Z"⟩, 31), (⟨"FaultHeapsModel", "cameBack", "(I)Z"⟩, 31)]
theorem lw_r3 : ∀ q ∈ lw_privs_3, lw_okq q := List.forall_mem_cons.mpr ⟨lw_p32, List.forall_mem_cons.mpr ⟨lw_p33, List.forall_mem_cons.mpr ⟨lw_p34, List.forall_mem_cons.mpr ⟨lw_p35, List.forall_mem_cons.mpr ⟨lw_p36, List.forall_mem_cons.mpr ⟨lw_p37, List.forall_mem_cons.mpr ⟨lw_p38, List.forall_mem_cons.mpr ⟨lw_p39, List.forall_mem_cons.mpr ⟨lw_p40, List.forall_mem_cons.mpr ⟨lw_p41, List.forall_mem_cons.mpr ⟨lw_p42, List.forall_mem_cons.mpr ⟨lw_p43, List.forall_mem_cons.mpr ⟨lw_p44, List.forall_mem_cons.mpr ⟨lw_p45, fun _ h => absurd h List.not_mem_nil⟩⟩⟩⟩⟩⟩⟩⟩⟩⟩⟩⟩⟩⟩
def lw_privs : List (MethodName × Nat) := lw_privs_1 ++ (lw_privs_2 ++ (lw_privs_3))
def lw_tbl : List Cond := k2_sels lw_privs ++ tables_1
theorem lw_privs_ok : ∀ q ∈ lw_privs, lw_okq q := by
  show ∀ q ∈ lw_privs_1 ++ (lw_privs_2 ++ (lw_privs_3)), lw_okq q
  exact List.forall_mem_append.mpr ⟨lw_r1, List.forall_mem_append.mpr ⟨lw_r2, lw_r3⟩⟩
end
section
/-- an array class over arrays of a type -/
def va_AOA (ty : FieldType) (U : State) : Prop := (Cond.arrayOver (.array ty)).before #[] U = true
theorem va_AOA.of {ty : FieldType} {A : Array Value} {U : State} (h : (Cond.arrayOver (.array ty)).before A U = true) : va_AOA ty U := h
theorem va_AOA.use {ty : FieldType} {A : Array Value} {U : State} (h : va_AOA ty U) : (Cond.arrayOver (.array ty)).before A U = true := h
/-! ===== BEGIN words of one list among another's, by their places ===== -/
theorem goodIn_r {big : List Cond} (ws : List Cond) (ps : List Nat) (hp : ws = ps.filterMap (fun i => big[i]?)) (h : ws.all goodWord = true) : GoodIn big ws := by
  intro w hw
  have h1 := List.all_eq_true.mp h w hw
  rw [hp] at hw
  obtain ⟨i, -, hi⟩ := List.mem_filterMap.mp hw
  have hm : w ∈ big := by first | exact List.mem_of_getElem? hi | exact List.getElem?_mem hi
  exact ⟨hm, good_of_word h1⟩
theorem goodIn_app {big a b : List Cond} (ha : GoodIn big a) (hb : GoodIn big b) : GoodIn big (a ++ b) := fun w h => (List.mem_append.mp h).elim (ha w) (hb w)
theorem goodIn_ca {big a b : List Cond} {c : Cond} (ha : GoodIn big (c :: a)) (hb : GoodIn big b) : GoodIn big (c :: (a ++ b)) := fun w h => (List.mem_cons.mp h).elim (fun e => ha w (List.mem_cons.mpr (Or.inl e))) (fun h => (List.mem_append.mp h).elim (fun h => ha w (List.mem_cons.mpr (Or.inr h))) (hb w))
theorem goodIn_sub {big ws : List Cond} (hm : ∀ w ∈ ws, w ∈ big) (h : ws.all goodWord = true) : GoodIn big ws := fun w hw => ⟨hm w hw, good_of_word (List.all_eq_true.mp h w hw)⟩
/-! ===== END ===== -/

/-! ===== BEGIN new T[n][m]: the outer array a place, the inner ones among the pooled ===== -/
/-- f, but v at every address of l -/
def vr_up {α : Type} (f : Nat → α) (l : List Nat) (v : α) : Nat → α := fun a => if a ∈ l then v else f a
theorem vr_up_in {α : Type} {f : Nat → α} {l : List Nat} {v : α} {a : Nat} (h : a ∈ l) : vr_up f l v a = v := if_pos h
theorem vr_up_ne {α : Type} {f : Nat → α} {l : List Nat} {v : α} {a : Nat} (h : a ∉ l) : vr_up f l v a = f a := if_neg h
theorem vr_rows {L l : List Nat} {f : Nat → va_E} {e : va_E} (h : ∀ a, a ∈ l → a ∉ L) : va_pl L f ++ l.map (fun a => (a, e)) = va_pl (L ++ l) (vr_up f l e) := by
  unfold va_pl
  rw [List.map_append]
  congr 1
  · apply List.map_congr_left
    intro a ha
    rw [vr_up_ne (fun q => h a q ha)]
  · apply List.map_congr_left
    intro a ha
    rw [vr_up_in ha]
theorem vr_lay {X rows : va_W} {x : Nat × va_E} {pl : va_W} {D : va_G} {cl : List vw_C} {H : Heap} (hP : va_P D cl (((X ++ pl) ++ [x]) ++ rows) H) : va_P D cl ((X ++ [x]) ++ (pl ++ rows)) H := by
  rw [List.append_assoc (X ++ pl)] at hP
  have h := va_P.swap hP
  rw [← List.append_assoc X] at h
  have h2 := va_P.swap h
  rw [List.append_assoc (X ++ [x])] at h2
  exact h2
theorem vr_layD {X rows : va_W} {x : Nat × va_E} {pl : va_W} {A : Nat → Prop} (hD : va_D A (((X ++ pl) ++ [x]) ++ rows)) : va_D A ((X ++ [x]) ++ (pl ++ rows)) := by
  rw [List.append_assoc (X ++ pl)] at hD
  have h := va_D.swap hD
  rw [← List.append_assoc X] at h
  have h2 := va_D.swap h
  rw [List.append_assoc (X ++ [x])] at h2
  exact h2
theorem vr_outer (c : ClassId) (N h0 : Nat) : ∀ i : Nat, Jvm.Free.Multi.outerC c N h0 i = arrV c N (fun j => va_rf (if j < i then some (h0 + 1 + j) else none))
  | 0 => by
    show ({ cls := c, slots := Array.replicate N .null, vm := .none } : Cell) = _
    rw [arrV_new]
    refine congrArg (arrV c N) (funext fun j => ?_)
    simp [va_rf]
  | i + 1 => by
    show (Jvm.Free.Multi.outerC c N h0 i).setSlot i (.ref (h0 + 1 + i)) = _
    rw [vr_outer c N h0 i, arrV_store]
    refine congrArg (arrV c N) (funext fun j => ?_)
    by_cases e : j = i
    · subst e
      simp [updV, va_rf]
    · by_cases h : j < i
      · simp [updV, e, h, Nat.lt_succ_of_lt h]
      · simp [updV, e, h, show ¬ j < i + 1 by omega]
section VGM
variable {p : Program} {l : Launch} {e : Env} {R : Room} {s : State} {m : MethodId} {args : Array Value} {below : List Frame} {meth : Method} {c : Code} {H : Heap} {locs : List Loc} {cells slots : Nat} {Q : State → Prop}
variable {cc : ByteArray} {pc : Nat} {ls : Array Slot} {rest : List Value} {D : va_G} {cl : List vw_C} {A : Nat → Prop} {a : Nat} {tys : List (ClassId × FieldType)} {ws : va_W} {H0 : Heap}
theorem va_mna {X : va_W} {L : List Nat} {f : Nat → va_E} {cc : ByteArray} (hexec : p.tables.exec = Jvm.exec) (hb : c.code = cc) {own : String} {index : Nat} {ty : FieldType} {cy : ClassId} (hown : s.vm.findClass own = some m.cls) (hclink : (Cond.classLink own index ("[" ++ (FieldType.array ty).toString)).before args s = true) (hover : va_AOA ty s) (harr : (Cond.arrayClass ty).before args s = true) (hcy : s.vm.findClass (FieldType.array ty).toString = some cy)
    (hK : va_K D cl tys s) (hP : va_P D cl (X ++ va_pl L f) H) (hD : va_D A (X ++ va_pl L f)) (hS : va_S A H0 H locs) (hA : ∀ q, H0.size ≤ q → A q) {n k : Int32} {N' K' : Nat} {z : vp_A} (hn : ¬ n < 0) (hk : ¬ k < 0) (hN : n.toNatClampNeg = N') (hM : k.toNatClampNeg = K')
    (hb1 : N' * 4 ≤ 536870912) (hb2 : K' * componentBytes ty ≤ 536870912) (hb3 : K' ≤ 536870912) (hdf : fits ty (defaultValue ty) = true) (hdd : (defaultValue ty).isDefault = true) (hcells : cells + (1 + N') ≤ R.cells) (hslots : slots + (N' + N' * K') ≤ R.slots) (hz : ∀ c : ClassId, Jvm.Free.Multi.innerC c K' (defaultValue ty) = vp_cell c z) (hdg : decode cc pc = .ok (.multianewarray index 2, 4))
    (kk : ∀ (q : Nat) (r : Nat → Nat) (cA : ClassId) (H1 : Heap), (∀ i j : Nat, i < N' → j < N' → r i = r j → i = j) → (∀ i : Nat, i < N' → r i ∉ L) → va_K D cl (tys ++ [(cA, .array ty)]) s →
      va_P D cl ((X ++ [(q, .inl (cA, N', .inr (.inr (.inr (.inr (fun i => if i < N' then some (r i) else none))))))]) ++ va_pl (L ++ (List.range N').map r) (vr_up f ((List.range N').map r) (.inl (cy, z)))) H1 → va_D A ((X ++ [(q, .inl (cA, N', .inr (.inr (.inr (.inr (fun i => if i < N' then some (r i) else none))))))]) ++ va_pl (L ++ (List.range N').map r) (vr_up f ((List.range N').map r) (.inl (cy, z)))) → va_S A H0 H1 locs →
      W p l e R s m args below meth c H1 locs (cells + 1 + N') (slots + N' + N' * K') Q (F0 m (pc + 4) ls (.ref q :: rest))) : W p l e R s m args below meth c H locs cells slots Q (F0 m pc ls (.int k :: .int n :: rest)) := by
  subst hN
  subst hM
  intro T hT Xs
  obtain ⟨vm₁, cA, comp, -, fA, fC, hO, -, X', step⟩ := Xs.multianewarray2F hexec hown hclink (va_AOA.use hover) harr (g := F0 m pc ls (.int k :: .int n :: rest)) rfl (by rw [hb]; exact hdg) rfl hn hk hb1 hb2 hb3 hdf hdd hcells hslots
  have ec : some cy = some comp := hcy.symm.trans fC
  cases ec
  generalize hF : Jvm.Free.Multi.fill (T.setVm vm₁) cA cy n.toNatClampNeg k.toNatClampNeg (defaultValue ty) n.toNatClampNeg = F at X' step
  have hTh : (T.setVm vm₁).heap = H := hT
  obtain ⟨f1, f2, -, -⟩ := Jvm.Free.Multi.fill_facts (T.setVm vm₁) cA cy n.toNatClampNeg k.toNatClampNeg (defaultValue ty) n.toNatClampNeg
  rw [hF, hTh] at f1 f2
  have hold : ∀ x : Nat, x < H.size → F.heap[x]? = H[x]? := fun x hx => by
    have := Jvm.Free.Multi.fill_old (T.setVm vm₁) cA cy n.toNatClampNeg k.toNatClampNeg (defaultValue ty) (a := x) (by rw [hTh]; exact hx) n.toNatClampNeg
    rw [hF, hTh] at this
    exact this
  have hrow : ∀ j : Nat, j < n.toNatClampNeg → F.heap[H.size + 1 + j]? = some (vp_cell cy z) := fun j hj => by
    have := Jvm.Free.Multi.fill_inner (T.setVm vm₁) cA cy n.toNatClampNeg k.toNatClampNeg (defaultValue ty) n.toNatClampNeg j hj
    rw [hF, hTh, hz] at this
    exact this
  have hout : Jvm.Free.Multi.outerC cA n.toNatClampNeg H.size n.toNatClampNeg = vp_cell cA (n.toNatClampNeg, .inr (.inr (.inr (.inr (fun i => if i < n.toNatClampNeg then some (H.size + 1 + i) else none))))) := by
    rw [vp_cell_q]
    exact vr_outer cA n.toNatClampNeg H.size n.toNatClampNeg
  rw [hout] at f2
  have hlt : ∀ a, a ∈ L → a < H.size := fun a ha => by
    obtain ⟨k9, hk9⟩ := va_pl_get (X := X) (f := f) ha
    exact (hP k9 _ hk9).lt
  have hnl : ∀ i : Nat, i < n.toNatClampNeg → H.size + 1 + i ∉ L := fun i _ h => by
    have := hlt _ h
    omega
  have hnm : ∀ a, a ∈ (List.range n.toNatClampNeg).map (fun i => H.size + 1 + i) → a ∉ L := fun a ha h => by
    obtain ⟨i, -, rfl⟩ := List.mem_map.mp ha
    have := hlt _ h
    omega
  have hP0 : va_P D cl (X ++ va_pl L f) F.heap := hP.kept (fun k9 x hx => hold x.1 ((hP k9 x hx).lt))
  have hP1 : va_P D cl ((X ++ va_pl L f) ++ [(H.size, .inl (cA, n.toNatClampNeg, .inr (.inr (.inr (.inr (fun i => if i < n.toNatClampNeg then some (H.size + 1 + i) else none))))))]) F.heap := hP0.app (fun k9 x hx => by
    have h0 : k9 < 1 := (List.getElem?_eq_some_iff.mp hx).1
    rw [show k9 = 0 by omega] at hx
    cases hx
    exact f2)
  have hP2 : va_P D cl (((X ++ va_pl L f) ++ [(H.size, .inl (cA, n.toNatClampNeg, .inr (.inr (.inr (.inr (fun i => if i < n.toNatClampNeg then some (H.size + 1 + i) else none))))))]) ++ ((List.range n.toNatClampNeg).map (fun i => H.size + 1 + i)).map (fun a => (a, .inl (cy, z)))) F.heap := hP1.app (fun k9 x hx => by
    obtain ⟨a, ha, rfl⟩ := List.mem_map.mp (List.mem_of_getElem? hx)
    obtain ⟨i, hi, rfl⟩ := List.mem_map.mp ha
    exact hrow i (List.mem_range.mp hi))
  have hD2 : va_D A (((X ++ va_pl L f) ++ [(H.size, .inl (cA, n.toNatClampNeg, .inr (.inr (.inr (.inr (fun i => if i < n.toNatClampNeg then some (H.size + 1 + i) else none))))))]) ++ ((List.range n.toNatClampNeg).map (fun i => H.size + 1 + i)).map (fun a => (a, .inl (cy, z)))) := by
    have hD1 := hD.push (e := .inl (cA, n.toNatClampNeg, .inr (.inr (.inr (.inr (fun i => if i < n.toNatClampNeg then some (H.size + 1 + i) else none)))))) hP rfl (hA _ hS.1)
    generalize hW1 : (X ++ va_pl L f) ++ [(H.size, .inl (cA, n.toNatClampNeg, .inr (.inr (.inr (.inr (fun i => if i < n.toNatClampNeg then some (H.size + 1 + i) else none))))))] = W1 at hD1 hP1 ⊢
    have hle : ∀ (k9 : Nat) (x : Nat × va_E), W1[k9]? = some x → x.1 ≤ H.size := fun k9 x hx => by
      rw [← hW1] at hx
      by_cases hl : k9 < (X ++ va_pl L f).length
      · rw [List.getElem?_append_left hl] at hx
        exact Nat.le_of_lt ((hP k9 x hx).lt)
      · rw [List.getElem?_append_right (by omega)] at hx
        have h0 : k9 - (X ++ va_pl L f).length < 1 := (List.getElem?_eq_some_iff.mp hx).1
        rw [show k9 - (X ++ va_pl L f).length = 0 by omega] at hx
        cases hx
        exact Nat.le_refl _
    have hr : ∀ (k9 : Nat) (x : Nat × va_E), (((List.range n.toNatClampNeg).map (fun i => H.size + 1 + i)).map (fun a => ((a, .inl (cy, z)) : Nat × va_E)))[k9]? = some x → x.1 = H.size + 1 + k9 := fun k9 x hx => by
      rw [List.getElem?_map, List.getElem?_map] at hx
      by_cases h9 : k9 < n.toNatClampNeg
      · rw [List.getElem?_range h9] at hx
        cases hx
        rfl
      · have hn0 : (List.range n.toNatClampNeg)[k9]? = none := List.getElem?_eq_none (by rw [List.length_range]; omega)
        rw [hn0] at hx
        cases hx
    refine ⟨fun i j x y hi hj hxy => ?_, fun k9 x hx => ?_⟩
    · by_cases h1 : i < W1.length <;> by_cases h2 : j < W1.length
      · rw [List.getElem?_append_left h1] at hi
        rw [List.getElem?_append_left h2] at hj
        exact hD1.1 i j x y hi hj hxy
      · rw [List.getElem?_append_left h1] at hi
        rw [List.getElem?_append_right (by omega)] at hj
        have := hle _ _ hi
        have := hr _ _ hj
        omega
      · rw [List.getElem?_append_right (by omega)] at hi
        rw [List.getElem?_append_left h2] at hj
        have := hle _ _ hj
        have := hr _ _ hi
        omega
      · rw [List.getElem?_append_right (by omega)] at hi hj
        have := hr _ _ hi
        have := hr _ _ hj
        omega
    · by_cases h1 : k9 < W1.length
      · rw [List.getElem?_append_left h1] at hx
        exact hD1.2 k9 x hx
      · rw [List.getElem?_append_right (by omega)] at hx
        have := hr _ _ hx
        exact hA _ (by have := hS.1; omega)
  have hAr : ArrOfT s cA (.array ty) := fun N9 z9 => by
    obtain ⟨-, k9, hk9, cm9, hkk9⟩ := (hO 0 0 0).1
    exact ⟨(fun q hq => by cases hq), k9, hk9, cm9, hkk9⟩
  have hK2 : va_K D cl (tys ++ [(cA, .array ty)]) s := ⟨hK.1, fun k9 x hx => by
    by_cases hl : k9 < tys.length
    · rw [List.getElem?_append_left hl] at hx
      exact hK.2 k9 x hx
    · rw [List.getElem?_append_right (by omega)] at hx
      have h0 : k9 - tys.length < 1 := (List.getElem?_eq_some_iff.mp hx).1
      rw [show k9 - tys.length = 0 by omega] at hx
      cases hx
      exact ⟨hAr, fA⟩⟩
  obtain ⟨t, a1, b1⟩ := kk H.size (fun i => H.size + 1 + i) cA F.heap (fun i j _ _ h => by have h9 : H.size + 1 + i = H.size + 1 + j := h; omega) hnl hK2 (by rw [← vr_rows hnm]; exact vr_lay hP2) (by rw [← vr_rows hnm]; exact vr_layD hD2) ⟨by rw [f1]; have := hS.1; omega, fun x h1 h2 => (hold x (Nat.lt_of_lt_of_le h1 hS.1)).trans (hS.2.1 x h1 h2), hS.2.2⟩ F rfl X'
  refine ⟨t, step t ?_, b1⟩
  have e : T.heap.size = H.size := by rw [hT]
  rw [e]
  exact a1
end VGM
/-! ===== END ===== -/

/-! ===== BEGIN exceptions that leave a method, and their catching by the caller (launches without stack traces) ===== -/
section VXA
/-! The laws vx_back, vx_callV, vx_callS, vx_callSW, vx_throw0, vx_throwS follow proofs of the library, with one case more: JvmDerived/Free/Laws.lean (Back.of_free), Shelf42/LK1.lean (callV, callS), Shelf/KitTraced.lean (throwNew0V, throwNewS). -/
/-- where a method has thrown q: the class by its name, the cell, what was written, the world -/
def vx_T (XC : String → State → State → Prop) (st : State) (q : Addr) (t : State) (mc ms : Nat) (free : Addr → Prop) : Prop :=
  ∃ (E : String) (ce : Cell) (L : List Loc), XC E st t ∧ t.heap[q]? = some ce ∧ ce.vm = .none ∧ st.vm.findClass E = some ce.cls ∧ st.WarmedH t.vm ∧ st.sameButNew ({ t with vm := st.vm } : State) L mc ms ∧ ∀ z ∈ L, free z.base
def vx_Q (Qc : Array Value → State → Outcome → State → Prop) (XC : String → State → State → Prop) (mc ms : Nat) (free : Addr → Prop) : Array Value → State → Outcome → State → Prop := fun a st o t =>
  (Qc a st o t ∧ ∃ L, FrameEnd st o t L mc ms ∧ ∀ q ∈ L, free q.base) ∨ ∃ q, o = .threw q ∧ vx_T XC st q t mc ms free
/-- a callee that returns or throws -/
def vx_Met (l : Launch) (y : MethodName) (ws : List Cond) (rm : Room) (Pc : Array Value → State → Prop) (Qc : Array Value → State → Outcome → State → Prop) (XC : String → State → State → Prop) (mc ms : Nat) (free : Addr → Prop) : Prop :=
  MetFree l y (headSpec ws rm) Pc (fun _ _ _ _ _ => True) (vx_Q Qc XC mc ms free)
def vx_Post (XC : String → State → State → Prop) (mc ms : Nat) (free : Addr → Prop) : Pt → Array Value → Addr → Pt → Prop := fun A a q B =>
  ∃ (g : JFrame) (mk : MethodId) (t : State) (L : List Loc) (E : String) (ce : Cell), B.U.heap = t.heap ∧ B.U.vm = t.vm ∧ XC E (A.U.calling g mk a) t ∧ t.heap[q]? = some ce ∧ ce.vm = .none ∧ A.U.vm.findClass E = some ce.cls ∧ B.locs = A.locs ++ L ∧ (∀ z ∈ L, free z.base) ∧ B.cells = A.cells + mc ∧ B.slots = A.slots + ms
def vx_Back (l : Launch) (R : Room) (p : Program) (e : Env) (below : List Frame) (s : State) (sargs : Array Value) (y : MethodName) (len W9 : Nat)
    (Pre : Pt → Array Value → Prop) (Post : Pt → Array Value → Option Value → Pt → Prop) (PostX : Pt → Array Value → Addr → Pt → Prop) : Prop :=
  ∀ (m : MethodId) (meth : Method) (c : Code) (A : Pt) (g : JFrame) (ig : Instr) (mk : MethodId) (a : Array Value),
    Stand p l e R s m sargs below meth c A.U A.locs A.cells A.slots → g.method = m → g.locals.size = c.maxLocals → decode c.code g.pc = .ok (ig, len) →
    2 * g.monitorRoom + (g.stack.map fun v => v.category).sum ≤ W9 → A.U.methodNamed? y = some mk → Pre A a →
    (∃ (v : Option Value) (B : Pt), Stand p l e R s m sargs below meth c B.U B.locs B.cells B.slots ∧ Post A a v B ∧
      Steps p.tables e below (doInvoke e (A.U.setTop g) [] mk a).1 (B.U.setTop { g with pc := g.pc + len, stack := v.toList ++ g.stack })) ∨
    (∃ (q : Addr) (B : Pt), Stand p l e R s m sargs below meth c B.U B.locs B.cells B.slots ∧ PostX A a q B ∧
      Steps p.tables e below (doInvoke e (A.U.setTop g) [] mk a).1 ((B.U.setTop g).pushFrame (.throwing q)))
section Payer
variable {l : Launch} {R : Room} {p : Program} {e : Env} {below : List Frame} {s : State} {sargs : Array Value} {y : MethodName} {len W9 : Nat}
theorem vx_back {ws : List Cond} {rm : Room} {Pc : Array Value → State → Prop} {Qc : Array Value → State → Outcome → State → Prop} {XC : String → State → State → Prop} {mc ms : Nat} {free : Addr → Prop} {bytes : ByteArray} {maxL : Nat} {ret : Option FieldType}
    (hM : vx_Met l y ws rm Pc Qc XC mc ms free) (hblind : FrameBlind Pc) (hrc : rm.cells = mc) (hrs : rm.slots = ms)
    (hframes : rm.frames + 1 ≤ R.frames) (hlocals : W9 + (maxL + 11) + rm.locals ≤ R.locals)
    (hws : ∀ w ∈ ws, ∀ a' U, s.WarmedH U.vm → w.before a' U = true) (hcode : Cond.code y bytes maxL ret ∈ ws) (hinit : ∀ a' U, s.WarmedH U.vm → (Cond.initialized y.cls).before a' U = true) :
    vx_Back l R p e below s sargs y len W9 (PreOf R mc ms Pc) (PostOf Qc mc ms free) (vx_Post XC mc ms free) := by
  intro m meth c A g ig mk a X hg hsize hdg hW hn hp
  have h1 : (headSpec ws rm).pre.before a A.U = true := atoms_intro fun w hw => hws w hw _ _ X.warmed
  have h2 : (Cond.code y bytes maxL ret).before a A.U = true := hws _ hcode _ _ X.warmed
  have h3 : (Cond.initialized y.cls).before a A.U = true := hinit _ _ X.warmed
  have h4 : A.cells + (headSpec ws rm).room.cells ≤ R.cells := by rw [show (headSpec ws rm).room.cells = mc from hrc]; exact hp.1
  have h5 : A.slots + (headSpec ws rm).room.slots ≤ R.slots := by rw [show (headSpec ws rm).room.slots = ms from hrs]; exact hp.2.1
  have hPc : Pc a (A.U.calling g mk a) := hblind _ _ _ _ hp.2.2
  obtain ⟨U, Ls, c0, s0⟩ := A
  dsimp only [Pt.U, Pt.locs, Pt.cells, Pt.slots] at h1 h2 h3 h4 h5 X hn hPc ⊢
  obtain ⟨methY, cY, hmY, hcY, -, hlY, -, -, -, -⟩ := Cond.code_spec hn h2
  obtain ⟨kY, hkY, -⟩ := className_of_methodNamed hn
  have hinitY : kY.init = .initialized := Cond.initialized_spec (findClass_of_methodNamed hn) hkY h3
  have h : At U g.method c below := by rw [hg]; exact X.here
  have hlocals9 : W9 + (maxL + 11) + (headSpec ws rm).room.locals ≤ R.locals := hlocals
  have happ : (headSpec ws rm).appliesLoose y e.platform (U.calling g mk a) = true :=
    Spec.appliesLoose_calling (g := g) h hdg hn hkY hinitY
      (X.room_calling (g := g) (R' := (headSpec ws rm).room) hsize hmY hcY hframes (by rw [hlY]; omega) h4 h5) h1
  obtain ⟨mid, hmid⟩ := h.above
  have hfr : (U.setTop g).frames = (.java g :: mid) ++ below := by rw [State.frames_setTop' g h.top, hmid]; rfl
  obtain ⟨o, s₂, hsteps, -, hend, hq⟩ := Steps.callFree hM p X.admits X.cas X.clock (acts := []) hfr happ hPc trivial
  have hq' : vx_Q Qc XC mc ms free a (U.calling g mk a) o s₂ := hq
  rw [State.frames_setTop' g h.top] at hend
  obtain ⟨g₀, hg0⟩ := Option.isSome_iff_exists.mp h.top
  obtain ⟨r, hr⟩ := State.topJava?_eq_some.mp hg0
  have hr' : (({ U with heap := s₂.heap, slotsUsed := s₂.slotsUsed } : State).setVm s₂.vm).frames = .java g₀ :: r := hr
  rcases hq' with ⟨hqc, L, hfe, hL⟩ | ⟨q, rfl, E, ce, L, hx, hce, hcv, hcl, hW₂, hsm, hL⟩
  · obtain ⟨⟨v, rfl⟩, hW₂, e2, q2, q3, q4, q5, q6⟩ := id hfe
    have e3 : s₂ = ({ (U.calling g mk a).setFrames s₂.frames with heap := s₂.heap, slotsUsed := s₂.slotsUsed } : State).setVm s₂.vm := by
      have : s₂ = ({ s₂ with vm := (U.calling g mk a).vm } : State).setVm s₂.vm := rfl
      rw [e2] at this
      exact this
    obtain ⟨c₂, i₂, len₂, hc₂, hd₂, hf₂⟩ := hend
    have hW' : U.WarmedH s₂.vm := hW₂
    have hcc : c₂ = c := by
      have h1 : s₂.code? g.method = U.code? g.method := by
        rw [State.code?_eq, State.code?_eq, hW'.alike.method?]
      exact Option.some.inj (hc₂.symm.trans (h1.trans h.code))
    subst hcc
    have hlen : len₂ = len := by rw [hdg] at hd₂; cases hd₂; rfl
    subst hlen
    have hs₂ : s₂ = (({ U with heap := s₂.heap, slotsUsed := s₂.slotsUsed } : State).setVm s₂.vm).setTop { g with pc := g.pc + len₂, stack := v.toList ++ g.stack } := by
      refine e3.trans ?_
      rw [hf₂, State.calling_eq h.top, State.setFrames_setFrames, State.setTop_of_frames _ hr', hr]
      rfl
    have hsame : U.sameButNew ({ U with heap := s₂.heap, slotsUsed := s₂.slotsUsed } : State) L mc ms := by
      refine ⟨?_, q2, q3, q4, q5, q6⟩
      obtain ⟨t, ht, -⟩ := State.frames_cons hr
      show ({ U with heap := s₂.heap, slotsUsed := s₂.slotsUsed } : State) = { U.setFrames U.frames with heap := s₂.heap, slotsUsed := s₂.slotsUsed }
      rw [State.setFrames_self ht]
    subst hg
    refine Or.inl ⟨v, ⟨(({ U with heap := s₂.heap, slotsUsed := s₂.slotsUsed } : State).setVm s₂.vm), Ls ++ L, c0 + mc, s0 + ms⟩,
      ⟨X.admits, X.cas, X.clock, X.frames, X.room, X.hears, X.method, X.code, (X.here.setHeapUsed s₂.heap s₂.slotsUsed).setVm hW'.alike, X.tail, State.WarmedH.trans X.warmed hW', X.limits, X.bytes, X.same.trans (hsame.setVm s.vm)⟩,
      ⟨g, mk, s₂, L, rfl, rfl, hqc, rfl, hL, rfl, rfl⟩, ?_⟩
    show Steps p.tables e below _ ((({ U with heap := s₂.heap, slotsUsed := s₂.slotsUsed } : State).setVm s₂.vm).setTop { g with pc := g.pc + len₂, stack := v.toList ++ g.stack })
    rw [← hs₂]
    exact hsteps
  · obtain ⟨e2, q2, q3, q4, q5, q6⟩ := id hsm
    have e3 : s₂ = ({ (U.calling g mk a).setFrames s₂.frames with heap := s₂.heap, slotsUsed := s₂.slotsUsed } : State).setVm s₂.vm := by
      have : s₂ = ({ s₂ with vm := (U.calling g mk a).vm } : State).setVm s₂.vm := rfl
      rw [e2] at this
      exact this
    have hf₂ : s₂.frames = .throwing q :: .java g :: U.frames.tail := hend
    have hW' : U.WarmedH s₂.vm := hW₂
    have hs₂ : s₂ = ((({ U with heap := s₂.heap, slotsUsed := s₂.slotsUsed } : State).setVm s₂.vm).setTop g).pushFrame (.throwing q) := by
      refine e3.trans ?_
      rw [hf₂, State.calling_eq h.top, State.setFrames_setFrames, State.pushFrame, State.frames_setTop _ hr', State.setTop_of_frames _ hr', State.setFrames_setFrames, hr]
      rfl
    have hsame : U.sameButNew ({ U with heap := s₂.heap, slotsUsed := s₂.slotsUsed } : State) L mc ms := by
      refine ⟨?_, q2, q3, q4, q5, q6⟩
      obtain ⟨t, ht, -⟩ := State.frames_cons hr
      show ({ U with heap := s₂.heap, slotsUsed := s₂.slotsUsed } : State) = { U.setFrames U.frames with heap := s₂.heap, slotsUsed := s₂.slotsUsed }
      rw [State.setFrames_self ht]
    subst hg
    refine Or.inr ⟨q, ⟨(({ U with heap := s₂.heap, slotsUsed := s₂.slotsUsed } : State).setVm s₂.vm), Ls ++ L, c0 + mc, s0 + ms⟩,
      ⟨X.admits, X.cas, X.clock, X.frames, X.room, X.hears, X.method, X.code, (X.here.setHeapUsed s₂.heap s₂.slotsUsed).setVm hW'.alike, X.tail, State.WarmedH.trans X.warmed hW', X.limits, X.bytes, X.same.trans (hsame.setVm s.vm)⟩,
      ⟨g, mk, s₂, L, E, ce, rfl, rfl, hx, hce, hcv, hcl, rfl, hL, rfl, rfl⟩, ?_⟩
    show Steps p.tables e below _ (((({ U with heap := s₂.heap, slotsUsed := s₂.slotsUsed } : State).setVm s₂.vm).setTop g).pushFrame (.throwing q))
    rw [← hs₂]
    exact hsteps
end Payer
section Calls
variable {p : Program} {l : Launch} {e : Env} {R : Room} {s : State} {m : MethodId} {args : Array Value} {below : List Frame} {meth : Method} {c : Code} {T : State} {locs : List Loc} {cells slots : Nat}
theorem vx_callV (X : Stand p l e R s m args below meth c T locs cells slots) (hexec : p.tables.exec = Jvm.exec) {own C : String} {index : Nat} {y : MethodName} {bytes : ByteArray} {maxL : Nat} {ret : Option FieldType}
    (hown : s.vm.findClass own = some m.cls) (hlink : (Cond.methodLink own index y).before args s = true) (hinst : (Cond.instanceMethod y).before args s = true) (hsel : (Cond.selects C y y).before args s = true)
    (hcode : (Cond.code y bytes maxL ret).before args s = true) (hy : y.cls ≠ "java/lang/invoke/MethodHandle" ∧ y.cls ≠ "java/lang/invoke/VarHandle")
    {W9 : Nat} {Pre : Pt → Array Value → Prop} {Post : Pt → Array Value → Option Value → Pt → Prop} {PostX : Pt → Array Value → Addr → Pt → Prop} (hK : vx_Back l R p e below s args y 3 W9 Pre Post PostX)
    {b : Addr} {cellB : Cell} (hcell : T.heap[b]? = some cellB) (hobj : cellB.vm.isStatics = false) (hcls : s.vm.findClass C = some cellB.cls)
    {g : JFrame} (hg : g.method = m) (hsize : g.locals.size = c.maxLocals) {argsL rest : List Value} (hlen : ∀ sig, parseMethodDescriptor y.desc = some sig → argsL.length = sig.parameters.length)
    (hstack : g.stack = argsL.reverse ++ .ref b :: rest) (hW : 2 * g.monitorRoom + (rest.map fun v => v.category).sum ≤ W9) (hdg : decode c.code g.pc = .ok (.invokevirtual index, 3))
    (hpre : ∀ vm₁, s.WarmedH vm₁ → Pre ⟨T.setVm vm₁, locs, cells, slots⟩ (Value.ref b :: argsL).toArray) :
    (∃ (v : Option Value) (vm₁ : Vm) (B : Pt), s.WarmedH vm₁ ∧ Stand p l e R s m args below meth c B.U B.locs B.cells B.slots ∧ Post ⟨T.setVm vm₁, locs, cells, slots⟩ (Value.ref b :: argsL).toArray v B ∧
      ∀ target, Steps p.tables e below (B.U.setTop { g with pc := g.pc + 3, stack := v.toList ++ rest }) target → Steps p.tables e below (T.setTop g) target) ∨
    (∃ (q : Addr) (vm₁ : Vm) (B : Pt), s.WarmedH vm₁ ∧ Stand p l e R s m args below meth c B.U B.locs B.cells B.slots ∧ PostX ⟨T.setVm vm₁, locs, cells, slots⟩ (Value.ref b :: argsL).toArray q B ∧
      Steps p.tables e below (T.setTop g) ((B.U.setTop { g with stack := rest }).pushFrame (.throwing q))) := by
  obtain ⟨mk, methM, hnamed, hmethM, hstM, habM⟩ := Cond.instanceMethod_spec hinst
  obtain ⟨methM', cM, hmethM', -, -, -, -, -, -, hsigM⟩ := Cond.code_spec hnamed hcode
  cases hmethM.symm.trans hmethM'
  obtain ⟨c2, r2, m2, q1, q2, q3, q4, kP, hkP, hkPi⟩ := Cond.selects_spec hsel
  cases hcls.symm.trans q1
  cases (State.methodFound?_of_named hnamed hy).symm.trans q2
  cases hnamed.symm.trans q3
  have hselP : selectMethod e.platform s.vm cellB.cls mk = .method mk := by rw [Launch.admits_selectMethod X.admits]; exact q4
  obtain ⟨vm₁, X₁, hstep₁⟩ := X.invokevirtual hexec hown hlink hnamed hmethM hstM hkP hkPi hy (a := b) (cell := cellB) hcell
    (fun z h => by rw [h] at hobj; cases hobj) hselP hmethM habM hkP hkPi (g := g) hg (argsL := argsL) (rest := rest) (hlen _ hsigM) hstack hdg
  rcases hK m meth c ⟨T.setVm vm₁, locs, cells, slots⟩ { g with stack := rest } (.invokevirtual index) mk (Value.ref b :: argsL).toArray X₁ hg hsize hdg hW (X₁.named hnamed) (hpre vm₁ X₁.warmed) with ⟨v, B, X', hpost, hsteps⟩ | ⟨q, B, X', hpost, hsteps⟩
  · exact Or.inl ⟨v, vm₁, B, X₁.warmed, X', hpost, fun target h => hstep₁ _ fun acts => by rw [doInvoke_state]; exact hsteps.trans h⟩
  · exact Or.inr ⟨q, vm₁, B, X₁.warmed, X', hpost, hstep₁ _ fun acts => by rw [doInvoke_state]; exact hsteps⟩
theorem vx_callS (X : Stand p l e R s m args below meth c T locs cells slots) (hexec : p.tables.exec = Jvm.exec) {own : String} {index : Nat} {y : MethodName} {bytes : ByteArray} {maxL : Nat} {ret : Option FieldType}
    (hown : s.vm.findClass own = some m.cls) (hlink : (Cond.methodLink own index y).before args s = true) (hstat : (Cond.static y).before args s = true) (hinit : (Cond.initialized y.cls).before args s = true)
    (hcode : (Cond.code y bytes maxL ret).before args s = true) (hy : y.cls ≠ "java/lang/invoke/MethodHandle" ∧ y.cls ≠ "java/lang/invoke/VarHandle")
    {W9 : Nat} {Pre : Pt → Array Value → Prop} {Post : Pt → Array Value → Option Value → Pt → Prop} {PostX : Pt → Array Value → Addr → Pt → Prop} (hK : vx_Back l R p e below s args y 3 W9 Pre Post PostX)
    {g : JFrame} (hg : g.method = m) (hsize : g.locals.size = c.maxLocals) {argsL rest : List Value} (hlen : ∀ sig, parseMethodDescriptor y.desc = some sig → argsL.length = sig.parameters.length)
    (hstack : g.stack = argsL.reverse ++ rest) (hW : 2 * g.monitorRoom + (rest.map fun v => v.category).sum ≤ W9) (hdg : decode c.code g.pc = .ok (.invokestatic index, 3))
    (hpre : ∀ vm₁, s.WarmedH vm₁ → Pre ⟨T.setVm vm₁, locs, cells, slots⟩ argsL.toArray) :
    (∃ (v : Option Value) (vm₁ : Vm) (B : Pt), s.WarmedH vm₁ ∧ Stand p l e R s m args below meth c B.U B.locs B.cells B.slots ∧ Post ⟨T.setVm vm₁, locs, cells, slots⟩ argsL.toArray v B ∧
      ∀ target, Steps p.tables e below (B.U.setTop { g with pc := g.pc + 3, stack := v.toList ++ rest }) target → Steps p.tables e below (T.setTop g) target) ∨
    (∃ (q : Addr) (vm₁ : Vm) (B : Pt), s.WarmedH vm₁ ∧ Stand p l e R s m args below meth c B.U B.locs B.cells B.slots ∧ PostX ⟨T.setVm vm₁, locs, cells, slots⟩ argsL.toArray q B ∧
      Steps p.tables e below (T.setTop g) ((B.U.setTop { g with stack := rest }).pushFrame (.throwing q))) := by
  obtain ⟨mk, hnamed⟩ := Cond.code_named hcode
  obtain ⟨methM, cM, hmethM, -, -, -, -, -, -, hsigM⟩ := Cond.code_spec hnamed hcode
  have hstatic : methM.isStatic = true := Cond.static_spec hnamed hmethM hstat
  obtain ⟨kP, hkP, -⟩ := className_of_methodNamed hnamed
  have hinitP : kP.init = .initialized := Cond.initialized_spec (findClass_of_methodNamed hnamed) hkP hinit
  obtain ⟨vm₁, X₁, hstep₁⟩ := X.invokestatic hexec hown hlink hnamed hmethM hstatic hkP hinitP hy (g := g) hg (argsL := argsL) (rest := rest) (hlen _ hsigM) hstack hdg
  rcases hK m meth c ⟨T.setVm vm₁, locs, cells, slots⟩ { g with stack := rest } (.invokestatic index) mk argsL.toArray X₁ hg hsize hdg hW (X₁.named hnamed) (hpre vm₁ X₁.warmed) with ⟨v, B, X', hpost, hsteps⟩ | ⟨q, B, X', hpost, hsteps⟩
  · exact Or.inl ⟨v, vm₁, B, X₁.warmed, X', hpost, fun target h => hstep₁ _ fun acts => by rw [doInvoke_state]; exact hsteps.trans h⟩
  · exact Or.inr ⟨q, vm₁, B, X₁.warmed, X', hpost, hstep₁ _ fun acts => by rw [doInvoke_state]; exact hsteps⟩
end Calls
theorem vx_cls {s : State} {T : State} {vm₁ : Vm} {E : String} {k : ClassId} (hW : s.WarmedH vm₁) (h : (T.setVm vm₁).vm.findClass E = some k) : s.vm.findClass E = some k := by
  have h1 : vm₁.findClass E = some k := h
  rw [hW.alike.findClass] at h1
  exact h1
/-- the method's frame g, with q thrown over it -/
def vx_W (p : Program) (l : Launch) (e : Env) (R : Room) (s : State) (m : MethodId) (args : Array Value) (below : List Frame) (meth : Method) (c : Code) (H : Heap) (locs : List Loc) (cells slots : Nat) (Q : State → Prop) (g : JFrame) (q : Addr) : Prop :=
  ∀ T : State, T.heap = H → Stand p l e R s m args below meth c T locs cells slots → ∃ t, Steps p.tables e below ((T.setTop g).pushFrame (.throwing q)) t ∧ Q t
def vx_Run (p : Program) (l : Launch) (e : Env) (R : Room) (s : State) (m : MethodId) (args : Array Value) (below : List Frame) (meth : Method) (c : Code) (H : Heap) (locs : List Loc) (cells slots mc ms : Nat) (g : JFrame) (rest : List Value) (Qa : State → Outcome → State → Prop) (XC : String → State → State → Prop) (free : Addr → Prop) : Prop :=
  ∀ T : State, T.heap = H → Stand p l e R s m args below meth c T locs cells slots →
    (∃ (v : Option Value) (st₀ t T' : State) (L : List Loc), st₀.heap = H ∧ Stand p l e R s m args below meth c T' (locs ++ L) (cells + mc) (slots + ms) ∧ (∀ q ∈ L, free q.base) ∧ T'.heap = t.heap ∧ T'.vm = t.vm ∧ Qa st₀ (.returned v) t ∧
      Goes p e below T g T' { g with pc := g.pc + 3, stack := v.toList ++ rest }) ∨
    (∃ (q : Addr) (st₀ t T' : State) (L : List Loc) (E : String) (ce : Cell), st₀.heap = H ∧ Stand p l e R s m args below meth c T' (locs ++ L) (cells + mc) (slots + ms) ∧ (∀ z ∈ L, free z.base) ∧ T'.heap = t.heap ∧ T'.vm = t.vm ∧ XC E st₀ t ∧ t.heap[q]? = some ce ∧ ce.vm = .none ∧ s.vm.findClass E = some ce.cls ∧
      Steps p.tables e below (T.setTop g) ((T'.setTop { g with stack := rest }).pushFrame (.throwing q)))
def vx_X {S : Type} (px : S → Prop) (B : String → S → State → Prop) (A : Nat → Prop) : String → State → State → Prop := fun E st t => ∃ u : S, px u ∧ B E u t ∧ va_F A st t
section Runs
variable {p : Program} {l : Launch} {e : Env} {R : Room} {s : State} {m : MethodId} {args : Array Value} {below : List Frame} {meth : Method} {c : Code} {H : Heap} {locs : List Loc} {cells slots : Nat}
variable {y : MethodName} {bytes cc : ByteArray} {maxL nL mc ms n index : Nat} {ret : Option FieldType} {ws : List Cond} {rm : Room} {Pc : Array Value → State → Prop} {Qc : Array Value → State → Outcome → State → Prop} {XC : String → State → State → Prop} {free : Addr → Prop} {Ts : List Cond} {own C : String} {b : Addr} {As rest : List Value} {g : JFrame}
theorem vx_callBack (cb : CallB R s args own index y bytes maxL ret ws rm mc ms n) (hM : vx_Met l y ws rm Pc Qc XC mc ms free) (hbl : FrameBlind Pc) : vx_Back l R p e below s args y 3 8 (PreOf R mc ms Pc) (PostOf Qc mc ms free) (vx_Post XC mc ms free) := by
  obtain ⟨hrc, hrs, hfr, hlo, hws, hcw, -, hini, -⟩ := cb
  exact vx_back (bytes := bytes) (maxL := maxL) (ret := ret) hM hbl hrc hrs hfr hlo hws hcw (fun a' U hW => word_at hW (Or.inl (by first | rfl | simp [Cond.onTables, Cond.keeps, Cond.steady])) hini)
theorem vx_runV (S : CallFix p m c cc nL s args Ts own) (hM : vx_Met l y ws rm Pc Qc XC mc ms free) (cw : CallW R s args own C index y bytes maxL ret ws rm mc ms n) (hp : PreV s H C b Pc As)
    (hg : g.method = m) (hn : As.length = n) (hsize : g.locals.size = nL) (hstack : g.stack = As.reverse ++ .ref b :: rest) (hW : 2 * g.monitorRoom + (rest.map fun v => v.category).sum ≤ 8) (hdg : decode cc g.pc = .ok (.invokevirtual index, 3)) (hf : cells + mc ≤ R.cells ∧ slots + ms ≤ R.slots) :
    vx_Run p l e R s m args below meth c H locs cells slots mc ms g rest (Qc (Value.ref b :: As).toArray) XC free := by
  have hK : vx_Back l R p e below s args y 3 8 (PreOf R mc ms Pc) (PostOf Qc mc ms free) (vx_Post XC mc ms free) := vx_callBack cw.1 hM hp.1
  obtain ⟨⟨-, -, -, -, -, -, hcode, -, hy, hlen, hl⟩, hin, hse⟩ := cw
  obtain ⟨hx, hb, hml, ho, -⟩ := S
  obtain ⟨-, ⟨cellB, hcB, hoB, hclB⟩, hPc⟩ := hp
  intro T hT X
  rcases vx_callV X hx (C := C) (bytes := bytes) (maxL := maxL) (ret := ret) ho hl hin hse hcode hy hK (by rw [hT]; exact hcB) hoB hclB hg (hsize.trans hml.symm) (argsL := As) (rest := rest) (fun sig h => hn.trans (hlen sig h)) hstack hW (by rw [hb]; exact hdg)
    (fun vm₁ hW₁ => ⟨hf.1, hf.2, hPc (T.setVm vm₁) hT hW₁⟩) with ⟨v, vm₁, ⟨U', l2, c2, s2⟩, hW₁, X', ⟨g', mk, t, L, e1, e2, hq, h1, hL, h2, h3⟩, st⟩ | ⟨q, vm₁, ⟨U', l2, c2, s2⟩, hW₁, X', ⟨g', mk, t, L, E, ce, e1, e2, hq, hce, hcv, hcl, h1, hL, h2, h3⟩, st⟩
  · dsimp only [Pt.U, Pt.locs, Pt.cells, Pt.slots] at X' e1 e2 h1 h2 h3 st
    subst h1; subst h2; subst h3
    exact Or.inl ⟨v, (T.setVm vm₁).calling g' mk (Value.ref b :: As).toArray, t, U', L, hT, X', hL, e1, e2, hq, st⟩
  · dsimp only [Pt.U, Pt.locs, Pt.cells, Pt.slots] at X' e1 e2 h1 h2 h3 st hcl
    subst h1; subst h2; subst h3
    exact Or.inr ⟨q, (T.setVm vm₁).calling g' mk (Value.ref b :: As).toArray, t, U', L, E, ce, hT, X', hL, e1, e2, hq, hce, hcv, vx_cls hW₁ hcl, st⟩
theorem vx_runS (S : CallFix p m c cc nL s args Ts own) (hM : vx_Met l y ws rm Pc Qc XC mc ms free) (cw : CallB R s args own index y bytes maxL ret ws rm mc ms n ∧ (Cond.static y).before args s = true) (hp : PreS s H Pc As)
    (hg : g.method = m) (hn : As.length = n) (hsize : g.locals.size = nL) (hstack : g.stack = As.reverse ++ rest) (hW : 2 * g.monitorRoom + (rest.map fun v => v.category).sum ≤ 8) (hdg : decode cc g.pc = .ok (.invokestatic index, 3)) (hf : cells + mc ≤ R.cells ∧ slots + ms ≤ R.slots) :
    vx_Run p l e R s m args below meth c H locs cells slots mc ms g rest (Qc As.toArray) XC free := by
  have hK : vx_Back l R p e below s args y 3 8 (PreOf R mc ms Pc) (PostOf Qc mc ms free) (vx_Post XC mc ms free) := vx_callBack cw.1 hM hp.1
  obtain ⟨⟨-, -, -, -, -, -, hcode, hini, hy, hlen, hl⟩, hstt⟩ := cw
  obtain ⟨hx, hb, hml, ho, -⟩ := S
  intro T hT X
  rcases vx_callS X hx (bytes := bytes) (maxL := maxL) (ret := ret) ho hl hstt hini hcode hy hK hg (hsize.trans hml.symm) (argsL := As) (rest := rest) (fun sig h => hn.trans (hlen sig h)) hstack hW (by rw [hb]; exact hdg)
    (fun vm₁ hW₁ => ⟨hf.1, hf.2, hp.2 (T.setVm vm₁) hT hW₁⟩) with ⟨v, vm₁, ⟨U', l2, c2, s2⟩, hW₁, X', ⟨g', mk, t, L, e1, e2, hq, h1, hL, h2, h3⟩, st⟩ | ⟨q, vm₁, ⟨U', l2, c2, s2⟩, hW₁, X', ⟨g', mk, t, L, E, ce, e1, e2, hq, hce, hcv, hcl, h1, hL, h2, h3⟩, st⟩
  · dsimp only [Pt.U, Pt.locs, Pt.cells, Pt.slots] at X' e1 e2 h1 h2 h3 st
    subst h1; subst h2; subst h3
    exact Or.inl ⟨v, (T.setVm vm₁).calling g' mk As.toArray, t, U', L, hT, X', hL, e1, e2, hq, st⟩
  · dsimp only [Pt.U, Pt.locs, Pt.cells, Pt.slots] at X' e1 e2 h1 h2 h3 st hcl
    subst h1; subst h2; subst h3
    exact Or.inr ⟨q, (T.setVm vm₁).calling g' mk As.toArray, t, U', L, E, ce, hT, X', hL, e1, e2, hq, hce, hcv, vx_cls hW₁ hcl, st⟩
end Runs
section Rows
variable {p : Program} {l : Launch} {e : Env} {R : Room} {s : State} {m : MethodId} {args : Array Value} {below : List Frame} {meth : Method} {c : Code} {H : Heap} {locs : List Loc} {cells slots : Nat} {Q : State → Prop}
variable {mc ms : Nat} {free : Addr → Prop} {A0 A1 : Nat → Prop} {H0 : Heap} {a : Array Value} {pc : Nat} {ls : Array Slot} {st0 rest : List Value}
theorem vx_keep {st₀ t T' : State} {L : List Loc} (h0 : st₀.heap = H) (e1 : T'.heap = t.heap) (hS : va_S A0 H0 H locs) (hA : ∀ q, q < H.size → A1 q → A0 q) (hf : ∀ q, free q → A0 q) (hL : ∀ q ∈ L, free q.base) (hF : va_F A1 st₀ t) :
    H.size ≤ T'.heap.size ∧ (∀ q : Nat, q < H.size → ¬ A1 q → T'.heap[q]? = H[q]?) ∧ va_S A0 H0 T'.heap (locs ++ L) := by
  obtain ⟨hz, hk⟩ := hF
  rw [h0] at hz hk
  exact ⟨by rw [e1]; exact hz, fun q h1 h2 => by rw [e1]; exact hk q h1 h2,
    ⟨Nat.le_trans hS.1 (by rw [e1]; exact hz), fun q h1 h2 => by rw [e1, hk q (Nat.lt_of_lt_of_le h1 hS.1) (fun z => h2 (hA q (Nat.lt_of_lt_of_le h1 hS.1) z))]; exact hS.2.1 q h1 h2, fun q hq => by
      rcases List.mem_append.mp hq with h | h
      · exact hS.2.2 q h
      · exact hf _ (hL q h)⟩⟩
theorem vx_calli {S SX : Type} {post : Int32 → S → Prop} {px : SX → Prop} {B : S → State → Prop} {BX : String → SX → State → Prop} {AX : Nat → Prop} (hr : vx_Run p l e R s m args below meth c H locs cells slots mc ms (F0 m pc ls st0) rest (va_Qi post B A1 a) (vx_X px BX AX) free) (hS : va_S A0 H0 H locs) (hA : ∀ q, q < H.size → A1 q → A0 q) (hf : ∀ q, free q → A0 q) (hAX : ∀ q, q < H.size → AX q → A0 q)
    (kx : ∀ (E : String) (ce : Cell) (q9 : Addr) (u : SX) (t : State) (H1 : Heap) (locs1 : List Loc), t.heap = H1 → s.vm.Alike t.vm → px u → BX E u t → H.size ≤ H1.size → (∀ q : Nat, q < H.size → ¬ AX q → H1[q]? = H[q]?) → va_S A0 H0 H1 locs1 → H1[q9]? = some ce → ce.vm = .none → s.vm.findClass E = some ce.cls → vx_W p l e R s m args below meth c H1 locs1 (cells + mc) (slots + ms) Q (F0 m pc ls rest) q9)
    (kk : ∀ (r : Int32) (u : S) (t : State) (H1 : Heap) (locs1 : List Loc), t.heap = H1 → s.vm.Alike t.vm → post r u → B u t → H.size ≤ H1.size → (∀ q : Nat, q < H.size → ¬ A1 q → H1[q]? = H[q]?) → va_S A0 H0 H1 locs1 → W p l e R s m args below meth c H1 locs1 (cells + mc) (slots + ms) Q (F0 m (pc + 3) ls (.int r :: rest))) : W p l e R s m args below meth c H locs cells slots Q (F0 m pc ls st0) := by
  intro T hT X
  rcases hr T hT X with ⟨v, st₀, t, T', L, h0, X', hL, e1, e2, ⟨⟨r, u, hv, hp, hb⟩, hF⟩, st⟩ | ⟨q, st₀, t, T', L, E, ce, h0, X', hL, e1, e2, ⟨u, hp, hb, hF⟩, hce, hcv, hcl, st⟩
  · cases hv
    obtain ⟨k1, k2, k3⟩ := vx_keep h0 e1 hS hA hf hL hF
    obtain ⟨t2, a1, b1⟩ := kk r u t T'.heap (locs ++ L) e1.symm (by rw [← e2]; exact X'.warmed.alike) hp hb k1 k2 k3 T' rfl X'
    exact ⟨t2, st t2 a1, b1⟩
  · obtain ⟨k1, k2, k3⟩ := vx_keep h0 e1 hS hAX hf hL hF
    obtain ⟨t2, a1, b1⟩ := kx E ce q u t T'.heap (locs ++ L) e1.symm (by rw [← e2]; exact X'.warmed.alike) hp hb k1 k2 k3 (by rw [e1]; exact hce) hcv hcl T' rfl X'
    exact ⟨t2, st.trans a1, b1⟩
theorem vx_calll {S SX : Type} {post : Int64 → S → Prop} {px : SX → Prop} {B : S → State → Prop} {BX : String → SX → State → Prop} {AX : Nat → Prop} (hr : vx_Run p l e R s m args below meth c H locs cells slots mc ms (F0 m pc ls st0) rest (va_Ql post B A1 a) (vx_X px BX AX) free) (hS : va_S A0 H0 H locs) (hA : ∀ q, q < H.size → A1 q → A0 q) (hf : ∀ q, free q → A0 q) (hAX : ∀ q, q < H.size → AX q → A0 q)
    (kx : ∀ (E : String) (ce : Cell) (q9 : Addr) (u : SX) (t : State) (H1 : Heap) (locs1 : List Loc), t.heap = H1 → s.vm.Alike t.vm → px u → BX E u t → H.size ≤ H1.size → (∀ q : Nat, q < H.size → ¬ AX q → H1[q]? = H[q]?) → va_S A0 H0 H1 locs1 → H1[q9]? = some ce → ce.vm = .none → s.vm.findClass E = some ce.cls → vx_W p l e R s m args below meth c H1 locs1 (cells + mc) (slots + ms) Q (F0 m pc ls rest) q9)
    (kk : ∀ (r : Int64) (u : S) (t : State) (H1 : Heap) (locs1 : List Loc), t.heap = H1 → s.vm.Alike t.vm → post r u → B u t → H.size ≤ H1.size → (∀ q : Nat, q < H.size → ¬ A1 q → H1[q]? = H[q]?) → va_S A0 H0 H1 locs1 → W p l e R s m args below meth c H1 locs1 (cells + mc) (slots + ms) Q (F0 m (pc + 3) ls (.long r :: rest))) : W p l e R s m args below meth c H locs cells slots Q (F0 m pc ls st0) := by
  intro T hT X
  rcases hr T hT X with ⟨v, st₀, t, T', L, h0, X', hL, e1, e2, ⟨⟨r, u, hv, hp, hb⟩, hF⟩, st⟩ | ⟨q, st₀, t, T', L, E, ce, h0, X', hL, e1, e2, ⟨u, hp, hb, hF⟩, hce, hcv, hcl, st⟩
  · cases hv
    obtain ⟨k1, k2, k3⟩ := vx_keep h0 e1 hS hA hf hL hF
    obtain ⟨t2, a1, b1⟩ := kk r u t T'.heap (locs ++ L) e1.symm (by rw [← e2]; exact X'.warmed.alike) hp hb k1 k2 k3 T' rfl X'
    exact ⟨t2, st t2 a1, b1⟩
  · obtain ⟨k1, k2, k3⟩ := vx_keep h0 e1 hS hAX hf hL hF
    obtain ⟨t2, a1, b1⟩ := kx E ce q u t T'.heap (locs ++ L) e1.symm (by rw [← e2]; exact X'.warmed.alike) hp hb k1 k2 k3 (by rw [e1]; exact hce) hcv hcl T' rfl X'
    exact ⟨t2, st.trans a1, b1⟩
theorem vx_callf {S SX : Type} {post : UInt32 → S → Prop} {px : SX → Prop} {B : S → State → Prop} {BX : String → SX → State → Prop} {AX : Nat → Prop} (hr : vx_Run p l e R s m args below meth c H locs cells slots mc ms (F0 m pc ls st0) rest (va_Qf post B A1 a) (vx_X px BX AX) free) (hS : va_S A0 H0 H locs) (hA : ∀ q, q < H.size → A1 q → A0 q) (hf : ∀ q, free q → A0 q) (hAX : ∀ q, q < H.size → AX q → A0 q)
    (kx : ∀ (E : String) (ce : Cell) (q9 : Addr) (u : SX) (t : State) (H1 : Heap) (locs1 : List Loc), t.heap = H1 → s.vm.Alike t.vm → px u → BX E u t → H.size ≤ H1.size → (∀ q : Nat, q < H.size → ¬ AX q → H1[q]? = H[q]?) → va_S A0 H0 H1 locs1 → H1[q9]? = some ce → ce.vm = .none → s.vm.findClass E = some ce.cls → vx_W p l e R s m args below meth c H1 locs1 (cells + mc) (slots + ms) Q (F0 m pc ls rest) q9)
    (kk : ∀ (r : UInt32) (u : S) (t : State) (H1 : Heap) (locs1 : List Loc), t.heap = H1 → s.vm.Alike t.vm → post r u → B u t → H.size ≤ H1.size → (∀ q : Nat, q < H.size → ¬ A1 q → H1[q]? = H[q]?) → va_S A0 H0 H1 locs1 → W p l e R s m args below meth c H1 locs1 (cells + mc) (slots + ms) Q (F0 m (pc + 3) ls (.float r :: rest))) : W p l e R s m args below meth c H locs cells slots Q (F0 m pc ls st0) := by
  intro T hT X
  rcases hr T hT X with ⟨v, st₀, t, T', L, h0, X', hL, e1, e2, ⟨⟨r, u, hv, hp, hb⟩, hF⟩, st⟩ | ⟨q, st₀, t, T', L, E, ce, h0, X', hL, e1, e2, ⟨u, hp, hb, hF⟩, hce, hcv, hcl, st⟩
  · cases hv
    obtain ⟨k1, k2, k3⟩ := vx_keep h0 e1 hS hA hf hL hF
    obtain ⟨t2, a1, b1⟩ := kk r u t T'.heap (locs ++ L) e1.symm (by rw [← e2]; exact X'.warmed.alike) hp hb k1 k2 k3 T' rfl X'
    exact ⟨t2, st t2 a1, b1⟩
  · obtain ⟨k1, k2, k3⟩ := vx_keep h0 e1 hS hAX hf hL hF
    obtain ⟨t2, a1, b1⟩ := kx E ce q u t T'.heap (locs ++ L) e1.symm (by rw [← e2]; exact X'.warmed.alike) hp hb k1 k2 k3 (by rw [e1]; exact hce) hcv hcl T' rfl X'
    exact ⟨t2, st.trans a1, b1⟩
theorem vx_calld {S SX : Type} {post : UInt64 → S → Prop} {px : SX → Prop} {B : S → State → Prop} {BX : String → SX → State → Prop} {AX : Nat → Prop} (hr : vx_Run p l e R s m args below meth c H locs cells slots mc ms (F0 m pc ls st0) rest (va_Qd post B A1 a) (vx_X px BX AX) free) (hS : va_S A0 H0 H locs) (hA : ∀ q, q < H.size → A1 q → A0 q) (hf : ∀ q, free q → A0 q) (hAX : ∀ q, q < H.size → AX q → A0 q)
    (kx : ∀ (E : String) (ce : Cell) (q9 : Addr) (u : SX) (t : State) (H1 : Heap) (locs1 : List Loc), t.heap = H1 → s.vm.Alike t.vm → px u → BX E u t → H.size ≤ H1.size → (∀ q : Nat, q < H.size → ¬ AX q → H1[q]? = H[q]?) → va_S A0 H0 H1 locs1 → H1[q9]? = some ce → ce.vm = .none → s.vm.findClass E = some ce.cls → vx_W p l e R s m args below meth c H1 locs1 (cells + mc) (slots + ms) Q (F0 m pc ls rest) q9)
    (kk : ∀ (r : UInt64) (u : S) (t : State) (H1 : Heap) (locs1 : List Loc), t.heap = H1 → s.vm.Alike t.vm → post r u → B u t → H.size ≤ H1.size → (∀ q : Nat, q < H.size → ¬ A1 q → H1[q]? = H[q]?) → va_S A0 H0 H1 locs1 → W p l e R s m args below meth c H1 locs1 (cells + mc) (slots + ms) Q (F0 m (pc + 3) ls (.double r :: rest))) : W p l e R s m args below meth c H locs cells slots Q (F0 m pc ls st0) := by
  intro T hT X
  rcases hr T hT X with ⟨v, st₀, t, T', L, h0, X', hL, e1, e2, ⟨⟨r, u, hv, hp, hb⟩, hF⟩, st⟩ | ⟨q, st₀, t, T', L, E, ce, h0, X', hL, e1, e2, ⟨u, hp, hb, hF⟩, hce, hcv, hcl, st⟩
  · cases hv
    obtain ⟨k1, k2, k3⟩ := vx_keep h0 e1 hS hA hf hL hF
    obtain ⟨t2, a1, b1⟩ := kk r u t T'.heap (locs ++ L) e1.symm (by rw [← e2]; exact X'.warmed.alike) hp hb k1 k2 k3 T' rfl X'
    exact ⟨t2, st t2 a1, b1⟩
  · obtain ⟨k1, k2, k3⟩ := vx_keep h0 e1 hS hAX hf hL hF
    obtain ⟨t2, a1, b1⟩ := kx E ce q u t T'.heap (locs ++ L) e1.symm (by rw [← e2]; exact X'.warmed.alike) hp hb k1 k2 k3 (by rw [e1]; exact hce) hcv hcl T' rfl X'
    exact ⟨t2, st.trans a1, b1⟩
theorem vx_callv {S SX : Type} {post : S → Prop} {px : SX → Prop} {B : S → State → Prop} {BX : String → SX → State → Prop} {AX : Nat → Prop} (hr : vx_Run p l e R s m args below meth c H locs cells slots mc ms (F0 m pc ls st0) rest (va_Qv post B A1 a) (vx_X px BX AX) free) (hS : va_S A0 H0 H locs) (hA : ∀ q, q < H.size → A1 q → A0 q) (hf : ∀ q, free q → A0 q) (hAX : ∀ q, q < H.size → AX q → A0 q)
    (kx : ∀ (E : String) (ce : Cell) (q9 : Addr) (u : SX) (t : State) (H1 : Heap) (locs1 : List Loc), t.heap = H1 → s.vm.Alike t.vm → px u → BX E u t → H.size ≤ H1.size → (∀ q : Nat, q < H.size → ¬ AX q → H1[q]? = H[q]?) → va_S A0 H0 H1 locs1 → H1[q9]? = some ce → ce.vm = .none → s.vm.findClass E = some ce.cls → vx_W p l e R s m args below meth c H1 locs1 (cells + mc) (slots + ms) Q (F0 m pc ls rest) q9)
    (kk : ∀ (u : S) (t : State) (H1 : Heap) (locs1 : List Loc), t.heap = H1 → s.vm.Alike t.vm → post u → B u t → H.size ≤ H1.size → (∀ q : Nat, q < H.size → ¬ A1 q → H1[q]? = H[q]?) → va_S A0 H0 H1 locs1 → W p l e R s m args below meth c H1 locs1 (cells + mc) (slots + ms) Q (F0 m (pc + 3) ls (rest))) : W p l e R s m args below meth c H locs cells slots Q (F0 m pc ls st0) := by
  intro T hT X
  rcases hr T hT X with ⟨v, st₀, t, T', L, h0, X', hL, e1, e2, ⟨⟨u, hv, hp, hb⟩, hF⟩, st⟩ | ⟨q, st₀, t, T', L, E, ce, h0, X', hL, e1, e2, ⟨u, hp, hb, hF⟩, hce, hcv, hcl, st⟩
  · cases hv
    obtain ⟨k1, k2, k3⟩ := vx_keep h0 e1 hS hA hf hL hF
    obtain ⟨t2, a1, b1⟩ := kk u t T'.heap (locs ++ L) e1.symm (by rw [← e2]; exact X'.warmed.alike) hp hb k1 k2 k3 T' rfl X'
    exact ⟨t2, st t2 a1, b1⟩
  · obtain ⟨k1, k2, k3⟩ := vx_keep h0 e1 hS hAX hf hL hF
    obtain ⟨t2, a1, b1⟩ := kx E ce q u t T'.heap (locs ++ L) e1.symm (by rw [← e2]; exact X'.warmed.alike) hp hb k1 k2 k3 (by rw [e1]; exact hce) hcv hcl T' rfl X'
    exact ⟨t2, st.trans a1, b1⟩
/-- caught by the row x of this method's table; the rows ahead don't take it -/
theorem vx_catch {own name : String} {E : String} {ce : Cell} {q : Addr} (hown : s.vm.findClass own = some m.cls) (pre : List ExceptionTableEntry) (x : ExceptionTableEntry) (suf : List ExceptionTableEntry) (hsplit : c.exceptionTable.toList = pre ++ x :: suf)
    (hpass : ∀ z ∈ pre, covers z pc = false ∨ (z.catchType ≠ 0 ∧ ∃ nm : String, (Cond.classLink own z.catchType nm).before args s = true ∧ va_Nc E nm s)) (hx : covers x pc = true) (h0 : x.catchType ≠ 0)
    (hlink : (Cond.classLink own x.catchType name).before args s = true) (hcast : (Cond.castable E name).before args s = true) (hcell : H[q]? = some ce) (hv : ce.vm = .none) (hcl : s.vm.findClass E = some ce.cls)
    (kk : W p l e R s m args below meth c H locs cells slots Q (F0 m x.handlerPc ls [.ref q])) : vx_W p l e R s m args below meth c H locs cells slots Q (F0 m pc ls rest) q := by
  intro T hT X
  have hpl : e.platform.magicAccessors = ({} : Platform).magicAccessors := by rw [X.admits.platform]
  obtain ⟨c3, c4, hc3, hc4, hasg⟩ := Cond.castable_spec hcast
  cases Option.some.inj (hc3.symm.trans hcl)
  obtain ⟨c5, hc5, hcl5⟩ := Cond.classLink_spec hown hlink e.platform hpl
  cases Option.some.inj (hc4.symm.trans hc5)
  obtain ⟨vm', X', st⟩ := X.thenCaughtThrough q (g := F0 m pc ls rest) rfl (Steps.refl _) (by rw [hT]; exact hcell) (by rw [hv]; rfl) (by obtain ⟨k9, h9, -⟩ := Vm.findClass_spec hcl; exact ⟨k9, h9⟩) pre x suf hsplit
    (fun z hz => by
      rcases hpass z hz with h | ⟨hz0, nm, hl1, hn1⟩
      · exact Or.inl h
      · obtain ⟨c6, hc6, hcl6⟩ := Cond.classLink_spec hown hl1 e.platform hpl
        obtain ⟨a8, b8, h1, h2, h3⟩ := hn1
        cases Option.some.inj (h1.symm.trans hcl)
        cases Option.some.inj (h2.symm.trans hc6)
        exact Or.inr ⟨hz0, _, hcl6, h3⟩) hx (Or.inr ⟨h0, c4, hcl5, hasg⟩)
  obtain ⟨t, a1, b1⟩ := kk (T.setVm vm') hT X'
  exact ⟨t, st.trans a1, b1⟩
end Rows
section Ends
variable {p : Program} {l : Launch} {e : Env} {R : Room} {s : State} {m : MethodId} {args : Array Value} {below : List Frame} {meth : Method} {c : Code} {H : Heap} {locs : List Loc} {cells slots : Nat} {Q : State → Prop}
variable {mc ms : Nat} {free : Addr → Prop} {A0 A1 : Nat → Prop} {H0 : Heap} {a : Array Value} {ls : Array Slot} {st0 rest : List Value}
variable {Qc : Array Value → State → Outcome → State → Prop} {XC : String → State → State → Prop}
/-- what a body that may throw owes at its end -/
def vx_MQ (below : List Frame) (Qc : Array Value → State → Outcome → State → Prop) (XC : String → State → State → Prop) (a : Array Value) (s : State) (mc ms : Nat) (free : Addr → Prop) : State → Prop := fun t =>
  ∃ o, t.status = .running ∧ Ended t below o ∧ vx_Q Qc XC mc ms free a s o t
theorem vx_ret {g : JFrame} {mc ms : Nat} (k : W p l e R s m args below meth c H locs cells slots (MQ below Qc args s mc ms free) g) : W p l e R s m args below meth c H locs cells slots (vx_MQ below Qc XC args s mc ms free) g := by
  intro T hT X
  obtain ⟨t, a1, o, b1, b2, b3, b4⟩ := k T hT X
  exact ⟨t, a1, o, b1, b2, Or.inl ⟨b3, b4⟩⟩
/-- not caught here: it goes on to the caller -/
theorem vx_widen {g : JFrame} {q : Addr} {k n : Nat} (h1 : cells ≤ k) (h2 : slots ≤ n) (kk : vx_W p l e R s m args below meth c H locs k n Q g q) : vx_W p l e R s m args below meth c H locs cells slots Q g q := fun T hT X => kk T hT (stand_widen X h1 h2)
theorem vx_out {pc : Nat} {E : String} {ce : Cell} {q : Addr} {mc ms : Nat} (hout : ∀ x ∈ c.exceptionTable.toList, covers x pc = false) (hlocks : meth.locks = false) (hcell : H[q]? = some ce) (hv : ce.vm = .none) (hcl : s.vm.findClass E = some ce.cls)
    (hx : ∀ t : State, t.heap = H → s.vm.Alike t.vm → XC E s t) (hf : ∀ z ∈ locs, free z.base) (hc : cells ≤ mc) (hs : slots ≤ ms) :
    vx_W p l e R s m args below meth c H locs cells slots (vx_MQ below Qc XC args s mc ms free) (F0 m pc ls rest) q := by
  intro T hT X
  obtain ⟨st1, hrun, hend, hW, hsm⟩ := X.leaveThrown q (g := F0 m pc ls rest) rfl rfl rfl hout hlocks
  have hcell9 : (T.setFrames (.throwing q :: below)).heap[q]? = some ce := by
    show T.heap[q]? = some ce
    rw [hT]; exact hcell
  exact ⟨_, st1, .threw q, hrun, hend, Or.inr ⟨q, rfl, E, ce, locs, hx _ hT hW.alike, hcell9, hv, hcl, hW, hsm.mono hc hs, hf⟩⟩
theorem vx_frame {U : State} {k n : Nat} (h : s.sameButNew ({ U with vm := s.vm } : State) locs k n) : s.heap.size ≤ U.heap.size ∧ ∀ q : Nat, q < s.heap.size → (∀ z ∈ locs, z.base ≠ q) → U.heap[q]? = s.heap[q]? := by
  obtain ⟨-, h2, -, -, -, h6⟩ := h
  refine ⟨h2, fun q hq hz => ?_⟩
  obtain ⟨c9, e1, e2, e3, e4⟩ := h6 q _ (Array.getElem?_eq_getElem hq)
  have hs : c9.slots = (s.heap[q]).slots := Array.ext_getElem? fun i => e4 i fun hm => hz _ hm rfl
  have h9 : c9 = s.heap[q] := by
    rw [hs] at e2
    exact e2
  have e5 : U.heap[q]? = some c9 := e1
  rw [e5, h9, Array.getElem?_eq_getElem hq]
/-- the words of a throw but the four that speak of the heap -/
def vx_no (w : Cond) : Bool := decide (w ≠ .isRef (.static Bundle.tN "UNASSIGNED_STACK" Bundle.steD)) && decide (w ≠ .isRef (.static Bundle.tN "SUPPRESSED_SENTINEL" Bundle.listD)) && decide (w ≠ .laysStatic Bundle.tN "UNASSIGNED_STACK" Bundle.steD) && decide (w ≠ .laysStatic Bundle.tN "SUPPRESSED_SENTINEL" Bundle.listD)
def vx_at0 (own : String) (ic : Nat) (X : String) (names : List String) : List Cond := (Bundle.ownAtoms0 own ic X names).filter vx_no
def vx_atS (own : String) (ic : Nat) (X : String) (names : List String) : List Cond := (Bundle.ownAtoms own ic X names).filter vx_no
/-- a word that the tables alone decide, or a good one -/
def vx_ot (w : Cond) : Bool := w.onTables || goodWord w
theorem vx_ot_at {args a' : Array Value} {s U : State} {w : Cond} (hW : s.WarmedH U.vm) (hvm : s.vm = U.vm) (hg : vx_ot w = true) (h : w.before args s = true) : w.before a' U = true := by
  simp only [vx_ot, Bool.or_eq_true] at hg
  rcases hg with hg | hg
  · exact va_tabs hg hvm h
  · exact word_at hW (good_of_word hg) h
/-- a list's words: the good ones out of the method's own list, the others by premises of their own -/
theorem vx_hat {args : Array Value} {s : State} {L B : List Cond} (h1 : ∀ w ∈ L.filter goodWord, w.before args s = true) (h2 : ∀ w ∈ L.filter (fun w => !goodWord w), w ∈ B) (h3 : ∀ w ∈ B, w.before args s = true) : ∀ w ∈ L, w.before args s = true := by
  intro w hw
  by_cases g : goodWord w = true
  · exact h1 w (List.mem_filter.mpr ⟨hw, g⟩)
  · refine h3 w (h2 w (List.mem_filter.mpr ⟨hw, ?_⟩))
    show (!goodWord w) = true
    cases hgw : goodWord w
    · rfl
    · exact absurd hgw g
theorem vx_c {args : Array Value} {s : State} {w : Cond} {B : List Cond} (h : w.before args s = true) (t : ∀ w ∈ B, w.before args s = true) : ∀ w' ∈ w :: B, w'.before args s = true := fun w' h' => (List.mem_cons.mp h').elim (fun e => by rw [e]; exact h) (t w')
theorem vx_n {args : Array Value} {s : State} : ∀ w ∈ ([] : List Cond), w.before args s = true := fun _ h => nomatch h
theorem vx_own {args : Array Value} {s : State} {L : List Cond} (h1 : ∀ w ∈ L.filter vx_no, w.before args s = true)
    (hU : (Cond.isRef (.static Bundle.tN "UNASSIGNED_STACK" Bundle.steD)).before args s = true) (hN : (Cond.isRef (.static Bundle.tN "SUPPRESSED_SENTINEL" Bundle.listD)).before args s = true)
    (lU : (Cond.laysStatic Bundle.tN "UNASSIGNED_STACK" Bundle.steD).before args s = true) (lN : (Cond.laysStatic Bundle.tN "SUPPRESSED_SENTINEL" Bundle.listD).before args s = true) : ∀ w ∈ L, w.before args s = true := by
  intro w hw
  by_cases e1 : w = .isRef (.static Bundle.tN "UNASSIGNED_STACK" Bundle.steD)
  · rw [e1]; exact hU
  · by_cases e2 : w = .isRef (.static Bundle.tN "SUPPRESSED_SENTINEL" Bundle.listD)
    · rw [e2]; exact hN
    · by_cases e3 : w = .laysStatic Bundle.tN "UNASSIGNED_STACK" Bundle.steD
      · rw [e3]; exact lU
      · by_cases e4 : w = .laysStatic Bundle.tN "SUPPRESSED_SENTINEL" Bundle.listD
        · rw [e4]; exact lN
        · exact h1 w (List.mem_filter.mpr ⟨hw, by unfold vx_no; rw [decide_eq_true e1, decide_eq_true e2, decide_eq_true e3, decide_eq_true e4]; rfl⟩)
/-- where a static field lies, its class's statics cell in H -/
def vx_L (C n d : String) (A : Nat → Prop) (U : State) (H : Heap) : Prop := ∃ (c : ClassId) (k : Class) (i : Nat) (f : Field) (a : Nat) (cell : Cell), U.vm.findClass C = some c ∧ U.fieldFound? C n d = some (c, k, i, f) ∧ f.isStatic = true ∧ k.statics = some a ∧ H[a]? = some cell ∧ cell.vm.isStatics = true ∧ cell.cls = c ∧ f.slot < cell.slots.size ∧ k.staticTypes[f.slot]? = some f.type ∧ ¬ A a
theorem vx_L.moved {C n d : String} {A : Nat → Prop} {u U : State} {H : Heap} (hvm : u.vm.Alike U.vm) (h : vx_L C n d A u H) : vx_L C n d A U H := by
  obtain ⟨c, k, i, f, a, cell, h1, h2, h3, h4, h5, h6, h7, h8, h9, h10⟩ := h
  obtain ⟨k', hi', he⟩ := State.fieldFound?_setVm hvm h2
  exact ⟨c, k', i, f, a, cell, by rw [hvm.findClass]; exact h1, hi', h3, by rw [he]; exact h4, h5, h6, h7, h8, by rw [he]; exact h9, h10⟩
theorem vx_L.kept {C n d : String} {A : Nat → Prop} {U : State} {H H1 : Heap} (h : vx_L C n d A U H) (hq : ∀ a : Nat, a < H.size → ¬ A a → H1[a]? = H[a]?) : vx_L C n d A U H1 := by
  obtain ⟨c, k, i, f, a, cell, h1, h2, h3, h4, h5, h6, h7, h8, h9, h10⟩ := h
  exact ⟨c, k, i, f, a, cell, h1, h2, h3, h4, by rw [hq a (Array.getElem?_eq_some_iff.mp h5).1 h10]; exact h5, h6, h7, h8, h9, h10⟩
theorem vx_L.narrow {C n d : String} {A B : Nat → Prop} {U : State} {H : Heap} (h : vx_L C n d A U H) (hAB : ∀ q, B q → A q) : vx_L C n d B U H := by
  obtain ⟨c, k, i, f, a, cell, h1, h2, h3, h4, h5, h6, h7, h8, h9, h10⟩ := h
  exact ⟨c, k, i, f, a, cell, h1, h2, h3, h4, h5, h6, h7, h8, h9, fun z => h10 (hAB _ z)⟩
theorem vx_L.word {C n d : String} {A : Nat → Prop} {s : State} {args : Array Value} (h : vx_L C n d A s s.heap) : (Cond.laysStatic C n d).before args s = true := by
  obtain ⟨c, k, i, f, a, cell, h1, h2, h3, h4, h5, h6, h7, h8, h9, -⟩ := h
  show (Cond.laysStatic C n d).holds args s none s [] = true
  exact Cond.laysStatic_of h1 h2 h3 h4 h5 h6 h7 h8 h9
/-- .. and what it holds: null or some reference -/
def vx_Zq (C n d : String) (A : Nat → Prop) (U : State) (H : Heap) : Prop := va_Zq C n d A U H ∧ vx_L C n d A U H
theorem vx_Zq.moved {C n d : String} {A : Nat → Prop} {u U : State} {H : Heap} (hvm : u.vm.Alike U.vm) (h : vx_Zq C n d A u H) : vx_Zq C n d A U H := ⟨va_Zq.moved hvm h.1, vx_L.moved hvm h.2⟩
theorem vx_Zq.kept {C n d : String} {A : Nat → Prop} {U : State} {H H1 : Heap} (h : vx_Zq C n d A U H) (hq : ∀ a : Nat, a < H.size → ¬ A a → H1[a]? = H[a]?) : vx_Zq C n d A U H1 := ⟨va_Zq.kept h.1 hq, vx_L.kept h.2 hq⟩
theorem vx_Zq.narrow {C n d : String} {A B : Nat → Prop} {U : State} {H : Heap} (h : vx_Zq C n d A U H) (hAB : ∀ q, B q → A q) : vx_Zq C n d B U H := ⟨va_Zq.narrow h.1 hAB, vx_L.narrow h.2 hAB⟩
theorem vx_Zqof {args : Array Value} {s : State} {C n d : String} {A : Nat → Prop} (hl : (Cond.laysStatic C n d).before args s = true) (hini : (Cond.initialized C).before args s = true) (h : (Cond.isRef (.static C n d)).before args s = true) (hA : ∀ a : Nat, a < s.heap.size → ¬ A a) : vx_Zq C n d A s s.heap := by
  refine ⟨va_Zqof hl hini h hA, ?_⟩
  obtain ⟨c, k, i, f, a, cell, h1, h2, h3, h4, h5, h6, h7, h8, h9⟩ := Cond.laysStatic_spec hl
  exact ⟨c, k, i, f, a, cell, h1, h2, h3, h4, h5, h6, h7, h8, h9, hA a (Array.getElem?_eq_some_iff.mp h5).1⟩
theorem vx_isRef {C n d : String} {v : Value} {A : Nat → Prop} {s : State} {args : Array Value} (h : va_Z C n d v A s s.heap) (hv : v.isRef = true) : (Cond.isRef (.static C n d)).before args s = true := by
  obtain ⟨cf, kf, fi, f, a, cell, h1, h2, h3, h4, h5, h6, h7, -⟩ := h
  have he : (Term.static C n d).eval args s none [] s = some v := by
    simp [Term.eval, State.fieldNamed?, h1, h2, h4, h5, h6, h7]
  simp only [Cond.before, Cond.holds, Cond.value, he]
  cases v <;> simp_all [Value.isRef]
theorem vx_isRefq {C n d : String} {A : Nat → Prop} {s : State} {args : Array Value} (h : va_Zq C n d A s s.heap) : (Cond.isRef (.static C n d)).before args s = true := by
  rcases h with h | ⟨t, h⟩
  · exact vx_isRef h rfl
  · exact vx_isRef h rfl
/-- the same frame, seen from here: as if the method were called anew in this heap -/
theorem vx_rebase {T : State} (X : Stand p l e R s m args below meth c T locs cells slots) {R' : Room} (hf : R'.frames ≤ R.frames) (hl : R'.locals ≤ R.locals) (hc : cells + R'.cells ≤ R.cells) (hs : slots + R'.slots ≤ R.slots) :
    Stand p l e R' ((T.setVm s.vm).setFrames (.invoking m args :: below)) m args below meth c T [] 0 0 := by
  have htop : (T.setVm s.vm).topJava?.isSome := X.here.top
  have hF : ((T.setVm s.vm).setFrames (.invoking m args :: below)).frames = .invoking m args :: below := State.frames_setFrames _ (State.cur_lt_of_top htop)
  obtain ⟨g₀, hg0⟩ := Option.isSome_iff_exists.mp htop
  obtain ⟨r, hr⟩ := State.topJava?_eq_some.mp hg0
  have hl9 : e.platform.stackLimits (T.setVm s.vm).me = e.platform.stackLimits s.me := X.limits
  have hb9 : (T.setVm s.vm).me.stackBytes = s.me.stackBytes := X.bytes
  refine ⟨X.admits, X.cas, X.clock, hF, ?_, X.hears, X.method, X.code, X.here, X.tail, X.warmed, ?_, ?_, ?_⟩
  · have h := X.room
    have hU : ((T.setVm s.vm).setFrames (.invoking m args :: below)).localsInUse = s.localsInUse := by
      rw [State.localsInUse_invoking hF (meth := meth) (c := c) X.method X.code, State.localsInUse_invoking X.frames X.method X.code]
    simp only [State.hasRoom, Bool.and_eq_true, decide_eq_true_eq] at h ⊢
    obtain ⟨⟨⟨⟨h1, h2, h3, h4, h5, h6⟩, h7⟩, h8⟩, h9⟩ := h
    rw [X.frames, List.length_cons] at h2 h3
    have q1 := X.heapSize
    have q2 := X.used
    simp only [hF, hU, List.length_cons, State.stackLimits_setFrames, State.stackBytes_setFrames, hl9, hb9]
    refine ⟨⟨⟨⟨by omega, by omega, by omega, by omega, by omega, h6⟩, ?_⟩, ?_⟩, X.book⟩
    · show T.heap.size + R'.cells ≤ e.platform.maxCells
      omega
    · show T.slotsUsed + R'.slots ≤ e.platform.maxSlots
      omega
  · rw [State.stackLimits_setFrames]; rfl
  · rw [State.stackBytes_setFrames]; rfl
  · refine ⟨?_, Nat.le_refl _, Nat.le_refl _, ?_, ?_, fun a c9 h9 => ⟨c9, h9, rfl, rfl, fun _ _ => rfl⟩⟩
    · obtain ⟨t, ht, -⟩ := State.frames_cons hr
      show T.setVm s.vm = { ((T.setVm s.vm).setFrames (.invoking m args :: below)).setFrames (T.setVm s.vm).frames with heap := T.heap, slotsUsed := T.slotsUsed }
      rw [State.setFrames_setFrames, State.setFrames_self ht]
      rfl
    · show T.slotsUsed = T.slotsUsed + ((T.heap.toList.drop T.heap.size).map (·.slots.size)).sum
      rw [List.drop_eq_nil_of_le (Nat.le_of_eq Array.length_toList)]
      rfl
    · show ((T.heap.toList.drop T.heap.size).map (·.slots.size)).sum ≤ 0
      rw [List.drop_eq_nil_of_le (Nat.le_of_eq Array.length_toList)]
      exact Nat.le_refl _
/-- 'throw new E()': new; dup; invokespecial; athrow -/
theorem vx_throw0 {cc : ByteArray} {pc : Nat} (hexec : p.tables.exec = Jvm.exec) (hb : c.code = cc) (hl : l.stackTraces = false) {own cls : String} {names : List String} {ik ic mc ms : Nat} {A : Nat → Prop}
    (hown : s.vm.findClass own = some m.cls) (hcls : Bundle.fit cls = true) (hnames : ∀ n ∈ names, Bundle.fit n = true)
    (hk : (Cond.classLink own ik cls).before args s = true) (hini : (Cond.initialized cls).before args s = true) (hat : ∀ w ∈ vx_at0 own ic cls names, w.before args s = true)
    (hgood : ∀ w ∈ Cond.classLink own ik cls :: Cond.initialized cls :: vx_at0 own ic cls names, vx_ot w = true)
    (hU : vx_Zq Bundle.tN "UNASSIGNED_STACK" Bundle.steD A s s.heap) (hN : vx_Zq Bundle.tN "SUPPRESSED_SENTINEL" Bundle.listD A s s.heap) (hS : va_S A s.heap H locs) (hsize : ls.size = c.maxLocals)
    (d0 : decode cc pc = .ok (.new ik, 3)) (d3 : decode cc (pc + 3) = .ok (.dup, 1)) (d4 : decode cc (pc + 4) = .ok (.invokespecial ic, 3)) (d7 : decode cc (pc + 7) = .ok (.athrow, 1))
    (hout : ∀ x ∈ c.exceptionTable.toList, covers x (pc + 7) = false)
    (hRframes : names.length + 3 < R.frames) (hRlocals : (rest.map fun v => v.category).sum + (13 * (names.length + 1) + 42) ≤ R.locals) (hRcells : cells + 1 ≤ R.cells) (hRslots : slots + 6 ≤ R.slots) (hlocks : meth.locks = false)
    (hx : ∀ t : State, s.vm.Alike t.vm → H.size ≤ t.heap.size → (∀ q : Nat, q < H.size → t.heap[q]? = H[q]?) → XC cls s t)
    (hf : ∀ z ∈ locs, free z.base) (hc : cells + 1 ≤ mc) (hs : slots + 6 ≤ ms) :
    W p l e R s m args below meth c H locs cells slots (vx_MQ below Qc XC args s mc ms free) (F0 m pc ls rest) := by
  intro T hT X
  have htr : e.platform.stackTraces = false := (show e.platform.stackTraces = l.stackTraces by rw [X.admits.platform]).trans hl
  have Y := vx_rebase X (R' := { frames := R.frames, locals := R.locals, cells := 1, slots := 6 }) (Nat.le_refl _) (Nat.le_refl _) hRcells hRslots
  obtain ⟨s', hA⟩ : ∃ z, z = (T.setVm s.vm).setFrames (.invoking m args :: below) := ⟨_, rfl⟩
  rw [← hA] at Y
  have hvm : s'.vm = s.vm := by rw [hA]; rfl
  have hhp : s'.heap = H := by rw [hA]; exact hT
  have hW0 : s.WarmedH s'.vm := by rw [hvm]; exact State.WarmedH.refl s
  have hat' : ∀ w ∈ vx_at0 own ic cls names, w.before args s' = true := fun w hw => vx_ot_at hW0 hvm.symm (hgood w (List.mem_cons_of_mem _ (List.mem_cons_of_mem _ hw))) (hat w hw)
  have hk' : (Cond.classLink own ik cls).before args s' = true := vx_ot_at hW0 hvm.symm (hgood _ List.mem_cons_self) hk
  have hini' : (Cond.initialized cls).before args s' = true := vx_ot_at hW0 hvm.symm (hgood _ (List.mem_cons_of_mem _ List.mem_cons_self)) hini
  have hU' : vx_Zq Bundle.tN "UNASSIGNED_STACK" Bundle.steD A s' s'.heap := by rw [hhp]; exact vx_Zq.moved hW0.alike (hU.kept hS.2.1)
  have hN' : vx_Zq Bundle.tN "SUPPRESSED_SENTINEL" Bundle.listD A s' s'.heap := by rw [hhp]; exact vx_Zq.moved hW0.alike (hN.kept hS.2.1)
  have h : ∀ w ∈ Bundle.ownAtoms0 own ic cls names, w.before args s' = true := vx_own hat' (vx_isRefq hU'.1) (vx_isRefq hN'.1) hU'.2.word hN'.2.word
  have hown' : s'.vm.findClass own = some m.cls := by rw [hvm]; exact hown
  have hins : (Cond.instantiable cls 6).before args s' = true := h _ (by simp [Bundle.ownAtoms0])
  obtain ⟨vm₁, cX, kX, hfX, hkX, -, -, X₁, st1⟩ := Y.newCold hexec (own := own) (C := cls) (index := ik) (n := 6) hown' hk' hins hini'
    (g := F0 m pc ls rest) rfl (by rw [hb]; exact d0) (Nat.le_refl _) (Nat.le_refl _)
  generalize hT1 : (T.setVm vm₁).pushCell { cls := cX, slots := kX.instanceTypes.map defaultValue, vm := .none } = T1 at X₁ st1
  have hcat : (Value.ref T.heap.size).category = 1 := rfl
  have hcellA : T1.heap[T.heap.size]? = some (freshCell cX kX) := by rw [← hT1]; exact State.heap_pushCell_size _ _
  have d3' : decode c.code (pc + 3) = .ok (.dup, 1) := by rw [hb]; exact d3
  obtain ⟨U, hsteps, hrun, hend, hW, hsame, ce, hce, hO⟩ := X₁.ctorThrow0 hexec htr (own := own) (cls := cls) (names := names) (ic := ic) hown' hcls hnames h (fun x hx => nomatch hx) hfX hkX hcellA (by rw [hhp, hT]; exact Nat.le_refl _)
    (g := { method := m, pc := pc + 4, locals := ls, stack := .ref T.heap.size :: .ref T.heap.size :: rest, locked := none }) rfl hsize rfl rfl (rest := rest) rfl
    (by rw [hb]; exact d4) (by rw [hb]; exact d7) hout hRframes (by simp only [List.map_cons, List.sum_cons, hcat]; omega) hlocks
  obtain ⟨f1, f2⟩ := vx_frame hsame
  rw [hhp] at f1 f2
  have hWs : s.WarmedH U.vm := State.WarmedH.trans hW0 hW
  have hcl : s.vm.findClass cls = some ce.cls := by
    have h9 := hO.cls
    rw [hvm] at h9
    exact h9
  have hall : s.sameButNew ({ U with vm := s.vm } : State) locs mc ms := by
    subst hA
    obtain ⟨e1, e2⟩ := hsame
    rw [State.setFrames_setFrames] at e1
    have h2 : (T.setVm s.vm).sameButNew ({ U with vm := s.vm } : State) [] (0 + 1) (0 + 6) := ⟨e1, e2⟩
    have h3 := X.same.trans h2
    rw [List.append_nil] at h3
    exact h3.mono hc hs
  refine ⟨U, ?_, .threw T.heap.size, hrun, hend, Or.inr ⟨T.heap.size, rfl, cls, ce, locs, hx U hWs.alike f1 (fun q hq => f2 q hq (fun z hz => nomatch hz)), hce, hO.vm, hcl, hWs, hall, hf⟩⟩
  refine st1 _ ?_
  show Steps p.tables e below (T1.setTop { method := m, pc := pc + 3, locals := ls, stack := .ref T.heap.size :: rest, locked := none }) _
  jvm_step X₁.here [X₁.here.top, hexec, d3', Value.category]
  exact hsteps
/-- 'throw new E("text")': new; dup; ldc; invokespecial; athrow -/
theorem vx_throwS {cc : ByteArray} {pc : Nat} (hexec : p.tables.exec = Jvm.exec) (hb : c.code = cc) (hl : l.stackTraces = false) {own cls text : String} {names : List String} {ik is ic mc ms sa : Nat} {A : Nat → Prop}
    (hown : s.vm.findClass own = some m.cls) (hcls : Bundle.fit cls = true) (hnames : ∀ n ∈ names, Bundle.fit n = true)
    (hk : (Cond.classLink own ik cls).before args s = true) (hini : (Cond.initialized cls).before args s = true) (hstr : vk_R own is text sa s) (hat : ∀ w ∈ vx_atS own ic cls names, w.before args s = true)
    (hgood : ∀ w ∈ Cond.classLink own ik cls :: Cond.initialized cls :: vx_atS own ic cls names, vx_ot w = true)
    (hU : vx_Zq Bundle.tN "UNASSIGNED_STACK" Bundle.steD A s s.heap) (hN : vx_Zq Bundle.tN "SUPPRESSED_SENTINEL" Bundle.listD A s s.heap) (hS : va_S A s.heap H locs) (hsize : ls.size = c.maxLocals)
    (d0 : decode cc pc = .ok (.new ik, 3)) (d3 : decode cc (pc + 3) = .ok (.dup, 1)) (d4 : decode cc (pc + 4) = .ok (.ldc is, 2)) (d6 : decode cc (pc + 6) = .ok (.invokespecial ic, 3)) (d9 : decode cc (pc + 9) = .ok (.athrow, 1))
    (hout : ∀ x ∈ c.exceptionTable.toList, covers x (pc + 9) = false)
    (hRframes : names.length + 3 < R.frames) (hRlocals : (rest.map fun v => v.category).sum + (13 * (names.length + 1) + 43) ≤ R.locals) (hRcells : cells + 1 ≤ R.cells) (hRslots : slots + 6 ≤ R.slots) (hlocks : meth.locks = false)
    (hx : ∀ t : State, s.vm.Alike t.vm → H.size ≤ t.heap.size → (∀ q : Nat, q < H.size → t.heap[q]? = H[q]?) → XC cls s t)
    (hf : ∀ z ∈ locs, free z.base) (hc : cells + 1 ≤ mc) (hs : slots + 6 ≤ ms) :
    W p l e R s m args below meth c H locs cells slots (vx_MQ below Qc XC args s mc ms free) (F0 m pc ls rest) := by
  intro T hT X
  have htr : e.platform.stackTraces = false := (show e.platform.stackTraces = l.stackTraces by rw [X.admits.platform]).trans hl
  have Y := vx_rebase X (R' := { frames := R.frames, locals := R.locals, cells := 1, slots := 6 }) (Nat.le_refl _) (Nat.le_refl _) hRcells hRslots
  obtain ⟨s', hA⟩ : ∃ z, z = (T.setVm s.vm).setFrames (.invoking m args :: below) := ⟨_, rfl⟩
  rw [← hA] at Y
  have hvm : s'.vm = s.vm := by rw [hA]; rfl
  have hhp : s'.heap = H := by rw [hA]; exact hT
  have hW0 : s.WarmedH s'.vm := by rw [hvm]; exact State.WarmedH.refl s
  have hat' : ∀ w ∈ vx_atS own ic cls names, w.before args s' = true := fun w hw => vx_ot_at hW0 hvm.symm (hgood w (List.mem_cons_of_mem _ (List.mem_cons_of_mem _ hw))) (hat w hw)
  have hk' : (Cond.classLink own ik cls).before args s' = true := vx_ot_at hW0 hvm.symm (hgood _ List.mem_cons_self) hk
  have hini' : (Cond.initialized cls).before args s' = true := vx_ot_at hW0 hvm.symm (hgood _ (List.mem_cons_of_mem _ List.mem_cons_self)) hini
  have hU' : vx_Zq Bundle.tN "UNASSIGNED_STACK" Bundle.steD A s' s'.heap := by rw [hhp]; exact vx_Zq.moved hW0.alike (hU.kept hS.2.1)
  have hN' : vx_Zq Bundle.tN "SUPPRESSED_SENTINEL" Bundle.listD A s' s'.heap := by rw [hhp]; exact vx_Zq.moved hW0.alike (hN.kept hS.2.1)
  have h : ∀ w ∈ Bundle.ownAtoms own ic cls names, w.before args s' = true := vx_own hat' (vx_isRefq hU'.1) (vx_isRefq hN'.1) hU'.2.word hN'.2.word
  have hown' : s'.vm.findClass own = some m.cls := by rw [hvm]; exact hown
  have hins : (Cond.instantiable cls 6).before args s' = true := h _ (by simp [Bundle.ownAtoms])
  obtain ⟨vm₁, cX, kX, hfX, hkX, -, -, X₁, st1⟩ := Y.newCold hexec (own := own) (C := cls) (index := ik) (n := 6) hown' hk' hins hini'
    (g := F0 m pc ls rest) rfl (by rw [hb]; exact d0) (Nat.le_refl _) (Nat.le_refl _)
  generalize hT1 : (T.setVm vm₁).pushCell { cls := cX, slots := kX.instanceTypes.map defaultValue, vm := .none } = T1 at X₁ st1
  have hcat : (Value.ref T.heap.size).category = 1 := rfl
  have hcellA : T1.heap[T.heap.size]? = some (freshCell cX kX) := by rw [← hT1]; exact State.heap_pushCell_size _ _
  have d3' : decode c.code (pc + 3) = .ok (.dup, 1) := by rw [hb]; exact d3
  have d4' : decode c.code (pc + 4) = .ok (.ldc is, 2) := by rw [hb]; exact d4
  have hstr' : vk_R own is text sa s' := vk_R.warm hW0 hstr
  obtain ⟨U, hsteps, hrun, hend, hW, hsame, ce, hce, hO⟩ := X₁.ctorThrowS hexec htr (own := own) (cls := cls) (names := names) (ic := ic) hown' hcls hnames h (fun x hx => nomatch hx) hfX hkX hcellA (by rw [hhp, hT]; exact Nat.le_refl _) (msg := .ref sa) rfl
    (g := { method := m, pc := pc + 6, locals := ls, stack := .ref sa :: .ref T.heap.size :: .ref T.heap.size :: rest, locked := none }) rfl hsize rfl rfl (rest := rest) rfl
    (by rw [hb]; exact d6) (by rw [hb]; exact d9) hout hRframes (by simp only [List.map_cons, List.sum_cons, hcat]; omega) hlocks
  obtain ⟨f1, f2⟩ := vx_frame hsame
  rw [hhp] at f1 f2
  have hWs : s.WarmedH U.vm := State.WarmedH.trans hW0 hW
  have hcl : s.vm.findClass cls = some ce.cls := by
    have h9 := hO.cls
    rw [hvm] at h9
    exact h9
  have hall : s.sameButNew ({ U with vm := s.vm } : State) locs mc ms := by
    subst hA
    obtain ⟨e1, e2⟩ := hsame
    rw [State.setFrames_setFrames] at e1
    have h2 : (T.setVm s.vm).sameButNew ({ U with vm := s.vm } : State) [] (0 + 1) (0 + 6) := ⟨e1, e2⟩
    have h3 := X.same.trans h2
    rw [List.append_nil] at h3
    exact h3.mono hc hs
  refine ⟨U, ?_, .threw T.heap.size, hrun, hend, Or.inr ⟨T.heap.size, rfl, cls, ce, locs, hx U hWs.alike f1 (fun q hq => f2 q hq (fun z hz => nomatch hz)), hce, hO.vm, hcl, hWs, hall, hf⟩⟩
  refine st1 _ ?_
  show Steps p.tables e below (T1.setTop { method := m, pc := pc + 3, locals := ls, stack := .ref T.heap.size :: rest, locked := none }) _
  jvm_step X₁.here [X₁.here.top, hexec, d3', Value.category]
  exact X₁.ldcString hexec (own := own) (text := text) (index := is) (a := sa) hown' hstr'.1 hstr'.2
    (g := { method := m, pc := pc + 4, locals := ls, stack := .ref T.heap.size :: .ref T.heap.size :: rest, locked := none }) rfl d4' _ hsteps
/-- 'throw new E("text")', the text by a wide index -/
theorem vx_throwSW {cc : ByteArray} {pc : Nat} (hexec : p.tables.exec = Jvm.exec) (hb : c.code = cc) (hl : l.stackTraces = false) {own cls text : String} {names : List String} {ik is ic mc ms sa : Nat} {A : Nat → Prop}
    (hown : s.vm.findClass own = some m.cls) (hcls : Bundle.fit cls = true) (hnames : ∀ n ∈ names, Bundle.fit n = true)
    (hk : (Cond.classLink own ik cls).before args s = true) (hini : (Cond.initialized cls).before args s = true) (hstr : vk_R own is text sa s) (hat : ∀ w ∈ vx_atS own ic cls names, w.before args s = true)
    (hgood : ∀ w ∈ Cond.classLink own ik cls :: Cond.initialized cls :: vx_atS own ic cls names, vx_ot w = true)
    (hU : vx_Zq Bundle.tN "UNASSIGNED_STACK" Bundle.steD A s s.heap) (hN : vx_Zq Bundle.tN "SUPPRESSED_SENTINEL" Bundle.listD A s s.heap) (hS : va_S A s.heap H locs) (hsize : ls.size = c.maxLocals)
    (d0 : decode cc pc = .ok (.new ik, 3)) (d3 : decode cc (pc + 3) = .ok (.dup, 1)) (d4 : decode cc (pc + 4) = .ok (.ldc_w is, 3)) (d7 : decode cc (pc + 7) = .ok (.invokespecial ic, 3)) (d10 : decode cc (pc + 10) = .ok (.athrow, 1))
    (hout : ∀ x ∈ c.exceptionTable.toList, covers x (pc + 10) = false)
    (hRframes : names.length + 3 < R.frames) (hRlocals : (rest.map fun v => v.category).sum + (13 * (names.length + 1) + 43) ≤ R.locals) (hRcells : cells + 1 ≤ R.cells) (hRslots : slots + 6 ≤ R.slots) (hlocks : meth.locks = false)
    (hx : ∀ t : State, s.vm.Alike t.vm → H.size ≤ t.heap.size → (∀ q : Nat, q < H.size → t.heap[q]? = H[q]?) → XC cls s t)
    (hf : ∀ z ∈ locs, free z.base) (hc : cells + 1 ≤ mc) (hs : slots + 6 ≤ ms) :
    W p l e R s m args below meth c H locs cells slots (vx_MQ below Qc XC args s mc ms free) (F0 m pc ls rest) := by
  intro T hT X
  have htr : e.platform.stackTraces = false := (show e.platform.stackTraces = l.stackTraces by rw [X.admits.platform]).trans hl
  have Y := vx_rebase X (R' := { frames := R.frames, locals := R.locals, cells := 1, slots := 6 }) (Nat.le_refl _) (Nat.le_refl _) hRcells hRslots
  obtain ⟨s', hA⟩ : ∃ z, z = (T.setVm s.vm).setFrames (.invoking m args :: below) := ⟨_, rfl⟩
  rw [← hA] at Y
  have hvm : s'.vm = s.vm := by rw [hA]; rfl
  have hhp : s'.heap = H := by rw [hA]; exact hT
  have hW0 : s.WarmedH s'.vm := by rw [hvm]; exact State.WarmedH.refl s
  have hat' : ∀ w ∈ vx_atS own ic cls names, w.before args s' = true := fun w hw => vx_ot_at hW0 hvm.symm (hgood w (List.mem_cons_of_mem _ (List.mem_cons_of_mem _ hw))) (hat w hw)
  have hk' : (Cond.classLink own ik cls).before args s' = true := vx_ot_at hW0 hvm.symm (hgood _ List.mem_cons_self) hk
  have hini' : (Cond.initialized cls).before args s' = true := vx_ot_at hW0 hvm.symm (hgood _ (List.mem_cons_of_mem _ List.mem_cons_self)) hini
  have hU' : vx_Zq Bundle.tN "UNASSIGNED_STACK" Bundle.steD A s' s'.heap := by rw [hhp]; exact vx_Zq.moved hW0.alike (hU.kept hS.2.1)
  have hN' : vx_Zq Bundle.tN "SUPPRESSED_SENTINEL" Bundle.listD A s' s'.heap := by rw [hhp]; exact vx_Zq.moved hW0.alike (hN.kept hS.2.1)
  have h : ∀ w ∈ Bundle.ownAtoms own ic cls names, w.before args s' = true := vx_own hat' (vx_isRefq hU'.1) (vx_isRefq hN'.1) hU'.2.word hN'.2.word
  have hown' : s'.vm.findClass own = some m.cls := by rw [hvm]; exact hown
  have hins : (Cond.instantiable cls 6).before args s' = true := h _ (by simp [Bundle.ownAtoms])
  obtain ⟨vm₁, cX, kX, hfX, hkX, -, -, X₁, st1⟩ := Y.newCold hexec (own := own) (C := cls) (index := ik) (n := 6) hown' hk' hins hini'
    (g := F0 m pc ls rest) rfl (by rw [hb]; exact d0) (Nat.le_refl _) (Nat.le_refl _)
  generalize hT1 : (T.setVm vm₁).pushCell { cls := cX, slots := kX.instanceTypes.map defaultValue, vm := .none } = T1 at X₁ st1
  have hcat : (Value.ref T.heap.size).category = 1 := rfl
  have hcellA : T1.heap[T.heap.size]? = some (freshCell cX kX) := by rw [← hT1]; exact State.heap_pushCell_size _ _
  have d3' : decode c.code (pc + 3) = .ok (.dup, 1) := by rw [hb]; exact d3
  have d4' : decode c.code (pc + 4) = .ok (.ldc_w is, 3) := by rw [hb]; exact d4
  have hstr' : vk_R own is text sa s' := vk_R.warm hW0 hstr
  obtain ⟨U, hsteps, hrun, hend, hW, hsame, ce, hce, hO⟩ := X₁.ctorThrowS hexec htr (own := own) (cls := cls) (names := names) (ic := ic) hown' hcls hnames h (fun x hx => nomatch hx) hfX hkX hcellA (by rw [hhp, hT]; exact Nat.le_refl _) (msg := .ref sa) rfl
    (g := { method := m, pc := pc + 7, locals := ls, stack := .ref sa :: .ref T.heap.size :: .ref T.heap.size :: rest, locked := none }) rfl hsize rfl rfl (rest := rest) rfl
    (by rw [hb]; exact d7) (by rw [hb]; exact d10) hout hRframes (by simp only [List.map_cons, List.sum_cons, hcat]; omega) hlocks
  obtain ⟨f1, f2⟩ := vx_frame hsame
  rw [hhp] at f1 f2
  have hWs : s.WarmedH U.vm := State.WarmedH.trans hW0 hW
  have hcl : s.vm.findClass cls = some ce.cls := by
    have h9 := hO.cls
    rw [hvm] at h9
    exact h9
  have hall : s.sameButNew ({ U with vm := s.vm } : State) locs mc ms := by
    subst hA
    obtain ⟨e1, e2⟩ := hsame
    rw [State.setFrames_setFrames] at e1
    have h2 : (T.setVm s.vm).sameButNew ({ U with vm := s.vm } : State) [] (0 + 1) (0 + 6) := ⟨e1, e2⟩
    have h3 := X.same.trans h2
    rw [List.append_nil] at h3
    exact h3.mono hc hs
  refine ⟨U, ?_, .threw T.heap.size, hrun, hend, Or.inr ⟨T.heap.size, rfl, cls, ce, locs, hx U hWs.alike f1 (fun q hq => f2 q hq (fun z hz => nomatch hz)), hce, hO.vm, hcl, hWs, hall, hf⟩⟩
  refine st1 _ ?_
  show Steps p.tables e below (T1.setTop { method := m, pc := pc + 3, locals := ls, stack := .ref T.heap.size :: rest, locked := none }) _
  jvm_step X₁.here [X₁.here.top, hexec, d3', Value.category]
  exact X₁.ldcStringW hexec (own := own) (text := text) (index := is) (a := sa) hown' hstr'.1 hstr'.2
    (g := { method := m, pc := pc + 4, locals := ls, stack := .ref T.heap.size :: .ref T.heap.size :: rest, locked := none }) rfl d4' _ hsteps
end Ends
section Bodies
variable {l : Launch}
theorem vx_ofW {y : MethodName} {ws ws' : List Cond} {rm : Room} {Pc : Array Value → State → Prop} {Qc : Array Value → State → Outcome → State → Prop} {XC : String → State → State → Prop} {mc ms : Nat} {free : Addr → Prop} {cc : ByteArray} {maxL : Nat} {ret : Option FieldType}
    (hy : plainName y.cls = true) (hw : ws = Cond.code y cc maxL ret :: ws')
    (body : ∀ p e s m args below meth c s₁, BodyLoose p l y (headSpec ws rm) cc maxL ret e s m args below meth c s₁ → c.maxLocals = maxL → (∀ x ∈ c.exceptionTable.toList, False) → Pc args s →
      W p l e (headSpec ws rm).room s m args below meth c s.heap [] 0 0 (vx_MQ below Qc XC args s mc ms free) (entryFrame m args maxL)) : vx_Met l y ws rm Pc Qc XC mc ms free := by
  refine MetFree.of_bodyS (code := cc) (maxLocals := maxL) (ret := ret) hy ?_ ?_
  · intro args s m h hn
    obtain ⟨meth, c, h1, h2, h3, h4, h5, h6, -, -⟩ := Cond.code_spec hn (atoms_spec (ws := ws) h _ (by rw [hw]; exact List.mem_cons_self))
    exact ⟨meth, c, h1, h2, h3, h4, h5, h6⟩
  · intro p e s m args below meth c s₁ B hml hP _
    have hh0 : s₁.heap = s.heap := by rw [B.state]; rfl
    have ht : ∀ x ∈ c.exceptionTable.toList, False := by
      obtain ⟨meth9, c9, h1, h2, -, -, -, -, h7, -⟩ := Cond.code_spec B.named (atoms_spec (ws := ws) B.pre _ (by rw [hw]; exact List.mem_cons_self))
      cases Option.some.inj (h1.symm.trans B.method)
      cases Option.some.inj (h2.symm.trans (Stand.of_body B).code)
      intro x hx
      rw [Array.isEmpty_iff.mp h7] at hx
      cases hx
    obtain ⟨t, a1, o, b1, b2, b3⟩ := body p e s m args below meth c s₁ B hml ht hP s₁ hh0 (Stand.of_body B)
    exact ⟨t, o, a1, b1, b2, b3⟩
/-- the table of a body with handlers -/
theorem vx_table {p : Program} {x y : MethodName} {S : Spec} {cc bytes : ByteArray} {maxL maxL' : Nat} {ret ret' : Option FieldType} {e : Env} {s s₁ : State} {m : MethodId} {args : Array Value} {below : List Frame} {meth : Method} {c : Code} {hh : List (Nat × Nat × Nat × Nat)}
    (B : BodyLoose p l y S cc maxL ret e s m args below meth c s₁) (h : (Cond.codeWith y bytes maxL' ret' hh).before args s = true) : c.exceptionTable.toList = tableOf hh := by
  obtain ⟨m9, meth9, c9, hn9, h1, h2, -, -, h6, -⟩ := Cond.codeWith_spec h
  cases Option.some.inj (hn9.symm.trans B.named)
  cases Option.some.inj (h1.symm.trans B.method)
  cases Option.some.inj (h2.symm.trans (Stand.of_body B).code)
  rw [← h6, table_eq]
end Bodies
end VXA
/-! ===== END ===== -/
/-! ===== BEGIN a static call of a method with an exception table ===== -/
section VXS
variable {p : Program} {l : Launch} {e : Env} {R : Room} {s : State} {m : MethodId} {args : Array Value} {below : List Frame} {meth : Method} {c : Code} {T : State} {H : Heap} {locs : List Loc} {cells slots : Nat}
abbrev vx_CSW (R : Room) (s : State) (args : Array Value) (own : String) (index : Nat) (y : MethodName) (bytes : ByteArray) (maxL : Nat) (ret : Option FieldType) (hh : List (Nat × Nat × Nat × Nat)) (ws : List Cond) (rm : Room) (mc ms n : Nat) : Prop :=
  (rm.cells = mc ∧ rm.slots = ms ∧ rm.frames + 1 ≤ R.frames ∧ 8 + (maxL + 11) + rm.locals ≤ R.locals ∧ (∀ w ∈ ws, ∀ (a' : Array Value) (U : State), s.WarmedH U.vm → w.before a' U = true) ∧ Cond.codeWith y bytes maxL ret hh ∈ ws) ∧
  (Cond.codeWith y bytes maxL ret hh).before args s = true ∧ (Cond.initialized y.cls).before args s = true ∧ (y.cls ≠ "java/lang/invoke/MethodHandle" ∧ y.cls ≠ "java/lang/invoke/VarHandle") ∧
  (∀ sig, parseMethodDescriptor y.desc = some sig → n = sig.parameters.length) ∧ (Cond.methodLink own index y).before args s = true ∧ (Cond.static y).before args s = true
theorem vx_cwSW {own : String} {index maxL mc ms : Nat} {y : MethodName} {bytes : ByteArray} {ret : Option FieldType} {hh : List (Nat × Nat × Nat × Nat)} {Ts ws ws' : List Cond} {rm : Room} (n : Nat) (ht : ∀ w ∈ Ts, w.before args s = true) (hT : GoodIn Ts (va_wsS own index y ws)) (hw : ws = Cond.codeWith y bytes maxL ret hh :: ws') (hrc : rm.cells = mc) (hrs : rm.slots = ms)
    (hd : y.cls ≠ "java/lang/invoke/MethodHandle" ∧ y.cls ≠ "java/lang/invoke/VarHandle" ∧ (parseMethodDescriptor y.desc).map (fun d => d.parameters.length) = some n) (hR : rm.frames + 1 ≤ R.frames ∧ 8 + (maxL + 11) + rm.locals ≤ R.locals) :
    vx_CSW R s args own index y bytes maxL ret hh ws rm mc ms n := by
  have ok : ∀ w ∈ va_wsS own index y ws, w.before args s = true := fun w h => ht w (hT w h).1
  have hG : GoodIn Ts ws := fun w h => hT w (by unfold va_wsS; exact List.mem_append_right _ h)
  have hc : Cond.codeWith y bytes maxL ret hh ∈ ws := by rw [hw]; exact List.mem_cons_self
  refine ⟨⟨hrc, hrs, hR.1, hR.2, pay_in ht hG, hc⟩, ht _ (hG _ hc).1, ok _ (by simp [va_wsS]), ⟨hd.1, hd.2.1⟩, fun sig h => ?_, ok _ (by simp [va_wsS]), ok _ (by simp [va_wsS])⟩
  have h2 := hd.2.2
  rw [h] at h2
  exact (Option.some.inj h2).symm
theorem vx_callSW (X : Stand p l e R s m args below meth c T locs cells slots) (hexec : p.tables.exec = Jvm.exec) {own : String} {index : Nat} {y : MethodName} {bytes : ByteArray} {maxL : Nat} {ret : Option FieldType} {hh : List (Nat × Nat × Nat × Nat)}
    (hown : s.vm.findClass own = some m.cls) (hlink : (Cond.methodLink own index y).before args s = true) (hstat : (Cond.static y).before args s = true) (hinit : (Cond.initialized y.cls).before args s = true)
    (hcode : (Cond.codeWith y bytes maxL ret hh).before args s = true) (hy : y.cls ≠ "java/lang/invoke/MethodHandle" ∧ y.cls ≠ "java/lang/invoke/VarHandle")
    {W9 : Nat} {Pre : Pt → Array Value → Prop} {Post : Pt → Array Value → Option Value → Pt → Prop} (hK : Back l R p e below s args y 3 W9 Pre Post)
    {g : JFrame} (hg : g.method = m) (hsize : g.locals.size = c.maxLocals) {argsL rest : List Value} (hlen : ∀ sig, parseMethodDescriptor y.desc = some sig → argsL.length = sig.parameters.length)
    (hstack : g.stack = argsL.reverse ++ rest) (hW : 2 * g.monitorRoom + (rest.map fun v => v.category).sum ≤ W9) (hdg : decode c.code g.pc = .ok (.invokestatic index, 3))
    (hpre : ∀ vm₁, s.WarmedH vm₁ → Pre ⟨T.setVm vm₁, locs, cells, slots⟩ argsL.toArray) :
    ∃ (v : Option Value) (vm₁ : Vm) (B : Pt), s.WarmedH vm₁ ∧ Stand p l e R s m args below meth c B.U B.locs B.cells B.slots ∧ Post ⟨T.setVm vm₁, locs, cells, slots⟩ argsL.toArray v B ∧
      ∀ target, Steps p.tables e below (B.U.setTop { g with pc := g.pc + 3, stack := v.toList ++ rest }) target → Steps p.tables e below (T.setTop g) target := by
  obtain ⟨mk, methM, cM, hnamed, hmethM, -, -, -, -, -, -, hsigM⟩ := Cond.codeWith_spec hcode
  have hstatic : methM.isStatic = true := Cond.static_spec hnamed hmethM hstat
  obtain ⟨kP, hkP, -⟩ := className_of_methodNamed hnamed
  have hinitP : kP.init = .initialized := Cond.initialized_spec (findClass_of_methodNamed hnamed) hkP hinit
  obtain ⟨vm₁, X₁, hstep₁⟩ := X.invokestatic hexec hown hlink hnamed hmethM hstatic hkP hinitP hy (g := g) hg (argsL := argsL) (rest := rest) (hlen _ hsigM) hstack hdg
  obtain ⟨v, B, X', hpost, hsteps⟩ := hK m meth c ⟨T.setVm vm₁, locs, cells, slots⟩ { g with stack := rest } (.invokestatic index) mk argsL.toArray X₁ hg hsize hdg hW (X₁.named hnamed) (hpre vm₁ X₁.warmed)
  exact ⟨v, vm₁, B, X₁.warmed, X', hpost, fun target h => hstep₁ _ fun acts => by rw [doInvoke_state]; exact hsteps.trans h⟩
theorem vx_runSW {y : MethodName} {bytes cc : ByteArray} {maxL nL mc ms n index : Nat} {ret : Option FieldType} {hh : List (Nat × Nat × Nat × Nat)} {ws : List Cond} {rm : Room} {Pc : Array Value → State → Prop} {Qc : Array Value → State → Outcome → State → Prop} {free : Addr → Prop} {Ts : List Cond} {own : String} {As rest : List Value} {g : JFrame}
    (S : CallFix p m c cc nL s args Ts own) (hM : Met l y ws rm Pc Qc mc ms free) (cw : vx_CSW R s args own index y bytes maxL ret hh ws rm mc ms n) (hp : PreS s H Pc As)
    (hg : g.method = m) (hn : As.length = n) (hsize : g.locals.size = nL) (hstack : g.stack = As.reverse ++ rest) (hW : 2 * g.monitorRoom + (rest.map fun v => v.category).sum ≤ 8) (hdg : decode cc g.pc = .ok (.invokestatic index, 3)) (hf : cells + mc ≤ R.cells ∧ slots + ms ≤ R.slots) :
    va_Run p l e R s m args below meth c H locs cells slots mc ms g rest (Qc As.toArray) (free) := by
  obtain ⟨⟨hrc, hrs, hfr, hlo, hws, hcw⟩, hcode, hini, hy, hlen, hl, hstt⟩ := cw
  have hK : Back l R p e below s args y 3 8 (PreOf R mc ms Pc) (PostOf Qc mc ms free) := va_backW (hh := hh) (bytes := bytes) (maxL := maxL) (ret := ret) hM hp.1 hrc hrs hfr hlo hws hcw (fun a' U hW => word_at hW (Or.inl (by first | rfl | simp [Cond.onTables, Cond.keeps, Cond.steady])) hini)
  obtain ⟨hx, hb, hml, ho, -⟩ := S
  intro T hT X
  obtain ⟨v, vm₁, ⟨U', l2, c2, s2⟩, hW₁, X', ⟨g', mk, t, L, e1, e2, hq, h1, hL, h2, h3⟩, st⟩ := vx_callSW X hx (hh := hh) (bytes := bytes) (maxL := maxL) (ret := ret) ho hl hstt hini hcode hy hK hg (hsize.trans hml.symm) (argsL := As) (rest := rest) (fun sig h => hn.trans (hlen sig h)) hstack hW (by rw [hb]; exact hdg)
    (fun vm₁ hW₁ => ⟨hf.1, hf.2, hp.2 (T.setVm vm₁) hT hW₁⟩)
  dsimp only [Pt.U, Pt.locs, Pt.cells, Pt.slots] at X' e1 e2 h1 h2 h3 st
  subst h1; subst h2; subst h3
  exact ⟨v, (T.setVm vm₁).calling g' mk As.toArray, t, U', L, hT, X', hL, e1, e2, hq, st⟩
/-- not caught here, past rows that name other classes: it goes on to the caller -/
theorem vx_outP {p : Program} {l : Launch} {e : Env} {R : Room} {s : State} {m : MethodId} {args : Array Value} {below : List Frame} {meth : Method} {c : Code} {H : Heap} {locs : List Loc} {cells slots : Nat} {free : Addr → Prop} {ls : Array Slot} {rest : List Value} {Qc : Array Value → State → Outcome → State → Prop} {XC : String → State → State → Prop}
    {pc : Nat} {own E : String} {ce : Cell} {q : Addr} {mc ms : Nat} (hown : s.vm.findClass own = some m.cls) (hlocks : meth.locks = false)
    (hpass : ∀ z ∈ c.exceptionTable.toList, covers z pc = false ∨ (z.catchType ≠ 0 ∧ ∃ nm : String, (Cond.classLink own z.catchType nm).before args s = true ∧ va_Nc E nm s)) (hcell : H[q]? = some ce) (hv : ce.vm = .none) (hcl : s.vm.findClass E = some ce.cls)
    (hx : ∀ t : State, t.heap = H → s.vm.Alike t.vm → XC E s t) (hf : ∀ z ∈ locs, free z.base) (hc : cells ≤ mc) (hs : slots ≤ ms) :
    vx_W p l e R s m args below meth c H locs cells slots (vx_MQ below Qc XC args s mc ms free) (F0 m pc ls rest) q := by
  intro T hT X
  have hpl : e.platform.magicAccessors = ({} : Platform).magicAccessors := by rw [X.admits.platform]
  obtain ⟨vm', hW', X', st⟩ := X.outThrough hlocks q (g := F0 m pc ls rest) rfl rfl rfl (cell := ce) (by rw [hT]; exact hcell) (by rw [hv]; rfl)
    (by obtain ⟨k9, h9, -⟩ := Vm.findClass_spec hcl; exact ⟨k9, h9⟩) (fun z hz => by
      rcases hpass z hz with h | ⟨hz0, nm, hl1, hn1⟩
      · exact Or.inl h
      · obtain ⟨c6, hc6, hcl6⟩ := Cond.classLink_spec hown hl1 e.platform hpl
        obtain ⟨a8, b8, h1, h2, h3⟩ := hn1
        cases Option.some.inj (h1.symm.trans hcl)
        cases Option.some.inj (h2.symm.trans hc6)
        exact Or.inr ⟨hz0, _, hcl6, h3⟩)
  obtain ⟨g₀, hfr⟩ := X'.frames_eq
  have hcell9 : ((T.setVm vm').setFrames (.throwing q :: below)).heap[q]? = some ce := by
    show T.heap[q]? = some ce
    rw [hT]; exact hcell
  have hend : Ended ((T.setVm vm').setFrames (.throwing q :: below)) below (.threw q) := State.frames_setFrames _ (State.cur_lt_of_frames hfr)
  refine ⟨(T.setVm vm').setFrames (.throwing q :: below), ?_, .threw q, X'.here.running, hend, Or.inr ⟨q, rfl, E, ce, locs, hx _ hT (X'.ends _).1.alike, hcell9, hv, hcl, (X'.ends _).1, (X'.ends _).2.mono hc hs, hf⟩⟩
  rw [X.pushThrowing_eq]
  exact st
/-- a thing of a world lies in the heap -/
theorem vx_lt {D : va_G} {cl : List vw_C} {ws : va_W} {H1 : Heap} (h : va_P D cl ws H1) {k : Nat} {q : Nat × va_E} (hk : ws[k]? = some q) : q.1 < H1.size := (h k q hk).lt
end VXS
/-! ===== END ===== -/
/-! ===== BEGIN methods with a table of their own: called by a name, returning or throwing ===== -/
section VXH
/-! vx_backW, vx_callVX, vx_callSX, vx_callVW, vx_runVW, vx_runVX, vx_runSX, vx_ofWH follow the same proofs as their sisters above (Free/Laws.lean, Shelf42/LK1.lean); vx_outP calls Shelf42/NT130.lean (outThrough). -/
section
variable {l : Launch} {R : Room} {p : Program} {e : Env} {below : List Frame} {s : State} {sargs : Array Value} {y : MethodName} {len W9 : Nat}
theorem vx_backW {ws : List Cond} {rm : Room} {Pc : Array Value → State → Prop} {Qc : Array Value → State → Outcome → State → Prop} {XC : String → State → State → Prop} {mc ms : Nat} {free : Addr → Prop} {bytes : ByteArray} {maxL : Nat} {ret : Option FieldType} {hh : List (Nat × Nat × Nat × Nat)}
    (hM : vx_Met l y ws rm Pc Qc XC mc ms free) (hblind : FrameBlind Pc) (hrc : rm.cells = mc) (hrs : rm.slots = ms)
    (hframes : rm.frames + 1 ≤ R.frames) (hlocals : W9 + (maxL + 11) + rm.locals ≤ R.locals)
    (hws : ∀ w ∈ ws, ∀ a' U, s.WarmedH U.vm → w.before a' U = true) (hcode : Cond.codeWith y bytes maxL ret hh ∈ ws) (hinit : ∀ a' U, s.WarmedH U.vm → (Cond.initialized y.cls).before a' U = true) :
    vx_Back l R p e below s sargs y len W9 (PreOf R mc ms Pc) (PostOf Qc mc ms free) (vx_Post XC mc ms free) := by
  intro m meth c A g ig mk a X hg hsize hdg hW hn hp
  have h1 : (headSpec ws rm).pre.before a A.U = true := atoms_intro fun w hw => hws w hw _ _ X.warmed
  have h2 : (Cond.codeWith y bytes maxL ret hh).before a A.U = true := hws _ hcode _ _ X.warmed
  have h3 : (Cond.initialized y.cls).before a A.U = true := hinit _ _ X.warmed
  have h4 : A.cells + (headSpec ws rm).room.cells ≤ R.cells := by rw [show (headSpec ws rm).room.cells = mc from hrc]; exact hp.1
  have h5 : A.slots + (headSpec ws rm).room.slots ≤ R.slots := by rw [show (headSpec ws rm).room.slots = ms from hrs]; exact hp.2.1
  have hPc : Pc a (A.U.calling g mk a) := hblind _ _ _ _ hp.2.2
  obtain ⟨U, Ls, c0, s0⟩ := A
  dsimp only [Pt.U, Pt.locs, Pt.cells, Pt.slots] at h1 h2 h3 h4 h5 X hn hPc ⊢
  obtain ⟨m9, methY, cY, hn9, hmY, hcY, -, hlY, -⟩ := Cond.codeWith_spec h2
  cases Option.some.inj (hn9.symm.trans hn)
  obtain ⟨kY, hkY, -⟩ := className_of_methodNamed hn
  have hinitY : kY.init = .initialized := Cond.initialized_spec (findClass_of_methodNamed hn) hkY h3
  have h : At U g.method c below := by rw [hg]; exact X.here
  have hlocals9 : W9 + (maxL + 11) + (headSpec ws rm).room.locals ≤ R.locals := hlocals
  have happ : (headSpec ws rm).appliesLoose y e.platform (U.calling g mk a) = true :=
    Spec.appliesLoose_calling (g := g) h hdg hn hkY hinitY
      (X.room_calling (g := g) (R' := (headSpec ws rm).room) hsize hmY hcY hframes (by rw [hlY]; omega) h4 h5) h1
  obtain ⟨mid, hmid⟩ := h.above
  have hfr : (U.setTop g).frames = (.java g :: mid) ++ below := by rw [State.frames_setTop' g h.top, hmid]; rfl
  obtain ⟨o, s₂, hsteps, -, hend, hq⟩ := Steps.callFree hM p X.admits X.cas X.clock (acts := []) hfr happ hPc trivial
  have hq' : vx_Q Qc XC mc ms free a (U.calling g mk a) o s₂ := hq
  rw [State.frames_setTop' g h.top] at hend
  obtain ⟨g₀, hg0⟩ := Option.isSome_iff_exists.mp h.top
  obtain ⟨r, hr⟩ := State.topJava?_eq_some.mp hg0
  have hr' : (({ U with heap := s₂.heap, slotsUsed := s₂.slotsUsed } : State).setVm s₂.vm).frames = .java g₀ :: r := hr
  rcases hq' with ⟨hqc, L, hfe, hL⟩ | ⟨q, rfl, E, ce, L, hx, hce, hcv, hcl, hW₂, hsm, hL⟩
  · obtain ⟨⟨v, rfl⟩, hW₂, e2, q2, q3, q4, q5, q6⟩ := id hfe
    have e3 : s₂ = ({ (U.calling g mk a).setFrames s₂.frames with heap := s₂.heap, slotsUsed := s₂.slotsUsed } : State).setVm s₂.vm := by
      have : s₂ = ({ s₂ with vm := (U.calling g mk a).vm } : State).setVm s₂.vm := rfl
      rw [e2] at this
      exact this
    obtain ⟨c₂, i₂, len₂, hc₂, hd₂, hf₂⟩ := hend
    have hW' : U.WarmedH s₂.vm := hW₂
    have hcc : c₂ = c := by
      have h1 : s₂.code? g.method = U.code? g.method := by
        rw [State.code?_eq, State.code?_eq, hW'.alike.method?]
      exact Option.some.inj (hc₂.symm.trans (h1.trans h.code))
    subst hcc
    have hlen : len₂ = len := by rw [hdg] at hd₂; cases hd₂; rfl
    subst hlen
    have hs₂ : s₂ = (({ U with heap := s₂.heap, slotsUsed := s₂.slotsUsed } : State).setVm s₂.vm).setTop { g with pc := g.pc + len₂, stack := v.toList ++ g.stack } := by
      refine e3.trans ?_
      rw [hf₂, State.calling_eq h.top, State.setFrames_setFrames, State.setTop_of_frames _ hr', hr]
      rfl
    have hsame : U.sameButNew ({ U with heap := s₂.heap, slotsUsed := s₂.slotsUsed } : State) L mc ms := by
      refine ⟨?_, q2, q3, q4, q5, q6⟩
      obtain ⟨t, ht, -⟩ := State.frames_cons hr
      show ({ U with heap := s₂.heap, slotsUsed := s₂.slotsUsed } : State) = { U.setFrames U.frames with heap := s₂.heap, slotsUsed := s₂.slotsUsed }
      rw [State.setFrames_self ht]
    subst hg
    refine Or.inl ⟨v, ⟨(({ U with heap := s₂.heap, slotsUsed := s₂.slotsUsed } : State).setVm s₂.vm), Ls ++ L, c0 + mc, s0 + ms⟩,
      ⟨X.admits, X.cas, X.clock, X.frames, X.room, X.hears, X.method, X.code, (X.here.setHeapUsed s₂.heap s₂.slotsUsed).setVm hW'.alike, X.tail, State.WarmedH.trans X.warmed hW', X.limits, X.bytes, X.same.trans (hsame.setVm s.vm)⟩,
      ⟨g, mk, s₂, L, rfl, rfl, hqc, rfl, hL, rfl, rfl⟩, ?_⟩
    show Steps p.tables e below _ ((({ U with heap := s₂.heap, slotsUsed := s₂.slotsUsed } : State).setVm s₂.vm).setTop { g with pc := g.pc + len₂, stack := v.toList ++ g.stack })
    rw [← hs₂]
    exact hsteps
  · obtain ⟨e2, q2, q3, q4, q5, q6⟩ := id hsm
    have e3 : s₂ = ({ (U.calling g mk a).setFrames s₂.frames with heap := s₂.heap, slotsUsed := s₂.slotsUsed } : State).setVm s₂.vm := by
      have : s₂ = ({ s₂ with vm := (U.calling g mk a).vm } : State).setVm s₂.vm := rfl
      rw [e2] at this
      exact this
    have hf₂ : s₂.frames = .throwing q :: .java g :: U.frames.tail := hend
    have hW' : U.WarmedH s₂.vm := hW₂
    have hs₂ : s₂ = ((({ U with heap := s₂.heap, slotsUsed := s₂.slotsUsed } : State).setVm s₂.vm).setTop g).pushFrame (.throwing q) := by
      refine e3.trans ?_
      rw [hf₂, State.calling_eq h.top, State.setFrames_setFrames, State.pushFrame, State.frames_setTop _ hr', State.setTop_of_frames _ hr', State.setFrames_setFrames, hr]
      rfl
    have hsame : U.sameButNew ({ U with heap := s₂.heap, slotsUsed := s₂.slotsUsed } : State) L mc ms := by
      refine ⟨?_, q2, q3, q4, q5, q6⟩
      obtain ⟨t, ht, -⟩ := State.frames_cons hr
      show ({ U with heap := s₂.heap, slotsUsed := s₂.slotsUsed } : State) = { U.setFrames U.frames with heap := s₂.heap, slotsUsed := s₂.slotsUsed }
      rw [State.setFrames_self ht]
    subst hg
    refine Or.inr ⟨q, ⟨(({ U with heap := s₂.heap, slotsUsed := s₂.slotsUsed } : State).setVm s₂.vm), Ls ++ L, c0 + mc, s0 + ms⟩,
      ⟨X.admits, X.cas, X.clock, X.frames, X.room, X.hears, X.method, X.code, (X.here.setHeapUsed s₂.heap s₂.slotsUsed).setVm hW'.alike, X.tail, State.WarmedH.trans X.warmed hW', X.limits, X.bytes, X.same.trans (hsame.setVm s.vm)⟩,
      ⟨g, mk, s₂, L, E, ce, rfl, rfl, hx, hce, hcv, hcl, rfl, hL, rfl, rfl⟩, ?_⟩
    show Steps p.tables e below _ (((({ U with heap := s₂.heap, slotsUsed := s₂.slotsUsed } : State).setVm s₂.vm).setTop g).pushFrame (.throwing q))
    rw [← hs₂]
    exact hsteps
end
variable {p : Program} {l : Launch} {e : Env} {R : Room} {s : State} {m : MethodId} {args : Array Value} {below : List Frame} {meth : Method} {c : Code} {T : State} {H : Heap} {locs : List Loc} {cells slots : Nat}
theorem vx_callVX (X : Stand p l e R s m args below meth c T locs cells slots) (hexec : p.tables.exec = Jvm.exec) {own C : String} {index : Nat} {y : MethodName} {bytes : ByteArray} {maxL : Nat} {ret : Option FieldType} {hh : List (Nat × Nat × Nat × Nat)}
    (hown : s.vm.findClass own = some m.cls) (hlink : (Cond.methodLink own index y).before args s = true) (hinst : (Cond.instanceMethod y).before args s = true) (hsel : (Cond.selects C y y).before args s = true)
    (hcode : (Cond.codeWith y bytes maxL ret hh).before args s = true) (hy : y.cls ≠ "java/lang/invoke/MethodHandle" ∧ y.cls ≠ "java/lang/invoke/VarHandle")
    {W9 : Nat} {Pre : Pt → Array Value → Prop} {Post : Pt → Array Value → Option Value → Pt → Prop} {PostX : Pt → Array Value → Addr → Pt → Prop} (hK : vx_Back l R p e below s args y 3 W9 Pre Post PostX)
    {b : Addr} {cellB : Cell} (hcell : T.heap[b]? = some cellB) (hobj : cellB.vm.isStatics = false) (hcls : s.vm.findClass C = some cellB.cls)
    {g : JFrame} (hg : g.method = m) (hsize : g.locals.size = c.maxLocals) {argsL rest : List Value} (hlen : ∀ sig, parseMethodDescriptor y.desc = some sig → argsL.length = sig.parameters.length)
    (hstack : g.stack = argsL.reverse ++ .ref b :: rest) (hW : 2 * g.monitorRoom + (rest.map fun v => v.category).sum ≤ W9) (hdg : decode c.code g.pc = .ok (.invokevirtual index, 3))
    (hpre : ∀ vm₁, s.WarmedH vm₁ → Pre ⟨T.setVm vm₁, locs, cells, slots⟩ (Value.ref b :: argsL).toArray) :
    (∃ (v : Option Value) (vm₁ : Vm) (B : Pt), s.WarmedH vm₁ ∧ Stand p l e R s m args below meth c B.U B.locs B.cells B.slots ∧ Post ⟨T.setVm vm₁, locs, cells, slots⟩ (Value.ref b :: argsL).toArray v B ∧
      ∀ target, Steps p.tables e below (B.U.setTop { g with pc := g.pc + 3, stack := v.toList ++ rest }) target → Steps p.tables e below (T.setTop g) target) ∨
    (∃ (q : Addr) (vm₁ : Vm) (B : Pt), s.WarmedH vm₁ ∧ Stand p l e R s m args below meth c B.U B.locs B.cells B.slots ∧ PostX ⟨T.setVm vm₁, locs, cells, slots⟩ (Value.ref b :: argsL).toArray q B ∧
      Steps p.tables e below (T.setTop g) ((B.U.setTop { g with stack := rest }).pushFrame (.throwing q))) := by
  obtain ⟨mk, methM, hnamed, hmethM, hstM, habM⟩ := Cond.instanceMethod_spec hinst
  obtain ⟨m8, methM', cM, hn8, hmethM', -, -, -, -, -, -, hsigM⟩ := Cond.codeWith_spec hcode
  cases Option.some.inj (hn8.symm.trans hnamed)
  cases hmethM.symm.trans hmethM'
  obtain ⟨c2, r2, m2, q1, q2, q3, q4, kP, hkP, hkPi⟩ := Cond.selects_spec hsel
  cases hcls.symm.trans q1
  cases (State.methodFound?_of_named hnamed hy).symm.trans q2
  cases hnamed.symm.trans q3
  have hselP : selectMethod e.platform s.vm cellB.cls mk = .method mk := by rw [Launch.admits_selectMethod X.admits]; exact q4
  obtain ⟨vm₁, X₁, hstep₁⟩ := X.invokevirtual hexec hown hlink hnamed hmethM hstM hkP hkPi hy (a := b) (cell := cellB) hcell
    (fun z h => by rw [h] at hobj; cases hobj) hselP hmethM habM hkP hkPi (g := g) hg (argsL := argsL) (rest := rest) (hlen _ hsigM) hstack hdg
  rcases hK m meth c ⟨T.setVm vm₁, locs, cells, slots⟩ { g with stack := rest } (.invokevirtual index) mk (Value.ref b :: argsL).toArray X₁ hg hsize hdg hW (X₁.named hnamed) (hpre vm₁ X₁.warmed) with ⟨v, B, X', hpost, hsteps⟩ | ⟨q, B, X', hpost, hsteps⟩
  · exact Or.inl ⟨v, vm₁, B, X₁.warmed, X', hpost, fun target h => hstep₁ _ fun acts => by rw [doInvoke_state]; exact hsteps.trans h⟩
  · exact Or.inr ⟨q, vm₁, B, X₁.warmed, X', hpost, hstep₁ _ fun acts => by rw [doInvoke_state]; exact hsteps⟩
theorem vx_callSX (X : Stand p l e R s m args below meth c T locs cells slots) (hexec : p.tables.exec = Jvm.exec) {own : String} {index : Nat} {y : MethodName} {bytes : ByteArray} {maxL : Nat} {ret : Option FieldType} {hh : List (Nat × Nat × Nat × Nat)}
    (hown : s.vm.findClass own = some m.cls) (hlink : (Cond.methodLink own index y).before args s = true) (hstat : (Cond.static y).before args s = true) (hinit : (Cond.initialized y.cls).before args s = true)
    (hcode : (Cond.codeWith y bytes maxL ret hh).before args s = true) (hy : y.cls ≠ "java/lang/invoke/MethodHandle" ∧ y.cls ≠ "java/lang/invoke/VarHandle")
    {W9 : Nat} {Pre : Pt → Array Value → Prop} {Post : Pt → Array Value → Option Value → Pt → Prop} {PostX : Pt → Array Value → Addr → Pt → Prop} (hK : vx_Back l R p e below s args y 3 W9 Pre Post PostX)
    {g : JFrame} (hg : g.method = m) (hsize : g.locals.size = c.maxLocals) {argsL rest : List Value} (hlen : ∀ sig, parseMethodDescriptor y.desc = some sig → argsL.length = sig.parameters.length)
    (hstack : g.stack = argsL.reverse ++ rest) (hW : 2 * g.monitorRoom + (rest.map fun v => v.category).sum ≤ W9) (hdg : decode c.code g.pc = .ok (.invokestatic index, 3))
    (hpre : ∀ vm₁, s.WarmedH vm₁ → Pre ⟨T.setVm vm₁, locs, cells, slots⟩ argsL.toArray) :
    (∃ (v : Option Value) (vm₁ : Vm) (B : Pt), s.WarmedH vm₁ ∧ Stand p l e R s m args below meth c B.U B.locs B.cells B.slots ∧ Post ⟨T.setVm vm₁, locs, cells, slots⟩ argsL.toArray v B ∧
      ∀ target, Steps p.tables e below (B.U.setTop { g with pc := g.pc + 3, stack := v.toList ++ rest }) target → Steps p.tables e below (T.setTop g) target) ∨
    (∃ (q : Addr) (vm₁ : Vm) (B : Pt), s.WarmedH vm₁ ∧ Stand p l e R s m args below meth c B.U B.locs B.cells B.slots ∧ PostX ⟨T.setVm vm₁, locs, cells, slots⟩ argsL.toArray q B ∧
      Steps p.tables e below (T.setTop g) ((B.U.setTop { g with stack := rest }).pushFrame (.throwing q))) := by
  obtain ⟨mk, methM, cM, hnamed, hmethM, -, -, -, -, -, -, hsigM⟩ := Cond.codeWith_spec hcode
  have hstatic : methM.isStatic = true := Cond.static_spec hnamed hmethM hstat
  obtain ⟨kP, hkP, -⟩ := className_of_methodNamed hnamed
  have hinitP : kP.init = .initialized := Cond.initialized_spec (findClass_of_methodNamed hnamed) hkP hinit
  obtain ⟨vm₁, X₁, hstep₁⟩ := X.invokestatic hexec hown hlink hnamed hmethM hstatic hkP hinitP hy (g := g) hg (argsL := argsL) (rest := rest) (hlen _ hsigM) hstack hdg
  rcases hK m meth c ⟨T.setVm vm₁, locs, cells, slots⟩ { g with stack := rest } (.invokestatic index) mk argsL.toArray X₁ hg hsize hdg hW (X₁.named hnamed) (hpre vm₁ X₁.warmed) with ⟨v, B, X', hpost, hsteps⟩ | ⟨q, B, X', hpost, hsteps⟩
  · exact Or.inl ⟨v, vm₁, B, X₁.warmed, X', hpost, fun target h => hstep₁ _ fun acts => by rw [doInvoke_state]; exact hsteps.trans h⟩
  · exact Or.inr ⟨q, vm₁, B, X₁.warmed, X', hpost, hstep₁ _ fun acts => by rw [doInvoke_state]; exact hsteps⟩
theorem vx_callVW (X : Stand p l e R s m args below meth c T locs cells slots) (hexec : p.tables.exec = Jvm.exec) {own C : String} {index : Nat} {y : MethodName} {bytes : ByteArray} {maxL : Nat} {ret : Option FieldType} {hh : List (Nat × Nat × Nat × Nat)}
    (hown : s.vm.findClass own = some m.cls) (hlink : (Cond.methodLink own index y).before args s = true) (hinst : (Cond.instanceMethod y).before args s = true) (hsel : (Cond.selects C y y).before args s = true)
    (hcode : (Cond.codeWith y bytes maxL ret hh).before args s = true) (hy : y.cls ≠ "java/lang/invoke/MethodHandle" ∧ y.cls ≠ "java/lang/invoke/VarHandle")
    {W9 : Nat} {Pre : Pt → Array Value → Prop} {Post : Pt → Array Value → Option Value → Pt → Prop} (hK : Back l R p e below s args y 3 W9 Pre Post)
    {b : Addr} {cellB : Cell} (hcell : T.heap[b]? = some cellB) (hobj : cellB.vm.isStatics = false) (hcls : s.vm.findClass C = some cellB.cls)
    {g : JFrame} (hg : g.method = m) (hsize : g.locals.size = c.maxLocals) {argsL rest : List Value} (hlen : ∀ sig, parseMethodDescriptor y.desc = some sig → argsL.length = sig.parameters.length)
    (hstack : g.stack = argsL.reverse ++ .ref b :: rest) (hW : 2 * g.monitorRoom + (rest.map fun v => v.category).sum ≤ W9) (hdg : decode c.code g.pc = .ok (.invokevirtual index, 3))
    (hpre : ∀ vm₁, s.WarmedH vm₁ → Pre ⟨T.setVm vm₁, locs, cells, slots⟩ (Value.ref b :: argsL).toArray) :
    ∃ (v : Option Value) (vm₁ : Vm) (B : Pt), s.WarmedH vm₁ ∧ Stand p l e R s m args below meth c B.U B.locs B.cells B.slots ∧ Post ⟨T.setVm vm₁, locs, cells, slots⟩ (Value.ref b :: argsL).toArray v B ∧
      ∀ target, Steps p.tables e below (B.U.setTop { g with pc := g.pc + 3, stack := v.toList ++ rest }) target → Steps p.tables e below (T.setTop g) target := by
  obtain ⟨mk, methM, hnamed, hmethM, hstM, habM⟩ := Cond.instanceMethod_spec hinst
  obtain ⟨m8, methM', cM, hn8, hmethM', -, -, -, -, -, -, hsigM⟩ := Cond.codeWith_spec hcode
  cases Option.some.inj (hn8.symm.trans hnamed)
  cases hmethM.symm.trans hmethM'
  obtain ⟨c2, r2, m2, q1, q2, q3, q4, kP, hkP, hkPi⟩ := Cond.selects_spec hsel
  cases hcls.symm.trans q1
  cases (State.methodFound?_of_named hnamed hy).symm.trans q2
  cases hnamed.symm.trans q3
  have hselP : selectMethod e.platform s.vm cellB.cls mk = .method mk := by rw [Launch.admits_selectMethod X.admits]; exact q4
  obtain ⟨vm₁, X₁, hstep₁⟩ := X.invokevirtual hexec hown hlink hnamed hmethM hstM hkP hkPi hy (a := b) (cell := cellB) hcell
    (fun z h => by rw [h] at hobj; cases hobj) hselP hmethM habM hkP hkPi (g := g) hg (argsL := argsL) (rest := rest) (hlen _ hsigM) hstack hdg
  obtain ⟨v, B, X', hpost, hsteps⟩ := hK m meth c ⟨T.setVm vm₁, locs, cells, slots⟩ { g with stack := rest } (.invokevirtual index) mk (Value.ref b :: argsL).toArray X₁ hg hsize hdg hW (X₁.named hnamed) (hpre vm₁ X₁.warmed)
  exact ⟨v, vm₁, B, X₁.warmed, X', hpost, fun target h => hstep₁ _ fun acts => by rw [doInvoke_state]; exact hsteps.trans h⟩
abbrev vx_CVW (R : Room) (s : State) (args : Array Value) (own C : String) (index : Nat) (y : MethodName) (bytes : ByteArray) (maxL : Nat) (ret : Option FieldType) (hh : List (Nat × Nat × Nat × Nat)) (ws : List Cond) (rm : Room) (mc ms n : Nat) : Prop :=
  (rm.cells = mc ∧ rm.slots = ms ∧ rm.frames + 1 ≤ R.frames ∧ 8 + (maxL + 11) + rm.locals ≤ R.locals ∧ (∀ w ∈ ws, ∀ (a' : Array Value) (U : State), s.WarmedH U.vm → w.before a' U = true) ∧ Cond.codeWith y bytes maxL ret hh ∈ ws) ∧
  (Cond.codeWith y bytes maxL ret hh).before args s = true ∧ (Cond.initialized y.cls).before args s = true ∧ (y.cls ≠ "java/lang/invoke/MethodHandle" ∧ y.cls ≠ "java/lang/invoke/VarHandle") ∧
  (∀ sig, parseMethodDescriptor y.desc = some sig → n = sig.parameters.length) ∧ (Cond.methodLink own index y).before args s = true ∧ (Cond.instanceMethod y).before args s = true ∧ (Cond.selects C y y).before args s = true
theorem vx_cwVW {own C : String} {index maxL mc ms : Nat} {y : MethodName} {bytes : ByteArray} {ret : Option FieldType} {hh : List (Nat × Nat × Nat × Nat)} {Ts ws ws' : List Cond} {rm : Room} (n : Nat) (ht : ∀ w ∈ Ts, w.before args s = true) (hT : GoodIn Ts (wsV own index C y ws)) (hw : ws = Cond.codeWith y bytes maxL ret hh :: ws') (hrc : rm.cells = mc) (hrs : rm.slots = ms)
    (hd : y.cls = C ∧ y.cls ≠ "java/lang/invoke/MethodHandle" ∧ y.cls ≠ "java/lang/invoke/VarHandle" ∧ (parseMethodDescriptor y.desc).map (fun d => d.parameters.length) = some n) (hR : rm.frames + 1 ≤ R.frames ∧ 8 + (maxL + 11) + rm.locals ≤ R.locals) :
    vx_CVW R s args own C index y bytes maxL ret hh ws rm mc ms n := by
  obtain ⟨hC, hd⟩ := hd
  subst hC
  have ok : ∀ w ∈ wsV own index y.cls y ws, w.before args s = true := fun w h => ht w (hT w h).1
  have hG : GoodIn Ts ws := fun w h => hT w (by unfold wsV; exact List.mem_append_right _ h)
  have hc : Cond.codeWith y bytes maxL ret hh ∈ ws := by rw [hw]; exact List.mem_cons_self
  refine ⟨⟨hrc, hrs, hR.1, hR.2, pay_in ht hG, hc⟩, ht _ (hG _ hc).1, ok _ (by simp [wsV]), ⟨hd.1, hd.2.1⟩, fun sig h => ?_, ok _ (by simp [wsV]), ok _ (by simp [wsV]), ok _ (by simp [wsV])⟩
  have h2 := hd.2.2
  rw [h] at h2
  exact (Option.some.inj h2).symm
theorem vx_runVW {y : MethodName} {bytes cc : ByteArray} {maxL nL mc ms n index : Nat} {ret : Option FieldType} {hh : List (Nat × Nat × Nat × Nat)} {ws : List Cond} {rm : Room} {Pc : Array Value → State → Prop} {Qc : Array Value → State → Outcome → State → Prop} {free : Addr → Prop} {Ts : List Cond} {own C : String} {b : Addr} {As rest : List Value} {g : JFrame}
    (S : CallFix p m c cc nL s args Ts own) (hM : Met l y ws rm Pc Qc mc ms free) (cw : vx_CVW R s args own C index y bytes maxL ret hh ws rm mc ms n) (hp : PreV s H C b Pc As)
    (hg : g.method = m) (hn : As.length = n) (hsize : g.locals.size = nL) (hstack : g.stack = As.reverse ++ .ref b :: rest) (hW : 2 * g.monitorRoom + (rest.map fun v => v.category).sum ≤ 8) (hdg : decode cc g.pc = .ok (.invokevirtual index, 3)) (hf : cells + mc ≤ R.cells ∧ slots + ms ≤ R.slots) :
    va_Run p l e R s m args below meth c H locs cells slots mc ms g rest (Qc (Value.ref b :: As).toArray) free := by
  obtain ⟨⟨hrc, hrs, hfr, hlo, hws, hcw⟩, hcode, hini, hy, hlen, hl, hin, hse⟩ := cw
  have hK : Back l R p e below s args y 3 8 (PreOf R mc ms Pc) (PostOf Qc mc ms free) := va_backW (hh := hh) (bytes := bytes) (maxL := maxL) (ret := ret) hM hp.1 hrc hrs hfr hlo hws hcw (fun a' U hW => word_at hW (Or.inl (by first | rfl | simp [Cond.onTables, Cond.keeps, Cond.steady])) hini)
  obtain ⟨hx, hb, hml, ho, -⟩ := S
  obtain ⟨-, ⟨cellB, hcB, hoB, hclB⟩, hPc⟩ := hp
  intro T hT X
  obtain ⟨v, vm₁, ⟨U', l2, c2, s2⟩, hW₁, X', ⟨g', mk, t, L, e1, e2, hq, h1, hL, h2, h3⟩, st⟩ := vx_callVW X hx (C := C) (hh := hh) (bytes := bytes) (maxL := maxL) (ret := ret) ho hl hin hse hcode hy hK (by rw [hT]; exact hcB) hoB hclB hg (hsize.trans hml.symm) (argsL := As) (rest := rest) (fun sig h => hn.trans (hlen sig h)) hstack hW (by rw [hb]; exact hdg)
    (fun vm₁ hW₁ => ⟨hf.1, hf.2, hPc (T.setVm vm₁) hT hW₁⟩)
  dsimp only [Pt.U, Pt.locs, Pt.cells, Pt.slots] at X' e1 e2 h1 h2 h3 st
  subst h1; subst h2; subst h3
  exact ⟨v, (T.setVm vm₁).calling g' mk (Value.ref b :: As).toArray, t, U', L, hT, X', hL, e1, e2, hq, st⟩
section
variable {y : MethodName} {bytes cc : ByteArray} {maxL nL mc ms n index : Nat} {ret : Option FieldType} {ws : List Cond} {rm : Room} {Pc : Array Value → State → Prop} {Qc : Array Value → State → Outcome → State → Prop} {XC : String → State → State → Prop} {free : Addr → Prop} {Ts : List Cond} {own C : String} {b : Addr} {As rest : List Value} {g : JFrame}
theorem vx_runVX {hh : List (Nat × Nat × Nat × Nat)} (S : CallFix p m c cc nL s args Ts own) (hM : vx_Met l y ws rm Pc Qc XC mc ms free) (cw : vx_CVW R s args own C index y bytes maxL ret hh ws rm mc ms n) (hp : PreV s H C b Pc As)
    (hg : g.method = m) (hn : As.length = n) (hsize : g.locals.size = nL) (hstack : g.stack = As.reverse ++ .ref b :: rest) (hW : 2 * g.monitorRoom + (rest.map fun v => v.category).sum ≤ 8) (hdg : decode cc g.pc = .ok (.invokevirtual index, 3)) (hf : cells + mc ≤ R.cells ∧ slots + ms ≤ R.slots) :
    vx_Run p l e R s m args below meth c H locs cells slots mc ms g rest (Qc (Value.ref b :: As).toArray) XC free := by
  obtain ⟨⟨hrc, hrs, hfr, hlo, hws, hcw⟩, hcode, hini, hy, hlen, hl, hin, hse⟩ := cw
  have hK : vx_Back l R p e below s args y 3 8 (PreOf R mc ms Pc) (PostOf Qc mc ms free) (vx_Post XC mc ms free) := vx_backW (hh := hh) (bytes := bytes) (maxL := maxL) (ret := ret) hM hp.1 hrc hrs hfr hlo hws hcw (fun a' U hW => word_at hW (Or.inl (by first | rfl | simp [Cond.onTables, Cond.keeps, Cond.steady])) hini)
  obtain ⟨hx, hb, hml, ho, -⟩ := S
  obtain ⟨-, ⟨cellB, hcB, hoB, hclB⟩, hPc⟩ := hp
  intro T hT X
  rcases vx_callVX X hx (C := C) (hh := hh) (bytes := bytes) (maxL := maxL) (ret := ret) ho hl hin hse hcode hy hK (by rw [hT]; exact hcB) hoB hclB hg (hsize.trans hml.symm) (argsL := As) (rest := rest) (fun sig h => hn.trans (hlen sig h)) hstack hW (by rw [hb]; exact hdg)
    (fun vm₁ hW₁ => ⟨hf.1, hf.2, hPc (T.setVm vm₁) hT hW₁⟩) with ⟨v, vm₁, ⟨U', l2, c2, s2⟩, hW₁, X', ⟨g', mk, t, L, e1, e2, hq, h1, hL, h2, h3⟩, st⟩ | ⟨q, vm₁, ⟨U', l2, c2, s2⟩, hW₁, X', ⟨g', mk, t, L, E, ce, e1, e2, hq, hce, hcv, hcl, h1, hL, h2, h3⟩, st⟩
  · dsimp only [Pt.U, Pt.locs, Pt.cells, Pt.slots] at X' e1 e2 h1 h2 h3 st
    subst h1; subst h2; subst h3
    exact Or.inl ⟨v, (T.setVm vm₁).calling g' mk (Value.ref b :: As).toArray, t, U', L, hT, X', hL, e1, e2, hq, st⟩
  · dsimp only [Pt.U, Pt.locs, Pt.cells, Pt.slots] at X' e1 e2 h1 h2 h3 st hcl
    subst h1; subst h2; subst h3
    exact Or.inr ⟨q, (T.setVm vm₁).calling g' mk (Value.ref b :: As).toArray, t, U', L, E, ce, hT, X', hL, e1, e2, hq, hce, hcv, vx_cls hW₁ hcl, st⟩
theorem vx_runSX {hh : List (Nat × Nat × Nat × Nat)} (S : CallFix p m c cc nL s args Ts own) (hM : vx_Met l y ws rm Pc Qc XC mc ms free) (cw : vx_CSW R s args own index y bytes maxL ret hh ws rm mc ms n) (hp : PreS s H Pc As)
    (hg : g.method = m) (hn : As.length = n) (hsize : g.locals.size = nL) (hstack : g.stack = As.reverse ++ rest) (hW : 2 * g.monitorRoom + (rest.map fun v => v.category).sum ≤ 8) (hdg : decode cc g.pc = .ok (.invokestatic index, 3)) (hf : cells + mc ≤ R.cells ∧ slots + ms ≤ R.slots) :
    vx_Run p l e R s m args below meth c H locs cells slots mc ms g rest (Qc As.toArray) XC free := by
  obtain ⟨⟨hrc, hrs, hfr, hlo, hws, hcw⟩, hcode, hini, hy, hlen, hl, hstt⟩ := cw
  have hK : vx_Back l R p e below s args y 3 8 (PreOf R mc ms Pc) (PostOf Qc mc ms free) (vx_Post XC mc ms free) := vx_backW (hh := hh) (bytes := bytes) (maxL := maxL) (ret := ret) hM hp.1 hrc hrs hfr hlo hws hcw (fun a' U hW => word_at hW (Or.inl (by first | rfl | simp [Cond.onTables, Cond.keeps, Cond.steady])) hini)
  obtain ⟨hx, hb, hml, ho, -⟩ := S
  intro T hT X
  rcases vx_callSX X hx (hh := hh) (bytes := bytes) (maxL := maxL) (ret := ret) ho hl hstt hini hcode hy hK hg (hsize.trans hml.symm) (argsL := As) (rest := rest) (fun sig h => hn.trans (hlen sig h)) hstack hW (by rw [hb]; exact hdg)
    (fun vm₁ hW₁ => ⟨hf.1, hf.2, hp.2 (T.setVm vm₁) hT hW₁⟩) with ⟨v, vm₁, ⟨U', l2, c2, s2⟩, hW₁, X', ⟨g', mk, t, L, e1, e2, hq, h1, hL, h2, h3⟩, st⟩ | ⟨q, vm₁, ⟨U', l2, c2, s2⟩, hW₁, X', ⟨g', mk, t, L, E, ce, e1, e2, hq, hce, hcv, hcl, h1, hL, h2, h3⟩, st⟩
  · dsimp only [Pt.U, Pt.locs, Pt.cells, Pt.slots] at X' e1 e2 h1 h2 h3 st
    subst h1; subst h2; subst h3
    exact Or.inl ⟨v, (T.setVm vm₁).calling g' mk As.toArray, t, U', L, hT, X', hL, e1, e2, hq, st⟩
  · dsimp only [Pt.U, Pt.locs, Pt.cells, Pt.slots] at X' e1 e2 h1 h2 h3 st hcl
    subst h1; subst h2; subst h3
    exact Or.inr ⟨q, (T.setVm vm₁).calling g' mk As.toArray, t, U', L, E, ce, hT, X', hL, e1, e2, hq, hce, hcv, vx_cls hW₁ hcl, st⟩
end
end VXH
theorem vx_ofWH {l : Launch} {y : MethodName} {ws ws' : List Cond} {rm : Room} {Pc : Array Value → State → Prop} {Qc : Array Value → State → Outcome → State → Prop} {XC : String → State → State → Prop} {mc ms : Nat} {free : Addr → Prop} {cc : ByteArray} {maxL : Nat} {ret : Option FieldType} {hh : List (Nat × Nat × Nat × Nat)}
    (hy : plainName y.cls = true) (hw : ws = Cond.codeWith y cc maxL ret hh :: ws')
    (body : ∀ p e s m args below meth c s₁, BodyLoose p l y (headSpec ws rm) cc maxL ret e s m args below meth c s₁ → c.maxLocals = maxL → Pc args s →
      W p l e (headSpec ws rm).room s m args below meth c s.heap [] 0 0 (vx_MQ below Qc XC args s mc ms free) (entryFrame m args maxL)) : vx_Met l y ws rm Pc Qc XC mc ms free := by
  refine MetFree.of_bodyS (code := cc) (maxLocals := maxL) (ret := ret) hy ?_ ?_
  · intro args s m h hn
    obtain ⟨m9, meth, c, hn9, h1, h2, h3, h4, -, h5, h6, -⟩ := Cond.codeWith_spec (atoms_spec (ws := ws) h _ (by rw [hw]; exact List.mem_cons_self))
    cases hn.symm.trans hn9
    exact ⟨meth, c, h1, h2, h3, h4, h5, h6⟩
  · intro p e s m args below meth c s₁ B hml hP _
    have hh0 : s₁.heap = s.heap := by rw [B.state]; rfl
    obtain ⟨t, a1, o, b1, b2, b3⟩ := body p e s m args below meth c s₁ B hml hP s₁ hh0 (Stand.of_body B)
    exact ⟨t, o, a1, b1, b2, b3⟩
/-! ===== END ===== -/

/-! ===== BEGIN printed: names, fields, word lists, decode rows ===== -/
end
section
def RX0 : String := "FaultHeaps$Distances"
def TX0 : u_T := fun k => match k with
  | 0 => ("FaultHeaps$Distances", "bare", "[[I", true)
  | 1 => ("FaultHeaps$Distances", "bareLengths", "[I", true)
  | 2 => ("FaultHeaps$Distances", "isOther", "[Z", true)
  | 3 => ("FaultHeaps$Distances", "known", "[[I", true)
  | _ => ("FaultHeaps$Distances", "least", "[[I", true)
def tyX0 : Nat → FieldType := fun k => match k with
  | 0 => .array (.array .int)
  | 1 => .array .int
  | 2 => .array .boolean
  | 3 => .array (.array .int)
  | _ => .array (.array .int)
abbrev wsX00 : List Cond := u_ws RX0 TX0 5
theorem nmX0 : ∀ a, a < 5 → ∀ b, b < 5 → a ≠ b → (TX0 a).2.1 ≠ (TX0 b).2.1 := by decide +kernel
theorem tyX0_ok : ∀ k, k < 5 → parseFieldDescriptor (TX0 k).2.2.1 = some (tyX0 k) := by decide +kernel
abbrev cX0_init : ByteArray := prog_2_method_1_code
def yX0_init : MethodName := ⟨RX0, "<init>", "()V"⟩
abbrev cX0_between : ByteArray := prog_2_method_2_code
def yX0_between : MethodName := ⟨RX0, "between", "(II)I"⟩
abbrev cX0_renew : ByteArray := prog_2_method_3_code
def yX0_renew : MethodName := ⟨RX0, "renew", "(LFaultHeaps$Reports;)V"⟩
abbrev cX0_strip : ByteArray := prog_2_method_4_code
def yX0_strip : MethodName := ⟨RX0, "strip", "(LFaultHeaps$Reports;I)Z"⟩
abbrev cX0_measure : ByteArray := prog_2_method_5_code
def yX0_measure : MethodName := ⟨RX0, "measure", "(II)I"⟩
abbrev cX0_costOfOne : ByteArray := prog_2_method_6_code
def yX0_costOfOne : MethodName := ⟨RX0, "costOfOne", "(I)I"⟩
abbrev cX0_costOfChange : ByteArray := prog_2_method_7_code
def yX0_costOfChange : MethodName := ⟨RX0, "costOfChange", "(II)I"⟩
def RX1 : String := "FaultHeaps$Heaps"
def TX1 : u_T := fun k => match k with
  | 0 => ("FaultHeaps$Heaps", "wishes", "[[I", true)
  | 1 => ("FaultHeaps$Heaps", "heapOf", "[I", true)
  | 2 => ("FaultHeaps$Heaps", "leastIn", "[I", true)
  | 3 => ("FaultHeaps$Heaps", "sizes", "[I", true)
  | 4 => ("FaultHeaps$Heaps", "newNumbers", "[I", true)
  | 5 => ("FaultHeaps$Heaps", "joining", "[[I", true)
  | 6 => ("FaultHeaps$Heaps", "melting", "[[I", true)
  | 7 => ("FaultHeaps$Heaps", "reportsNumber", "I", false)
  | 8 => ("FaultHeaps$Heaps", "heapsNumber", "I", false)
  | 9 => ("FaultHeaps$Heaps", "limit", "I", false)
  | 10 => ("FaultHeaps$Heaps", "changes", "I", false)
  | 11 => ("FaultHeaps$Heaps", "bestAdded", "I", false)
  | 12 => ("FaultHeaps$Heaps", "bestReport", "I", false)
  | 13 => ("FaultHeaps$Heaps", "bestMelted", "I", false)
  | _ => ("FaultHeaps$Heaps", "bestInto", "I", false)
def tyX1 : Nat → FieldType := fun k => match k with
  | 0 => .array (.array .int)
  | 1 => .array .int
  | 2 => .array .int
  | 3 => .array .int
  | 4 => .array .int
  | 5 => .array (.array .int)
  | 6 => .array (.array .int)
  | 7 => .int
  | 8 => .int
  | 9 => .int
  | 10 => .int
  | 11 => .int
  | 12 => .int
  | 13 => .int
  | _ => .int
abbrev wsX10 : List Cond := u_ws RX1 TX1 15
theorem nmX1 : ∀ a, a < 15 → ∀ b, b < 15 → a ≠ b → (TX1 a).2.1 ≠ (TX1 b).2.1 := by decide +kernel
theorem tyX1_ok : ∀ k, k < 15 → parseFieldDescriptor (TX1 k).2.2.1 = some (tyX1 k) := by decide +kernel
abbrev cX1_init : ByteArray := prog_3_method_1_code
def yX1_init : MethodName := ⟨RX1, "<init>", "()V"⟩
abbrev cX1_howMany : ByteArray := prog_3_method_2_code
def yX1_howMany : MethodName := ⟨RX1, "howMany", "()I"⟩
abbrev cX1_getT : ByteArray := prog_3_method_3_code
def yX1_getT : MethodName := ⟨RX1, "getT", "()I"⟩
abbrev cX1_changesDone : ByteArray := prog_3_method_4_code
def yX1_changesDone : MethodName := ⟨RX1, "changesDone", "()I"⟩
abbrev cX1_setT : ByteArray := prog_3_method_5_code
def yX1_setT : MethodName := ⟨RX1, "setT", "(I)Z"⟩
abbrev cX1_hasWish : ByteArray := prog_3_method_6_code
def yX1_hasWish : MethodName := ⟨RX1, "hasWish", "(II)Z"⟩
abbrev cX1_wish : ByteArray := prog_3_method_7_code
def yX1_wish : MethodName := ⟨RX1, "wish", "(III)V"⟩
abbrev cX1_areTogether : ByteArray := prog_3_method_8_code
def yX1_areTogether : MethodName := ⟨RX1, "areTogether", "(II)Z"⟩
abbrev cX1_leastBeside : ByteArray := prog_3_method_9_code
def yX1_leastBeside : MethodName := ⟨RX1, "leastBeside", "(I)I"⟩
abbrev cX1_sizeBeside : ByteArray := prog_3_method_10_code
def yX1_sizeBeside : MethodName := ⟨RX1, "sizeBeside", "(I)I"⟩
abbrev cX1_setBeside : ByteArray := prog_3_method_11_code
def yX1_setBeside : MethodName := ⟨RX1, "setBeside", "(I)J"⟩
abbrev cX1_costOfPair : ByteArray := prog_3_method_12_code
def yX1_costOfPair : MethodName := ⟨RX1, "costOfPair", "(IILFaultHeaps$Distances;)I"⟩
abbrev cX1_costOfAll : ByteArray := prog_3_method_13_code
def yX1_costOfAll : MethodName := ⟨RX1, "costOfAll", "(LFaultHeaps$Distances;)I"⟩
abbrev cX1_addAlone : ByteArray := prog_3_method_14_code
def yX1_addAlone : MethodName := ⟨RX1, "addAlone", "()V"⟩
abbrev cX1_partAll : ByteArray := prog_3_method_15_code
def yX1_partAll : MethodName := ⟨RX1, "partAll", "()V"⟩
abbrev cX1_settle : ByteArray := prog_3_method_16_code
def yX1_settle : MethodName := ⟨RX1, "settle", "(LFaultHeaps$Distances;)V"⟩
abbrev cX1_weighJoining : ByteArray := prog_3_method_17_code
def yX1_weighJoining : MethodName := ⟨RX1, "weighJoining", "(LFaultHeaps$Distances;)V"⟩
abbrev cX1_weighMelting : ByteArray := prog_3_method_18_code
def yX1_weighMelting : MethodName := ⟨RX1, "weighMelting", "()V"⟩
abbrev cX1_findBest : ByteArray := prog_3_method_19_code
def yX1_findBest : MethodName := ⟨RX1, "findBest", "()V"⟩
abbrev cX1_findBestMove : ByteArray := prog_3_method_20_code
def yX1_findBestMove : MethodName := ⟨RX1, "findBestMove", "(I)V"⟩
abbrev cX1_weighMove : ByteArray := prog_3_method_21_code
def yX1_weighMove : MethodName := ⟨RX1, "weighMove", "(III)V"⟩
abbrev cX1_doBest : ByteArray := prog_3_method_22_code
def yX1_doBest : MethodName := ⟨RX1, "doBest", "()V"⟩
abbrev cX1_numberAnew : ByteArray := prog_3_method_23_code
def yX1_numberAnew : MethodName := ⟨RX1, "numberAnew", "()V"⟩
def RX2 : String := "FaultHeaps$Marks"
def TX2 : u_T := fun k => match k with
  | 0 => ("FaultHeaps$Marks", "shared", "[I", true)
  | 1 => ("FaultHeaps$Marks", "holders", "[J", true)
  | 2 => ("FaultHeaps$Marks", "sharedNumber", "I", false)
  | 3 => ("FaultHeaps$Marks", "latest", "[I", true)
  | _ => ("FaultHeaps$Marks", "latestLength", "I", false)
def tyX2 : Nat → FieldType := fun k => match k with
  | 0 => .array .int
  | 1 => .array .long
  | 2 => .int
  | 3 => .array .int
  | _ => .int
abbrev wsX20 : List Cond := u_ws RX2 TX2 5
theorem nmX2 : ∀ a, a < 5 → ∀ b, b < 5 → a ≠ b → (TX2 a).2.1 ≠ (TX2 b).2.1 := by decide +kernel
theorem tyX2_ok : ∀ k, k < 5 → parseFieldDescriptor (TX2 k).2.2.1 = some (tyX2 k) := by decide +kernel
abbrev cX2_init : ByteArray := prog_4_method_1_code
def yX2_init : MethodName := ⟨RX2, "<init>", "()V"⟩
abbrev cX2_latestAt : ByteArray := prog_4_method_2_code
def yX2_latestAt : MethodName := ⟨RX2, "latestAt", "(I)I"⟩
abbrev cX2_tell : ByteArray := prog_4_method_3_code
def yX2_tell : MethodName := ⟨RX2, "tell", "(LFaultHeaps$Reports;J)I"⟩
abbrev cX2_gatherShared : ByteArray := prog_4_method_4_code
def yX2_gatherShared : MethodName := ⟨RX2, "gatherShared", "(LFaultHeaps$Reports;J)V"⟩
abbrev cX2_findOne : ByteArray := prog_4_method_5_code
def yX2_findOne : MethodName := ⟨RX2, "findOne", "(J)Z"⟩
abbrev cX2_findTwo : ByteArray := prog_4_method_6_code
def yX2_findTwo : MethodName := ⟨RX2, "findTwo", "(J)Z"⟩
abbrev cX2_findThree : ByteArray := prog_4_method_7_code
def yX2_findThree : MethodName := ⟨RX2, "findThree", "(J)Z"⟩
def RX3 : String := "FaultHeaps$Reports"
def TX3 : u_T := fun k => match k with
  | 0 => ("FaultHeaps$Reports", "rows", "[[I", true)
  | 1 => ("FaultHeaps$Reports", "lengths", "[I", true)
  | 2 => ("FaultHeaps$Reports", "madeIn", "[I", true)
  | 3 => ("FaultHeaps$Reports", "fixedIn", "[I", true)
  | 4 => ("FaultHeaps$Reports", "holders", "[J", true)
  | _ => ("FaultHeaps$Reports", "number", "I", false)
def tyX3 : Nat → FieldType := fun k => match k with
  | 0 => .array (.array .int)
  | 1 => .array .int
  | 2 => .array .int
  | 3 => .array .int
  | 4 => .array .long
  | _ => .int
abbrev wsX30 : List Cond := u_ws RX3 TX3 6
theorem nmX3 : ∀ a, a < 6 → ∀ b, b < 6 → a ≠ b → (TX3 a).2.1 ≠ (TX3 b).2.1 := by decide +kernel
theorem tyX3_ok : ∀ k, k < 6 → parseFieldDescriptor (TX3 k).2.2.1 = some (tyX3 k) := by decide +kernel
abbrev cX3_init : ByteArray := prog_5_method_1_code
def yX3_init : MethodName := ⟨RX3, "<init>", "()V"⟩
abbrev cX3_has : ByteArray := prog_5_method_2_code
def yX3_has : MethodName := ⟨RX3, "has", "(I)Z"⟩
abbrev cX3_hasTwo : ByteArray := prog_5_method_3_code
def yX3_hasTwo : MethodName := ⟨RX3, "hasTwo", "(II)Z"⟩
abbrev cX3_hasFrame : ByteArray := prog_5_method_4_code
def yX3_hasFrame : MethodName := ⟨RX3, "hasFrame", "(II)Z"⟩
abbrev cX3_isFull : ByteArray := prog_5_method_5_code
def yX3_isFull : MethodName := ⟨RX3, "isFull", "()Z"⟩
abbrev cX3_howMany : ByteArray := prog_5_method_6_code
def yX3_howMany : MethodName := ⟨RX3, "howMany", "()I"⟩
abbrev cX3_add : ByteArray := prog_5_method_7_code
def yX3_add : MethodName := ⟨RX3, "add", "(LFaultHeaps$ToldRow;I)I"⟩
abbrev cX3_frameAt : ByteArray := prog_5_method_8_code
def yX3_frameAt : MethodName := ⟨RX3, "frameAt", "(II)I"⟩
abbrev cX3_lengthOf : ByteArray := prog_5_method_9_code
def yX3_lengthOf : MethodName := ⟨RX3, "lengthOf", "(I)I"⟩
abbrev cX3_versionOf : ByteArray := prog_5_method_10_code
def yX3_versionOf : MethodName := ⟨RX3, "versionOf", "(I)I"⟩
abbrev cX3_fixedAt : ByteArray := prog_5_method_11_code
def yX3_fixedAt : MethodName := ⟨RX3, "fixedAt", "(I)I"⟩
abbrev cX3_setFixedAt : ByteArray := prog_5_method_12_code
def yX3_setFixedAt : MethodName := ⟨RX3, "setFixedAt", "(II)V"⟩
abbrev cX3_holdersOf : ByteArray := prog_5_method_13_code
def yX3_holdersOf : MethodName := ⟨RX3, "holdersOf", "(I)J"⟩
abbrev cX3_isCommon : ByteArray := prog_5_method_14_code
def yX3_isCommon : MethodName := ⟨RX3, "isCommon", "(I)Z"⟩
abbrev cX3_howManyCommon : ByteArray := prog_5_method_15_code
def yX3_howManyCommon : MethodName := ⟨RX3, "howManyCommon", "()I"⟩
def RX4 : String := "FaultHeaps$ToldRow"
def TX4 : u_T := fun k => match k with
  | 0 => ("FaultHeaps$ToldRow", "frames", "[I", true)
  | _ => ("FaultHeaps$ToldRow", "length", "I", false)
def tyX4 : Nat → FieldType := fun k => match k with
  | 0 => .array .int
  | _ => .int
abbrev wsX40 : List Cond := u_ws RX4 TX4 2
theorem nmX4 : ∀ a, a < 2 → ∀ b, b < 2 → a ≠ b → (TX4 a).2.1 ≠ (TX4 b).2.1 := by decide +kernel
theorem tyX4_ok : ∀ k, k < 2 → parseFieldDescriptor (TX4 k).2.2.1 = some (tyX4 k) := by decide +kernel
abbrev cX4_init : ByteArray := prog_6_method_1_code
def yX4_init : MethodName := ⟨RX4, "<init>", "()V"⟩
abbrev cX4_put : ByteArray := prog_6_method_2_code
def yX4_put : MethodName := ⟨RX4, "put", "(I)I"⟩
abbrev cX4_isEmpty : ByteArray := prog_6_method_3_code
def yX4_isEmpty : MethodName := ⟨RX4, "isEmpty", "()Z"⟩
abbrev cX4_howMany : ByteArray := prog_6_method_4_code
def yX4_howMany : MethodName := ⟨RX4, "howMany", "()I"⟩
abbrev cX4_at : ByteArray := prog_6_method_5_code
def yX4_at : MethodName := ⟨RX4, "at", "(I)I"⟩
abbrev cX4_clear : ByteArray := prog_6_method_6_code
def yX4_clear : MethodName := ⟨RX4, "clear", "()V"⟩
abbrev cX4_fold : ByteArray := prog_6_method_7_code
def yX4_fold : MethodName := ⟨RX4, "fold", "()V"⟩
abbrev cX4_foldOnce : ByteArray := prog_6_method_8_code
def yX4_foldOnce : MethodName := ⟨RX4, "foldOnce", "()Z"⟩
abbrev cX4_standsTwice : ByteArray := prog_6_method_9_code
def yX4_standsTwice : MethodName := ⟨RX4, "standsTwice", "(II)Z"⟩
abbrev cX4_cut : ByteArray := prog_6_method_10_code
def yX4_cut : MethodName := ⟨RX4, "cut", "(II)V"⟩
def RX5 : String := "FaultHeaps$Versions"
def TX5 : u_T := fun k => match k with
  | 0 => ("FaultHeaps$Versions", "lines", "[I", true)
  | _ => ("FaultHeaps$Versions", "number", "I", false)
def tyX5 : Nat → FieldType := fun k => match k with
  | 0 => .array .int
  | _ => .int
abbrev wsX50 : List Cond := u_ws RX5 TX5 2
theorem nmX5 : ∀ a, a < 2 → ∀ b, b < 2 → a ≠ b → (TX5 a).2.1 ≠ (TX5 b).2.1 := by decide +kernel
theorem tyX5_ok : ∀ k, k < 2 → parseFieldDescriptor (TX5 k).2.2.1 = some (tyX5 k) := by decide +kernel
abbrev cX5_init : ByteArray := prog_7_method_1_code
def yX5_init : MethodName := ⟨RX5, "<init>", "()V"⟩
abbrev cX5_has : ByteArray := prog_7_method_2_code
def yX5_has : MethodName := ⟨RX5, "has", "(I)Z"⟩
abbrev cX5_howMany : ByteArray := prog_7_method_3_code
def yX5_howMany : MethodName := ⟨RX5, "howMany", "()I"⟩
abbrev cX5_make : ByteArray := prog_7_method_4_code
def yX5_make : MethodName := ⟨RX5, "make", "(I)I"⟩
abbrev cX5_isOrIsBehind : ByteArray := prog_7_method_5_code
def yX5_isOrIsBehind : MethodName := ⟨RX5, "isOrIsBehind", "(II)Z"⟩
def RX6 : String := "FaultHeaps"
def TX6 : u_T := fun k => match k with
  | 0 => ("FaultHeaps", "told", "LFaultHeaps$ToldRow;", true)
  | 1 => ("FaultHeaps", "versions", "LFaultHeaps$Versions;", true)
  | 2 => ("FaultHeaps", "reports", "LFaultHeaps$Reports;", true)
  | 3 => ("FaultHeaps", "distances", "LFaultHeaps$Distances;", true)
  | 4 => ("FaultHeaps", "heaps", "LFaultHeaps$Heaps;", true)
  | _ => ("FaultHeaps", "marks", "LFaultHeaps$Marks;", true)
def tyX6 : Nat → FieldType := fun k => match k with
  | 0 => .object "FaultHeaps$ToldRow"
  | 1 => .object "FaultHeaps$Versions"
  | 2 => .object "FaultHeaps$Reports"
  | 3 => .object "FaultHeaps$Distances"
  | 4 => .object "FaultHeaps$Heaps"
  | _ => .object "FaultHeaps$Marks"
abbrev wsX60 : List Cond := u_ws RX6 TX6 6
theorem nmX6 : ∀ a, a < 6 → ∀ b, b < 6 → a ≠ b → (TX6 a).2.1 ≠ (TX6 b).2.1 := by decide +kernel
theorem tyX6_ok : ∀ k, k < 6 → parseFieldDescriptor (TX6 k).2.2.1 = some (tyX6 k) := by decide +kernel
abbrev cX6_init : ByteArray := prog_1_method_1_code
def yX6_init : MethodName := ⟨RX6, "<init>", "()V"⟩
abbrev cX6_frame : ByteArray := prog_1_method_2_code
def yX6_frame : MethodName := ⟨RX6, "frame", "(I)I"⟩
abbrev cX6_version : ByteArray := prog_1_method_3_code
def yX6_version : MethodName := ⟨RX6, "version", "(I)I"⟩
abbrev cX6_report : ByteArray := prog_1_method_4_code
def yX6_report : MethodName := ⟨RX6, "report", "(I)I"⟩
abbrev cX6_pair : ByteArray := prog_1_method_5_code
def yX6_pair : MethodName := ⟨RX6, "pair", "(IIZ)Z"⟩
abbrev cX6_free : ByteArray := prog_1_method_6_code
def yX6_free : MethodName := ⟨RX6, "free", "(II)Z"⟩
abbrev cX6_mark : ByteArray := prog_1_method_7_code
def yX6_mark : MethodName := ⟨RX6, "mark", "(I)Z"⟩
abbrev cX6_resettle : ByteArray := prog_1_method_8_code
def yX6_resettle : MethodName := ⟨RX6, "resettle", "()I"⟩
abbrev cX6_distance : ByteArray := prog_1_method_9_code
def yX6_distance : MethodName := ⟨RX6, "distance", "(II)I"⟩
abbrev cX6_heap : ByteArray := prog_1_method_10_code
def yX6_heap : MethodName := ⟨RX6, "heap", "(I)I"⟩
abbrev cX6_cost : ByteArray := prog_1_method_11_code
def yX6_cost : MethodName := ⟨RX6, "cost", "(II)I"⟩
abbrev cX6_row : ByteArray := prog_1_method_12_code
def yX6_row : MethodName := ⟨RX6, "row", "(II)I"⟩
abbrev cX6_common : ByteArray := prog_1_method_13_code
def yX6_common : MethodName := ⟨RX6, "common", "(I)I"⟩
abbrev cX6_sign : ByteArray := prog_1_method_14_code
def yX6_sign : MethodName := ⟨RX6, "sign", "(I)I"⟩
abbrev cX6_signed : ByteArray := prog_1_method_15_code
def yX6_signed : MethodName := ⟨RX6, "signed", "(I)I"⟩
abbrev cX6_fix : ByteArray := prog_1_method_16_code
def yX6_fix : MethodName := ⟨RX6, "fix", "(II)Z"⟩
abbrev cX6_look : ByteArray := prog_1_method_17_code
def yX6_look : MethodName := ⟨RX6, "look", "(II)I"⟩
abbrev cX6_behind : ByteArray := prog_1_method_18_code
def yX6_behind : MethodName := ⟨RX6, "behind", "(II)I"⟩
abbrev cX6_count : ByteArray := prog_1_method_19_code
def yX6_count : MethodName := ⟨RX6, "count", "(I)I"⟩
abbrev cX6_cameBack : ByteArray := prog_1_method_20_code
def yX6_cameBack : MethodName := ⟨RX6, "cameBack", "(I)Z"⟩
abbrev cX6_howManyCameBack : ByteArray := prog_1_method_21_code
def yX6_howManyCameBack : MethodName := ⟨RX6, "howManyCameBack", "()I"⟩
def RX7 : String := "FaultHeapsModel"
def TX7 : u_T := fun k => match k with
  | 0 => ("FaultHeapsModel", "thrown", "I", false)
  | 1 => ("FaultHeapsModel", "versions", "I", false)
  | 2 => ("FaultHeapsModel", "madeFrom", "[I", true)
  | 3 => ("FaultHeapsModel", "told", "I", false)
  | 4 => ("FaultHeapsModel", "draft", "[I", true)
  | 5 => ("FaultHeapsModel", "reports", "I", false)
  | 6 => ("FaultHeapsModel", "rows", "[I", true)
  | 7 => ("FaultHeapsModel", "sizes", "[I", true)
  | 8 => ("FaultHeapsModel", "versionOf", "[I", true)
  | 9 => ("FaultHeapsModel", "fixedAt", "[I", true)
  | 10 => ("FaultHeapsModel", "heapOf", "[I", true)
  | 11 => ("FaultHeapsModel", "one", "[I", true)
  | 12 => ("FaultHeapsModel", "two", "[I", true)
  | 13 => ("FaultHeapsModel", "oneMany", "I", false)
  | 14 => ("FaultHeapsModel", "twoMany", "I", false)
  | 15 => ("FaultHeapsModel", "cost", "[I", true)
  | 16 => ("FaultHeapsModel", "distance", "[I", true)
  | 17 => ("FaultHeapsModel", "common", "[Z", true)
  | 18 => ("FaultHeapsModel", "mark", "I", false)
  | 19 => ("FaultHeapsModel", "must", "[I", true)
  | 20 => ("FaultHeapsModel", "changes", "I", false)
  | 21 => ("FaultHeapsModel", "newName", "[I", true)
  | 22 => ("FaultHeapsModel", "bestBy", "I", false)
  | 23 => ("FaultHeapsModel", "bestWho", "I", false)
  | 24 => ("FaultHeapsModel", "bestTo", "I", false)
  | 25 => ("FaultHeapsModel", "bestMelts", "Z", false)
  | 26 => ("FaultHeapsModel", "signs", "I", false)
  | 27 => ("FaultHeapsModel", "sign", "[I", true)
  | 28 => ("FaultHeapsModel", "draftSign", "[I", true)
  | 29 => ("FaultHeapsModel", "shared", "I", false)
  | _ => ("FaultHeapsModel", "share", "[I", true)
def tyX7 : Nat → FieldType := fun k => match k with
  | 0 => .int
  | 1 => .int
  | 2 => .array .int
  | 3 => .int
  | 4 => .array .int
  | 5 => .int
  | 6 => .array .int
  | 7 => .array .int
  | 8 => .array .int
  | 9 => .array .int
  | 10 => .array .int
  | 11 => .array .int
  | 12 => .array .int
  | 13 => .int
  | 14 => .int
  | 15 => .array .int
  | 16 => .array .int
  | 17 => .array .boolean
  | 18 => .int
  | 19 => .array .int
  | 20 => .int
  | 21 => .array .int
  | 22 => .int
  | 23 => .int
  | 24 => .int
  | 25 => .boolean
  | 26 => .int
  | 27 => .array .int
  | 28 => .array .int
  | 29 => .int
  | _ => .array .int
abbrev wsX70 : List Cond := u_ws RX7 TX7 31
theorem nmX7 : ∀ a, a < 31 → ∀ b, b < 31 → a ≠ b → (TX7 a).2.1 ≠ (TX7 b).2.1 := by decide +kernel
theorem tyX7_ok : ∀ k, k < 31 → parseFieldDescriptor (TX7 k).2.2.1 = some (tyX7 k) := by decide +kernel
abbrev cX7_thrown : ByteArray := prog_9_method_1_code
def yX7_thrown : MethodName := ⟨RX7, "thrown", "()I"⟩
abbrev cX7_init : ByteArray := prog_9_method_2_code
def yX7_init : MethodName := ⟨RX7, "<init>", "()V"⟩
abbrev cX7_isVersion : ByteArray := prog_9_method_3_code
def yX7_isVersion : MethodName := ⟨RX7, "isVersion", "(I)Z"⟩
abbrev cX7_version : ByteArray := prog_9_method_4_code
def yX7_version : MethodName := ⟨RX7, "version", "(I)I"⟩
abbrev cX7_isBehind : ByteArray := prog_9_method_5_code
def yX7_isBehind : MethodName := ⟨RX7, "isBehind", "(II)Z"⟩
abbrev cX7_behind : ByteArray := prog_9_method_6_code
def yX7_behind : MethodName := ⟨RX7, "behind", "(II)I"⟩
abbrev cX7_frame : ByteArray := prog_9_method_7_code
def yX7_frame : MethodName := ⟨RX7, "frame", "(I)I"⟩
abbrev cX7_isTwice : ByteArray := prog_9_method_8_code
def yX7_isTwice : MethodName := ⟨RX7, "isTwice", "(II)Z"⟩
abbrev cX7_folds : ByteArray := prog_9_method_9_code
def yX7_folds : MethodName := ⟨RX7, "folds", "()Z"⟩
abbrev cX7_report : ByteArray := prog_9_method_10_code
def yX7_report : MethodName := ⟨RX7, "report", "(I)I"⟩
abbrev cX7_isReport : ByteArray := prog_9_method_11_code
def yX7_isReport : MethodName := ⟨RX7, "isReport", "(I)Z"⟩
abbrev cX7_stands : ByteArray := prog_9_method_12_code
def yX7_stands : MethodName := ⟨RX7, "stands", "(II)Z"⟩
abbrev cX7_isCommon : ByteArray := prog_9_method_13_code
def yX7_isCommon : MethodName := ⟨RX7, "isCommon", "(I)Z"⟩
abbrev cX7_findCommon : ByteArray := prog_9_method_14_code
def yX7_findCommon : MethodName := ⟨RX7, "findCommon", "()V"⟩
abbrev cX7_withoutCommon : ByteArray := prog_9_method_15_code
def yX7_withoutCommon : MethodName := ⟨RX7, "withoutCommon", "(I[I)I"⟩
abbrev cX7_alone : ByteArray := prog_9_method_16_code
def yX7_alone : MethodName := ⟨RX7, "alone", "(I)I"⟩
abbrev cX7_change : ByteArray := prog_9_method_17_code
def yX7_change : MethodName := ⟨RX7, "change", "(II)I"⟩
abbrev cX7_turns : ByteArray := prog_9_method_18_code
def yX7_turns : MethodName := ⟨RX7, "turns", "(II)I"⟩
abbrev cX7_least : ByteArray := prog_9_method_19_code
def yX7_least : MethodName := ⟨RX7, "least", "(II)I"⟩
abbrev cX7_findDistances : ByteArray := prog_9_method_20_code
def yX7_findDistances : MethodName := ⟨RX7, "findDistances", "()V"⟩
abbrev cX7_pairCost : ByteArray := prog_9_method_21_code
def yX7_pairCost : MethodName := ⟨RX7, "pairCost", "(IIZ)I"⟩
abbrev cX7_gain : ByteArray := prog_9_method_22_code
def yX7_gain : MethodName := ⟨RX7, "gain", "(II)I"⟩
abbrev cX7_moved : ByteArray := prog_9_method_23_code
def yX7_moved : MethodName := ⟨RX7, "moved", "(II)I"⟩
abbrev cX7_melted : ByteArray := prog_9_method_24_code
def yX7_melted : MethodName := ⟨RX7, "melted", "(II)I"⟩
abbrev cX7_inHeap : ByteArray := prog_9_method_25_code
def yX7_inHeap : MethodName := ⟨RX7, "inHeap", "(I)I"⟩
abbrev cX7_names : ByteArray := prog_9_method_26_code
def yX7_names : MethodName := ⟨RX7, "names", "()V"⟩
abbrev cX7_asks : ByteArray := prog_9_method_27_code
def yX7_asks : MethodName := ⟨RX7, "asks", "(IIIZ)V"⟩
abbrev cX7_findBest : ByteArray := prog_9_method_28_code
def yX7_findBest : MethodName := ⟨RX7, "findBest", "()V"⟩
abbrev cX7_settles : ByteArray := prog_9_method_29_code
def yX7_settles : MethodName := ⟨RX7, "settles", "()V"⟩
abbrev cX7_resettle : ByteArray := prog_9_method_30_code
def yX7_resettle : MethodName := ⟨RX7, "resettle", "()I"⟩
abbrev cX7_heaps : ByteArray := prog_9_method_31_code
def yX7_heaps : MethodName := ⟨RX7, "heaps", "()I"⟩
abbrev cX7_areTwo : ByteArray := prog_9_method_32_code
def yX7_areTwo : MethodName := ⟨RX7, "areTwo", "(II)Z"⟩
abbrev cX7_tells : ByteArray := prog_9_method_33_code
def yX7_tells : MethodName := ⟨RX7, "tells", "(III)V"⟩
abbrev cX7_pair : ByteArray := prog_9_method_34_code
def yX7_pair : MethodName := ⟨RX7, "pair", "(IIZ)Z"⟩
abbrev cX7_free : ByteArray := prog_9_method_35_code
def yX7_free : MethodName := ⟨RX7, "free", "(II)Z"⟩
abbrev cX7_mark : ByteArray := prog_9_method_36_code
def yX7_mark : MethodName := ⟨RX7, "mark", "(I)Z"⟩
abbrev cX7_distance : ByteArray := prog_9_method_37_code
def yX7_distance : MethodName := ⟨RX7, "distance", "(II)I"⟩
abbrev cX7_heap : ByteArray := prog_9_method_38_code
def yX7_heap : MethodName := ⟨RX7, "heap", "(I)I"⟩
abbrev cX7_cost : ByteArray := prog_9_method_39_code
def yX7_cost : MethodName := ⟨RX7, "cost", "(II)I"⟩
abbrev cX7_row : ByteArray := prog_9_method_40_code
def yX7_row : MethodName := ⟨RX7, "row", "(II)I"⟩
abbrev cX7_common : ByteArray := prog_9_method_41_code
def yX7_common : MethodName := ⟨RX7, "common", "(I)I"⟩
abbrev cX7_findShared : ByteArray := prog_9_method_42_code
def yX7_findShared : MethodName := ⟨RX7, "findShared", "(I)V"⟩
abbrev cX7_isMark : ByteArray := prog_9_method_43_code
def yX7_isMark : MethodName := ⟨RX7, "isMark", "(II)Z"⟩
abbrev cX7_seeks : ByteArray := prog_9_method_44_code
def yX7_seeks : MethodName := ⟨RX7, "seeks", "(IIII)Z"⟩
abbrev cX7_sign : ByteArray := prog_9_method_45_code
def yX7_sign : MethodName := ⟨RX7, "sign", "(I)I"⟩
abbrev cX7_signed : ByteArray := prog_9_method_46_code
def yX7_signed : MethodName := ⟨RX7, "signed", "(I)I"⟩
abbrev cX7_fix : ByteArray := prog_9_method_47_code
def yX7_fix : MethodName := ⟨RX7, "fix", "(II)Z"⟩
abbrev cX7_cameBack : ByteArray := prog_9_method_48_code
def yX7_cameBack : MethodName := ⟨RX7, "cameBack", "(I)Z"⟩
abbrev cX7_look : ByteArray := prog_9_method_49_code
def yX7_look : MethodName := ⟨RX7, "look", "(II)I"⟩
abbrev cX7_count : ByteArray := prog_9_method_50_code
def yX7_count : MethodName := ⟨RX7, "count", "(I)I"⟩
def RJ13 : String := "java/lang/Long"
def TJ13 : u_T := fun k => match k with
  | _ => ("", "", "", false)
def tyJ13 : Nat → FieldType := fun k => match k with
  | _ => .int
abbrev wsJ130 : List Cond := u_ws RJ13 TJ13 0
theorem nmJ13 : ∀ a, a < 0 → ∀ b, b < 0 → a ≠ b → (TJ13 a).2.1 ≠ (TJ13 b).2.1 := by decide +kernel
theorem tyJ13_ok : ∀ k, k < 0 → parseFieldDescriptor (TJ13 k).2.2.1 = some (tyJ13 k) := by decide +kernel
abbrev cJ13_bitCount_95d88 : ByteArray := prog_11_method_50_code
def yJ13_bitCount_95d88 : MethodName := ⟨RJ13, "bitCount", "(J)I"⟩
def RJ9 : String := "java/lang/Math"
def TJ9 : u_T := fun k => match k with
  | _ => ("", "", "", false)
def tyJ9 : Nat → FieldType := fun k => match k with
  | _ => .int
abbrev wsJ90 : List Cond := u_ws RJ9 TJ9 0
theorem nmJ9 : ∀ a, a < 0 → ∀ b, b < 0 → a ≠ b → (TJ9 a).2.1 ≠ (TJ9 b).2.1 := by decide +kernel
theorem tyJ9_ok : ∀ k, k < 0 → parseFieldDescriptor (TJ9 k).2.2.1 = some (tyJ9 k) := by decide +kernel
abbrev cJ9_max_7cf53 : ByteArray := prog_12_method_65_code
def yJ9_max_7cf53 : MethodName := ⟨RJ9, "max", "(II)I"⟩
abbrev cJ9_min_7cf53 : ByteArray := prog_12_method_69_code
def yJ9_min_7cf53 : MethodName := ⟨RJ9, "min", "(II)I"⟩
def RJ0 : String := "java/lang/String"
def TJ0 : u_T := fun k => match k with
  | _ => ("", "", "", false)
def tyJ0 : Nat → FieldType := fun k => match k with
  | _ => .int
abbrev wsJ00 : List Cond := u_ws RJ0 TJ0 0
theorem nmJ0 : ∀ a, a < 0 → ∀ b, b < 0 → a ≠ b → (TJ0 a).2.1 ≠ (TJ0 b).2.1 := by decide +kernel
theorem tyJ0_ok : ∀ k, k < 0 → parseFieldDescriptor (TJ0 k).2.2.1 = some (tyJ0 k) := by decide +kernel
def RJ7 : String := "java/util/Arrays"
def TJ7 : u_T := fun k => match k with
  | _ => ("", "", "", false)
def tyJ7 : Nat → FieldType := fun k => match k with
  | _ => .int
abbrev wsJ70 : List Cond := u_ws RJ7 TJ7 0
theorem nmJ7 : ∀ a, a < 0 → ∀ b, b < 0 → a ≠ b → (TJ7 a).2.1 ≠ (TJ7 b).2.1 := by decide +kernel
theorem tyJ7_ok : ∀ k, k < 0 → parseFieldDescriptor (TJ7 k).2.2.1 = some (tyJ7 k) := by decide +kernel
abbrev cJ7_fill_53178 : ByteArray := prog_16_method_103_code
def yJ7_fill_53178 : MethodName := ⟨RJ7, "fill", "([II)V"⟩
def RL : String := "FaultHeapsLaw"
abbrev cL_look : ByteArray := method_3_code
def yL_look : MethodName := ⟨RL, "look", "(LFaultHeaps;II[J)I"⟩
abbrev cL_law : ByteArray := code
def yL_law : MethodName := ⟨RL, "law", "([I)Z"⟩
def wsJ7_fill_53178 : List Cond := .code yJ7_fill_53178 cJ7_fill_53178 4 none :: ([])
def wsX0_init : List Cond := .code yX0_init cX0_init 1 none :: ([.methodLink RX0 3 objectInit, .instanceMethod objectInit, .code objectInit ⟨#[0xb1]⟩ 1 none, .classLink RX0 9 "[[I", .arrayClass .int, .fieldLink RX0 11 "FaultHeaps$Distances" "bare" "[[I", .fieldLink RX0 16 "FaultHeaps$Distances" "bareLengths" "[I", .arrayClass .boolean, .fieldLink RX0 20 "FaultHeaps$Distances" "isOther" "[Z", .fieldLink RX0 24 "FaultHeaps$Distances" "known" "[[I", .fieldLink RX0 27 "FaultHeaps$Distances" "least" "[[I", .methodLink RX0 30 yJ7_fill_53178, .static yJ7_fill_53178, .initialized RJ7, .code yJ7_fill_53178 cJ7_fill_53178 4 none] ++ wsX00)
def wsX0_between : List Cond := .code yX0_between cX0_between 3 (some .int) :: ([.fieldLink RX0 24 "FaultHeaps$Distances" "known" "[[I"] ++ wsX00)
def wsX3_howMany : List Cond := .code yX3_howMany cX3_howMany 1 (some .int) :: ([.fieldLink RX3 30 "FaultHeaps$Reports" "number" "I"] ++ wsX30)
def wsX3_lengthOf : List Cond := .code yX3_lengthOf cX3_lengthOf 2 (some .int) :: ([.fieldLink RX3 16 "FaultHeaps$Reports" "lengths" "[I"] ++ wsX30)
def wsX3_frameAt : List Cond := .code yX3_frameAt cX3_frameAt 3 (some .int) :: ([.fieldLink RX3 11 "FaultHeaps$Reports" "rows" "[[I"] ++ wsX30)
def wsJ13_bitCount_95d88 : List Cond := .code yJ13_bitCount_95d88 cJ13_bitCount_95d88 2 (some .int) :: ([.constantLong RJ13 314 (6148914691236517205), .constantLong RJ13 316 (3689348814741910323), .constantLong RJ13 318 (1085102592571150095)])
def wsX3_isCommon : List Cond := .code yX3_isCommon cX3_isCommon 2 (some .boolean) :: ([.fieldLink RX3 30 "FaultHeaps$Reports" "number" "I", .fieldLink RX3 26 "FaultHeaps$Reports" "holders" "[J", .methodLink RX3 48 yJ13_bitCount_95d88, .static yJ13_bitCount_95d88, .initialized RJ13, .code yJ13_bitCount_95d88 cJ13_bitCount_95d88 2 (some .int), .constantLong RJ13 314 (6148914691236517205), .constantLong RJ13 316 (3689348814741910323), .constantLong RJ13 318 (1085102592571150095)] ++ wsX30)
def wsX0_strip_r1 : List Cond := [Cond.fieldLink RX0 11 "FaultHeaps$Distances" "bare" "[[I", Cond.fieldLink RX0 16 "FaultHeaps$Distances" "bareLengths" "[I", Cond.methodLink RX0 50 yX3_lengthOf, Cond.instanceMethod yX3_lengthOf, Cond.selects RX3 yX3_lengthOf yX3_lengthOf, Cond.initialized RX3, Cond.code yX3_lengthOf cX3_lengthOf 2 (some .int), Cond.fieldLink RX3 16 "FaultHeaps$Reports" "lengths" "[I", Cond.methodLink RX0 54 yX3_frameAt, Cond.instanceMethod yX3_frameAt, Cond.selects RX3 yX3_frameAt yX3_frameAt, Cond.code yX3_frameAt cX3_frameAt 3 (some .int), Cond.fieldLink RX3 11 "FaultHeaps$Reports" "rows" "[[I", Cond.methodLink RX0 57 yX3_isCommon, Cond.instanceMethod yX3_isCommon, Cond.selects RX3 yX3_isCommon yX3_isCommon, Cond.code yX3_isCommon cX3_isCommon 2 (some .boolean), Cond.fieldLink RX3 30 "FaultHeaps$Reports" "number" "I", Cond.fieldLink RX3 26 "FaultHeaps$Reports" "holders" "[J", Cond.methodLink RX3 48 yJ13_bitCount_95d88, Cond.static yJ13_bitCount_95d88, Cond.initialized RJ13, Cond.code yJ13_bitCount_95d88 cJ13_bitCount_95d88 2 (some .int), Cond.constantLong RJ13 314 (6148914691236517205)]
def wsX0_strip_r2 : List Cond := [Cond.constantLong RJ13 316 (3689348814741910323), Cond.constantLong RJ13 318 (1085102592571150095)]
def wsX0_strip : List Cond := .code yX0_strip cX0_strip 8 (some .boolean) :: ((wsX0_strip_r1 ++ wsX0_strip_r2) ++ wsX00 ++ wsX30)
def wsX0_costOfOne : List Cond := .code yX0_costOfOne cX0_costOfOne 1 (some .int) :: ([])
def wsX0_costOfChange : List Cond := .code yX0_costOfChange cX0_costOfChange 2 (some .int) :: ([])
def wsX0_measure : List Cond := .code yX0_measure cX0_measure 12 (some .int) :: ([.fieldLink RX0 11 "FaultHeaps$Distances" "bare" "[[I", .fieldLink RX0 27 "FaultHeaps$Distances" "least" "[[I", .fieldLink RX0 16 "FaultHeaps$Distances" "bareLengths" "[I", .methodLink RX0 67 Lib.Math.min.name, .static Lib.Math.min.name, .initialized "java/lang/Math", .code Lib.Math.min.name Lib.Math.min.code 2 (some .int), .methodLink RX0 61 yX0_costOfOne, .static yX0_costOfOne, .initialized RX0, .code yX0_costOfOne cX0_costOfOne 1 (some .int), .methodLink RX0 64 yX0_costOfChange, .static yX0_costOfChange, .code yX0_costOfChange cX0_costOfChange 2 (some .int)] ++ wsX00)
def wsX0_renew_r1 : List Cond := [Cond.fieldLink RX0 20 "FaultHeaps$Distances" "isOther" "[Z", Cond.fieldLink RX0 24 "FaultHeaps$Distances" "known" "[[I", Cond.methodLink RX0 36 yX3_howMany, Cond.instanceMethod yX3_howMany, Cond.selects RX3 yX3_howMany yX3_howMany, Cond.initialized RX3, Cond.code yX3_howMany cX3_howMany 1 (some .int), Cond.fieldLink RX3 30 "FaultHeaps$Reports" "number" "I", Cond.methodLink RX0 42 yX0_strip, Cond.instanceMethod yX0_strip, Cond.selects RX0 yX0_strip yX0_strip, Cond.initialized RX0, Cond.code yX0_strip cX0_strip 8 (some .boolean), Cond.fieldLink RX0 11 "FaultHeaps$Distances" "bare" "[[I", Cond.fieldLink RX0 16 "FaultHeaps$Distances" "bareLengths" "[I", Cond.methodLink RX0 50 yX3_lengthOf, Cond.instanceMethod yX3_lengthOf, Cond.selects RX3 yX3_lengthOf yX3_lengthOf, Cond.code yX3_lengthOf cX3_lengthOf 2 (some .int), Cond.fieldLink RX3 16 "FaultHeaps$Reports" "lengths" "[I", Cond.methodLink RX0 54 yX3_frameAt, Cond.instanceMethod yX3_frameAt, Cond.selects RX3 yX3_frameAt yX3_frameAt, Cond.code yX3_frameAt cX3_frameAt 3 (some .int)]
def wsX0_renew_r2 : List Cond := [Cond.fieldLink RX3 11 "FaultHeaps$Reports" "rows" "[[I", Cond.methodLink RX0 57 yX3_isCommon, Cond.instanceMethod yX3_isCommon, Cond.selects RX3 yX3_isCommon yX3_isCommon, Cond.code yX3_isCommon cX3_isCommon 2 (some .boolean), Cond.fieldLink RX3 26 "FaultHeaps$Reports" "holders" "[J", Cond.methodLink RX3 48 yJ13_bitCount_95d88, Cond.static yJ13_bitCount_95d88, Cond.initialized RJ13, Cond.code yJ13_bitCount_95d88 cJ13_bitCount_95d88 2 (some .int), Cond.constantLong RJ13 314 (6148914691236517205), Cond.constantLong RJ13 316 (3689348814741910323), Cond.constantLong RJ13 318 (1085102592571150095), Cond.methodLink RX0 46 yX0_measure, Cond.instanceMethod yX0_measure, Cond.selects RX0 yX0_measure yX0_measure, Cond.code yX0_measure cX0_measure 12 (some .int), Cond.fieldLink RX0 27 "FaultHeaps$Distances" "least" "[[I", Cond.methodLink RX0 67 Lib.Math.min.name, Cond.static Lib.Math.min.name, Cond.initialized "java/lang/Math", Cond.code Lib.Math.min.name Lib.Math.min.code 2 (some .int), Cond.methodLink RX0 61 yX0_costOfOne, Cond.static yX0_costOfOne]
def wsX0_renew_r3 : List Cond := [Cond.code yX0_costOfOne cX0_costOfOne 1 (some .int), Cond.methodLink RX0 64 yX0_costOfChange, Cond.static yX0_costOfChange, Cond.code yX0_costOfChange cX0_costOfChange 2 (some .int)]
def wsX0_renew : List Cond := .code yX0_renew cX0_renew 6 none :: ((wsX0_renew_r1 ++ (wsX0_renew_r2 ++ wsX0_renew_r3)) ++ wsX00 ++ wsX30)
def wsX1_init : List Cond := .code yX1_init cX1_init 1 none :: ([.methodLink RX1 3 objectInit, .instanceMethod objectInit, .code objectInit ⟨#[0xb1]⟩ 1 none, .classLink RX1 9 "[[I", .arrayClass .int, .fieldLink RX1 11 "FaultHeaps$Heaps" "wishes" "[[I", .fieldLink RX1 16 "FaultHeaps$Heaps" "heapOf" "[I", .fieldLink RX1 20 "FaultHeaps$Heaps" "leastIn" "[I", .fieldLink RX1 23 "FaultHeaps$Heaps" "sizes" "[I", .fieldLink RX1 26 "FaultHeaps$Heaps" "newNumbers" "[I", .fieldLink RX1 29 "FaultHeaps$Heaps" "joining" "[[I", .fieldLink RX1 32 "FaultHeaps$Heaps" "melting" "[[I", .fieldLink RX1 35 "FaultHeaps$Heaps" "reportsNumber" "I", .fieldLink RX1 39 "FaultHeaps$Heaps" "heapsNumber" "I", .fieldLink RX1 42 "FaultHeaps$Heaps" "limit" "I", .fieldLink RX1 45 "FaultHeaps$Heaps" "changes" "I", .fieldLink RX1 48 "FaultHeaps$Heaps" "bestAdded" "I", .fieldLink RX1 51 "FaultHeaps$Heaps" "bestReport" "I", .fieldLink RX1 54 "FaultHeaps$Heaps" "bestMelted" "I", .fieldLink RX1 57 "FaultHeaps$Heaps" "bestInto" "I"] ++ wsX10)
def wsX1_howMany : List Cond := .code yX1_howMany cX1_howMany 1 (some .int) :: ([.fieldLink RX1 39 "FaultHeaps$Heaps" "heapsNumber" "I"] ++ wsX10)
def wsX1_getT : List Cond := .code yX1_getT cX1_getT 1 (some .int) :: ([.fieldLink RX1 42 "FaultHeaps$Heaps" "limit" "I"] ++ wsX10)
def wsX1_changesDone : List Cond := .code yX1_changesDone cX1_changesDone 1 (some .int) :: ([.fieldLink RX1 45 "FaultHeaps$Heaps" "changes" "I"] ++ wsX10)
def wsX1_setT : List Cond := .code yX1_setT cX1_setT 2 (some .boolean) :: ([.fieldLink RX1 42 "FaultHeaps$Heaps" "limit" "I"] ++ wsX10)
def wsX1_hasWish : List Cond := .code yX1_hasWish cX1_hasWish 3 (some .boolean) :: ([.fieldLink RX1 11 "FaultHeaps$Heaps" "wishes" "[[I"] ++ wsX10)
def wsX1_wish : List Cond := .code yX1_wish cX1_wish 4 none :: ([.fieldLink RX1 11 "FaultHeaps$Heaps" "wishes" "[[I"] ++ wsX10)
def wsX1_areTogether : List Cond := .code yX1_areTogether cX1_areTogether 3 (some .boolean) :: ([.fieldLink RX1 16 "FaultHeaps$Heaps" "heapOf" "[I"] ++ wsX10)
def wsX1_leastBeside : List Cond := .code yX1_leastBeside cX1_leastBeside 2 (some .int) :: ([.fieldLink RX1 20 "FaultHeaps$Heaps" "leastIn" "[I", .fieldLink RX1 16 "FaultHeaps$Heaps" "heapOf" "[I"] ++ wsX10)
def wsX1_sizeBeside : List Cond := .code yX1_sizeBeside cX1_sizeBeside 2 (some .int) :: ([.fieldLink RX1 23 "FaultHeaps$Heaps" "sizes" "[I", .fieldLink RX1 16 "FaultHeaps$Heaps" "heapOf" "[I"] ++ wsX10)
def wsX1_setBeside : List Cond := .code yX1_setBeside cX1_setBeside 5 (some .long) :: ([.fieldLink RX1 35 "FaultHeaps$Heaps" "reportsNumber" "I", .methodLink RX1 60 yX1_areTogether, .instanceMethod yX1_areTogether, .selects RX1 yX1_areTogether yX1_areTogether, .initialized RX1, .code yX1_areTogether cX1_areTogether 3 (some .boolean), .fieldLink RX1 16 "FaultHeaps$Heaps" "heapOf" "[I"] ++ wsX10)
def wsX1_costOfPair : List Cond := .code yX1_costOfPair cX1_costOfPair 6 (some .int) :: ([.fieldLink RX1 42 "FaultHeaps$Heaps" "limit" "I", .fieldLink RX1 11 "FaultHeaps$Heaps" "wishes" "[[I", .methodLink RX1 70 Lib.Math.max.name, .static Lib.Math.max.name, .initialized "java/lang/Math", .code Lib.Math.max.name Lib.Math.max.code 2 (some .int), .methodLink RX1 64 yX0_between, .instanceMethod yX0_between, .selects RX0 yX0_between yX0_between, .initialized RX0, .code yX0_between cX0_between 3 (some .int), .fieldLink RX0 24 "FaultHeaps$Distances" "known" "[[I", .methodLink RX1 60 yX1_areTogether, .instanceMethod yX1_areTogether, .selects RX1 yX1_areTogether yX1_areTogether, .initialized RX1, .code yX1_areTogether cX1_areTogether 3 (some .boolean), .fieldLink RX1 16 "FaultHeaps$Heaps" "heapOf" "[I"] ++ wsX10 ++ wsX00)
def wsX1_costOfAll : List Cond := .code yX1_costOfAll cX1_costOfAll 5 (some .int) :: ([.fieldLink RX1 35 "FaultHeaps$Heaps" "reportsNumber" "I", .methodLink RX1 75 yX1_costOfPair, .instanceMethod yX1_costOfPair, .selects RX1 yX1_costOfPair yX1_costOfPair, .initialized RX1, .code yX1_costOfPair cX1_costOfPair 6 (some .int), .fieldLink RX1 42 "FaultHeaps$Heaps" "limit" "I", .fieldLink RX1 11 "FaultHeaps$Heaps" "wishes" "[[I", .methodLink RX1 70 Lib.Math.max.name, .static Lib.Math.max.name, .initialized "java/lang/Math", .code Lib.Math.max.name Lib.Math.max.code 2 (some .int), .methodLink RX1 64 yX0_between, .instanceMethod yX0_between, .selects RX0 yX0_between yX0_between, .initialized RX0, .code yX0_between cX0_between 3 (some .int), .fieldLink RX0 24 "FaultHeaps$Distances" "known" "[[I", .methodLink RX1 60 yX1_areTogether, .instanceMethod yX1_areTogether, .selects RX1 yX1_areTogether yX1_areTogether, .code yX1_areTogether cX1_areTogether 3 (some .boolean), .fieldLink RX1 16 "FaultHeaps$Heaps" "heapOf" "[I"] ++ wsX10 ++ wsX00)
def wsX1_numberAnew : List Cond := .code yX1_numberAnew cX1_numberAnew 3 none :: ([.fieldLink RX1 26 "FaultHeaps$Heaps" "newNumbers" "[I", .fieldLink RX1 39 "FaultHeaps$Heaps" "heapsNumber" "I", .fieldLink RX1 35 "FaultHeaps$Heaps" "reportsNumber" "I", .fieldLink RX1 16 "FaultHeaps$Heaps" "heapOf" "[I", .fieldLink RX1 20 "FaultHeaps$Heaps" "leastIn" "[I", .fieldLink RX1 23 "FaultHeaps$Heaps" "sizes" "[I", .methodLink RX1 96 yJ7_fill_53178, .static yJ7_fill_53178, .initialized RJ7, .code yJ7_fill_53178 cJ7_fill_53178 4 none] ++ wsX10)
def wsX1_addAlone : List Cond := .code yX1_addAlone cX1_addAlone 1 none :: ([.fieldLink RX1 35 "FaultHeaps$Heaps" "reportsNumber" "I", .fieldLink RX1 16 "FaultHeaps$Heaps" "heapOf" "[I", .fieldLink RX1 39 "FaultHeaps$Heaps" "heapsNumber" "I", .methodLink RX1 79 yX1_numberAnew, .instanceMethod yX1_numberAnew, .selects RX1 yX1_numberAnew yX1_numberAnew, .initialized RX1, .code yX1_numberAnew cX1_numberAnew 3 none, .fieldLink RX1 26 "FaultHeaps$Heaps" "newNumbers" "[I", .fieldLink RX1 20 "FaultHeaps$Heaps" "leastIn" "[I", .fieldLink RX1 23 "FaultHeaps$Heaps" "sizes" "[I", .methodLink RX1 96 yJ7_fill_53178, .static yJ7_fill_53178, .initialized RJ7, .code yJ7_fill_53178 cJ7_fill_53178 4 none] ++ wsX10)
def wsX1_partAll : List Cond := .code yX1_partAll cX1_partAll 2 none :: ([.fieldLink RX1 35 "FaultHeaps$Heaps" "reportsNumber" "I", .fieldLink RX1 16 "FaultHeaps$Heaps" "heapOf" "[I", .methodLink RX1 79 yX1_numberAnew, .instanceMethod yX1_numberAnew, .selects RX1 yX1_numberAnew yX1_numberAnew, .initialized RX1, .code yX1_numberAnew cX1_numberAnew 3 none, .fieldLink RX1 26 "FaultHeaps$Heaps" "newNumbers" "[I", .fieldLink RX1 39 "FaultHeaps$Heaps" "heapsNumber" "I", .fieldLink RX1 20 "FaultHeaps$Heaps" "leastIn" "[I", .fieldLink RX1 23 "FaultHeaps$Heaps" "sizes" "[I", .methodLink RX1 96 yJ7_fill_53178, .static yJ7_fill_53178, .initialized RJ7, .code yJ7_fill_53178 cJ7_fill_53178 4 none] ++ wsX10)
def wsX1_weighJoining : List Cond := .code yX1_weighJoining cX1_weighJoining 4 none :: ([.fieldLink RX1 35 "FaultHeaps$Heaps" "reportsNumber" "I", .fieldLink RX1 29 "FaultHeaps$Heaps" "joining" "[[I", .fieldLink RX1 16 "FaultHeaps$Heaps" "heapOf" "[I", .fieldLink RX1 42 "FaultHeaps$Heaps" "limit" "I", .fieldLink RX1 11 "FaultHeaps$Heaps" "wishes" "[[I", .methodLink RX1 96 yJ7_fill_53178, .static yJ7_fill_53178, .initialized RJ7, .code yJ7_fill_53178 cJ7_fill_53178 4 none, .methodLink RX1 64 yX0_between, .instanceMethod yX0_between, .selects RX0 yX0_between yX0_between, .initialized RX0, .code yX0_between cX0_between 3 (some .int), .fieldLink RX0 24 "FaultHeaps$Distances" "known" "[[I"] ++ wsX10 ++ wsX00)
def wsX1_weighMelting : List Cond := .code yX1_weighMelting cX1_weighMelting 3 none :: ([.fieldLink RX1 39 "FaultHeaps$Heaps" "heapsNumber" "I", .fieldLink RX1 32 "FaultHeaps$Heaps" "melting" "[[I", .fieldLink RX1 35 "FaultHeaps$Heaps" "reportsNumber" "I", .fieldLink RX1 16 "FaultHeaps$Heaps" "heapOf" "[I", .fieldLink RX1 29 "FaultHeaps$Heaps" "joining" "[[I", .methodLink RX1 96 yJ7_fill_53178, .static yJ7_fill_53178, .initialized RJ7, .code yJ7_fill_53178 cJ7_fill_53178 4 none] ++ wsX10)
def wsX1_weighMove : List Cond := .code yX1_weighMove cX1_weighMove 4 none :: ([.fieldLink RX1 48 "FaultHeaps$Heaps" "bestAdded" "I", .fieldLink RX1 51 "FaultHeaps$Heaps" "bestReport" "I", .fieldLink RX1 57 "FaultHeaps$Heaps" "bestInto" "I"] ++ wsX10)
def wsX1_findBestMove : List Cond := .code yX1_findBestMove cX1_findBestMove 5 none :: ([.fieldLink RX1 16 "FaultHeaps$Heaps" "heapOf" "[I", .fieldLink RX1 29 "FaultHeaps$Heaps" "joining" "[[I", .fieldLink RX1 39 "FaultHeaps$Heaps" "heapsNumber" "I", .fieldLink RX1 23 "FaultHeaps$Heaps" "sizes" "[I", .methodLink RX1 106 yX1_weighMove, .instanceMethod yX1_weighMove, .selects RX1 yX1_weighMove yX1_weighMove, .initialized RX1, .code yX1_weighMove cX1_weighMove 4 none, .fieldLink RX1 48 "FaultHeaps$Heaps" "bestAdded" "I", .fieldLink RX1 51 "FaultHeaps$Heaps" "bestReport" "I", .fieldLink RX1 57 "FaultHeaps$Heaps" "bestInto" "I"] ++ wsX10)
def wsX1_findBest : List Cond := .code yX1_findBest cX1_findBest 3 none :: ([.fieldLink RX1 48 "FaultHeaps$Heaps" "bestAdded" "I", .fieldLink RX1 35 "FaultHeaps$Heaps" "reportsNumber" "I", .fieldLink RX1 39 "FaultHeaps$Heaps" "heapsNumber" "I", .fieldLink RX1 32 "FaultHeaps$Heaps" "melting" "[[I", .fieldLink RX1 51 "FaultHeaps$Heaps" "bestReport" "I", .fieldLink RX1 54 "FaultHeaps$Heaps" "bestMelted" "I", .fieldLink RX1 57 "FaultHeaps$Heaps" "bestInto" "I", .methodLink RX1 102 yX1_findBestMove, .instanceMethod yX1_findBestMove, .selects RX1 yX1_findBestMove yX1_findBestMove, .initialized RX1, .code yX1_findBestMove cX1_findBestMove 5 none, .fieldLink RX1 16 "FaultHeaps$Heaps" "heapOf" "[I", .fieldLink RX1 29 "FaultHeaps$Heaps" "joining" "[[I", .fieldLink RX1 23 "FaultHeaps$Heaps" "sizes" "[I", .methodLink RX1 106 yX1_weighMove, .instanceMethod yX1_weighMove, .selects RX1 yX1_weighMove yX1_weighMove, .code yX1_weighMove cX1_weighMove 4 none] ++ wsX10)
def wsX1_doBest : List Cond := .code yX1_doBest cX1_doBest 2 none :: ([.fieldLink RX1 51 "FaultHeaps$Heaps" "bestReport" "I", .fieldLink RX1 16 "FaultHeaps$Heaps" "heapOf" "[I", .fieldLink RX1 57 "FaultHeaps$Heaps" "bestInto" "I", .fieldLink RX1 35 "FaultHeaps$Heaps" "reportsNumber" "I", .fieldLink RX1 54 "FaultHeaps$Heaps" "bestMelted" "I", .methodLink RX1 79 yX1_numberAnew, .instanceMethod yX1_numberAnew, .selects RX1 yX1_numberAnew yX1_numberAnew, .initialized RX1, .code yX1_numberAnew cX1_numberAnew 3 none, .fieldLink RX1 26 "FaultHeaps$Heaps" "newNumbers" "[I", .fieldLink RX1 39 "FaultHeaps$Heaps" "heapsNumber" "I", .fieldLink RX1 20 "FaultHeaps$Heaps" "leastIn" "[I", .fieldLink RX1 23 "FaultHeaps$Heaps" "sizes" "[I", .methodLink RX1 96 yJ7_fill_53178, .static yJ7_fill_53178, .initialized RJ7, .code yJ7_fill_53178 cJ7_fill_53178 4 none] ++ wsX10)
def wsX1_settle_r1 : List Cond := [Cond.constant RX1 82 (1000000), Cond.fieldLink RX1 48 "FaultHeaps$Heaps" "bestAdded" "I", Cond.fieldLink RX1 45 "FaultHeaps$Heaps" "changes" "I", Cond.methodLink RX1 83 yX1_weighJoining, Cond.instanceMethod yX1_weighJoining, Cond.selects RX1 yX1_weighJoining yX1_weighJoining, Cond.initialized RX1, Cond.code yX1_weighJoining cX1_weighJoining 4 none, Cond.fieldLink RX1 35 "FaultHeaps$Heaps" "reportsNumber" "I", Cond.fieldLink RX1 29 "FaultHeaps$Heaps" "joining" "[[I", Cond.fieldLink RX1 16 "FaultHeaps$Heaps" "heapOf" "[I", Cond.fieldLink RX1 42 "FaultHeaps$Heaps" "limit" "I", Cond.fieldLink RX1 11 "FaultHeaps$Heaps" "wishes" "[[I", Cond.methodLink RX1 96 yJ7_fill_53178, Cond.static yJ7_fill_53178, Cond.initialized RJ7, Cond.code yJ7_fill_53178 cJ7_fill_53178 4 none, Cond.methodLink RX1 64 yX0_between, Cond.instanceMethod yX0_between, Cond.selects RX0 yX0_between yX0_between, Cond.initialized RX0, Cond.code yX0_between cX0_between 3 (some .int), Cond.fieldLink RX0 24 "FaultHeaps$Distances" "known" "[[I", Cond.methodLink RX1 87 yX1_weighMelting]
def wsX1_settle_r2 : List Cond := [Cond.instanceMethod yX1_weighMelting, Cond.selects RX1 yX1_weighMelting yX1_weighMelting, Cond.code yX1_weighMelting cX1_weighMelting 3 none, Cond.fieldLink RX1 39 "FaultHeaps$Heaps" "heapsNumber" "I", Cond.fieldLink RX1 32 "FaultHeaps$Heaps" "melting" "[[I", Cond.methodLink RX1 90 yX1_findBest, Cond.instanceMethod yX1_findBest, Cond.selects RX1 yX1_findBest yX1_findBest, Cond.code yX1_findBest cX1_findBest 3 none, Cond.fieldLink RX1 51 "FaultHeaps$Heaps" "bestReport" "I", Cond.fieldLink RX1 54 "FaultHeaps$Heaps" "bestMelted" "I", Cond.fieldLink RX1 57 "FaultHeaps$Heaps" "bestInto" "I", Cond.methodLink RX1 102 yX1_findBestMove, Cond.instanceMethod yX1_findBestMove, Cond.selects RX1 yX1_findBestMove yX1_findBestMove, Cond.code yX1_findBestMove cX1_findBestMove 5 none, Cond.fieldLink RX1 23 "FaultHeaps$Heaps" "sizes" "[I", Cond.methodLink RX1 106 yX1_weighMove, Cond.instanceMethod yX1_weighMove, Cond.selects RX1 yX1_weighMove yX1_weighMove, Cond.code yX1_weighMove cX1_weighMove 4 none, Cond.methodLink RX1 93 yX1_doBest, Cond.instanceMethod yX1_doBest, Cond.selects RX1 yX1_doBest yX1_doBest]
def wsX1_settle_r3 : List Cond := [Cond.code yX1_doBest cX1_doBest 2 none, Cond.methodLink RX1 79 yX1_numberAnew, Cond.instanceMethod yX1_numberAnew, Cond.selects RX1 yX1_numberAnew yX1_numberAnew, Cond.code yX1_numberAnew cX1_numberAnew 3 none, Cond.fieldLink RX1 26 "FaultHeaps$Heaps" "newNumbers" "[I", Cond.fieldLink RX1 20 "FaultHeaps$Heaps" "leastIn" "[I"]
def wsX1_settle : List Cond := .code yX1_settle cX1_settle 3 none :: ((wsX1_settle_r1 ++ (wsX1_settle_r2 ++ wsX1_settle_r3)) ++ wsX10 ++ wsX00)
def wsX2_init : List Cond := .code yX2_init cX2_init 1 none :: ([.methodLink RX2 3 objectInit, .instanceMethod objectInit, .code objectInit ⟨#[0xb1]⟩ 1 none, .arrayClass .int, .fieldLink RX2 9 "FaultHeaps$Marks" "shared" "[I", .arrayClass .long, .fieldLink RX2 15 "FaultHeaps$Marks" "holders" "[J", .fieldLink RX2 19 "FaultHeaps$Marks" "sharedNumber" "I", .fieldLink RX2 23 "FaultHeaps$Marks" "latest" "[I", .fieldLink RX2 26 "FaultHeaps$Marks" "latestLength" "I"] ++ wsX20)
def wsX2_latestAt : List Cond := .code yX2_latestAt cX2_latestAt 2 (some .int) :: ([.fieldLink RX2 26 "FaultHeaps$Marks" "latestLength" "I", .fieldLink RX2 23 "FaultHeaps$Marks" "latest" "[I"] ++ wsX20)
def wsX3_holdersOf : List Cond := .code yX3_holdersOf cX3_holdersOf 2 (some .long) :: ([.fieldLink RX3 26 "FaultHeaps$Reports" "holders" "[J"] ++ wsX30)
def wsX2_gatherShared : List Cond := .code yX2_gatherShared cX2_gatherShared 7 none :: ([.fieldLink RX2 19 "FaultHeaps$Marks" "sharedNumber" "I", .fieldLink RX2 9 "FaultHeaps$Marks" "shared" "[I", .fieldLink RX2 15 "FaultHeaps$Marks" "holders" "[J", .methodLink RX2 49 yX3_holdersOf, .instanceMethod yX3_holdersOf, .selects RX3 yX3_holdersOf yX3_holdersOf, .initialized RX3, .code yX3_holdersOf cX3_holdersOf 2 (some .long), .fieldLink RX3 26 "FaultHeaps$Reports" "holders" "[J"] ++ wsX20 ++ wsX30)
def wsX2_findOne : List Cond := .code yX2_findOne cX2_findOne 4 (some .boolean) :: ([.fieldLink RX2 19 "FaultHeaps$Marks" "sharedNumber" "I", .fieldLink RX2 15 "FaultHeaps$Marks" "holders" "[J", .fieldLink RX2 23 "FaultHeaps$Marks" "latest" "[I", .fieldLink RX2 9 "FaultHeaps$Marks" "shared" "[I", .fieldLink RX2 26 "FaultHeaps$Marks" "latestLength" "I"] ++ wsX20)
def wsX2_findTwo : List Cond := .code yX2_findTwo cX2_findTwo 5 (some .boolean) :: ([.fieldLink RX2 19 "FaultHeaps$Marks" "sharedNumber" "I", .fieldLink RX2 15 "FaultHeaps$Marks" "holders" "[J", .fieldLink RX2 23 "FaultHeaps$Marks" "latest" "[I", .fieldLink RX2 9 "FaultHeaps$Marks" "shared" "[I", .fieldLink RX2 26 "FaultHeaps$Marks" "latestLength" "I"] ++ wsX20)
def wsX2_findThree : List Cond := .code yX2_findThree cX2_findThree 6 (some .boolean) :: ([.fieldLink RX2 19 "FaultHeaps$Marks" "sharedNumber" "I", .fieldLink RX2 15 "FaultHeaps$Marks" "holders" "[J", .fieldLink RX2 23 "FaultHeaps$Marks" "latest" "[I", .fieldLink RX2 9 "FaultHeaps$Marks" "shared" "[I", .fieldLink RX2 26 "FaultHeaps$Marks" "latestLength" "I"] ++ wsX20)
def wsX2_tell_r1 : List Cond := [Cond.fieldLink RX2 26 "FaultHeaps$Marks" "latestLength" "I", Cond.methodLink RX2 29 yX3_howMany, Cond.instanceMethod yX3_howMany, Cond.selects RX3 yX3_howMany yX3_howMany, Cond.initialized RX3, Cond.code yX3_howMany cX3_howMany 1 (some .int), Cond.fieldLink RX3 30 "FaultHeaps$Reports" "number" "I", Cond.methodLink RX2 35 yX2_gatherShared, Cond.instanceMethod yX2_gatherShared, Cond.selects RX2 yX2_gatherShared yX2_gatherShared, Cond.initialized RX2, Cond.code yX2_gatherShared cX2_gatherShared 7 none, Cond.fieldLink RX2 19 "FaultHeaps$Marks" "sharedNumber" "I", Cond.fieldLink RX2 9 "FaultHeaps$Marks" "shared" "[I", Cond.fieldLink RX2 15 "FaultHeaps$Marks" "holders" "[J", Cond.methodLink RX2 49 yX3_holdersOf, Cond.instanceMethod yX3_holdersOf, Cond.selects RX3 yX3_holdersOf yX3_holdersOf, Cond.code yX3_holdersOf cX3_holdersOf 2 (some .long), Cond.fieldLink RX3 26 "FaultHeaps$Reports" "holders" "[J", Cond.methodLink RX2 39 yX2_findOne, Cond.instanceMethod yX2_findOne, Cond.selects RX2 yX2_findOne yX2_findOne, Cond.code yX2_findOne cX2_findOne 4 (some .boolean)]
def wsX2_tell_r2 : List Cond := [Cond.fieldLink RX2 23 "FaultHeaps$Marks" "latest" "[I", Cond.methodLink RX2 43 yX2_findTwo, Cond.instanceMethod yX2_findTwo, Cond.selects RX2 yX2_findTwo yX2_findTwo, Cond.code yX2_findTwo cX2_findTwo 5 (some .boolean), Cond.methodLink RX2 46 yX2_findThree, Cond.instanceMethod yX2_findThree, Cond.selects RX2 yX2_findThree yX2_findThree, Cond.code yX2_findThree cX2_findThree 6 (some .boolean)]
def wsX2_tell : List Cond := .code yX2_tell cX2_tell 6 (some .int) :: ((wsX2_tell_r1 ++ wsX2_tell_r2) ++ wsX20 ++ wsX30)
def wsX3_init : List Cond := .code yX3_init cX3_init 1 none :: ([.methodLink RX3 3 objectInit, .instanceMethod objectInit, .code objectInit ⟨#[0xb1]⟩ 1 none, .classLink RX3 9 "[[I", .arrayClass .int, .fieldLink RX3 11 "FaultHeaps$Reports" "rows" "[[I", .fieldLink RX3 16 "FaultHeaps$Reports" "lengths" "[I", .fieldLink RX3 20 "FaultHeaps$Reports" "madeIn" "[I", .fieldLink RX3 23 "FaultHeaps$Reports" "fixedIn" "[I", .arrayClass .long, .fieldLink RX3 26 "FaultHeaps$Reports" "holders" "[J", .fieldLink RX3 30 "FaultHeaps$Reports" "number" "I"] ++ wsX30)
def wsX3_has : List Cond := .code yX3_has cX3_has 2 (some .boolean) :: ([.fieldLink RX3 30 "FaultHeaps$Reports" "number" "I"] ++ wsX30)
def wsX3_hasTwo : List Cond := .code yX3_hasTwo cX3_hasTwo 3 (some .boolean) :: ([.methodLink RX3 34 yX3_has, .instanceMethod yX3_has, .selects RX3 yX3_has yX3_has, .initialized RX3, .code yX3_has cX3_has 2 (some .boolean), .fieldLink RX3 30 "FaultHeaps$Reports" "number" "I"] ++ wsX30)
def wsX3_hasFrame : List Cond := .code yX3_hasFrame cX3_hasFrame 3 (some .boolean) :: ([.fieldLink RX3 16 "FaultHeaps$Reports" "lengths" "[I", .methodLink RX3 34 yX3_has, .instanceMethod yX3_has, .selects RX3 yX3_has yX3_has, .initialized RX3, .code yX3_has cX3_has 2 (some .boolean), .fieldLink RX3 30 "FaultHeaps$Reports" "number" "I"] ++ wsX30)
def wsX3_isFull : List Cond := .code yX3_isFull cX3_isFull 1 (some .boolean) :: ([.fieldLink RX3 30 "FaultHeaps$Reports" "number" "I"] ++ wsX30)
def wsX4_howMany : List Cond := .code yX4_howMany cX4_howMany 1 (some .int) :: ([.fieldLink RX4 15 "FaultHeaps$ToldRow" "length" "I"] ++ wsX40)
def wsX4_at : List Cond := .code yX4_at cX4_at 2 (some .int) :: ([.fieldLink RX4 9 "FaultHeaps$ToldRow" "frames" "[I"] ++ wsX40)
def wsX3_add : List Cond := .code yX3_add cX3_add 6 (some .int) :: ([.fieldLink RX3 30 "FaultHeaps$Reports" "number" "I", .fieldLink RX3 16 "FaultHeaps$Reports" "lengths" "[I", .fieldLink RX3 11 "FaultHeaps$Reports" "rows" "[[I", .fieldLink RX3 26 "FaultHeaps$Reports" "holders" "[J", .fieldLink RX3 20 "FaultHeaps$Reports" "madeIn" "[I", .fieldLink RX3 23 "FaultHeaps$Reports" "fixedIn" "[I", .methodLink RX3 38 yX4_howMany, .instanceMethod yX4_howMany, .selects RX4 yX4_howMany yX4_howMany, .initialized RX4, .code yX4_howMany cX4_howMany 1 (some .int), .fieldLink RX4 15 "FaultHeaps$ToldRow" "length" "I", .methodLink RX3 44 yX4_at, .instanceMethod yX4_at, .selects RX4 yX4_at yX4_at, .code yX4_at cX4_at 2 (some .int), .fieldLink RX4 9 "FaultHeaps$ToldRow" "frames" "[I"] ++ wsX30 ++ wsX40)
def wsX3_versionOf : List Cond := .code yX3_versionOf cX3_versionOf 2 (some .int) :: ([.fieldLink RX3 20 "FaultHeaps$Reports" "madeIn" "[I"] ++ wsX30)
def wsX3_fixedAt : List Cond := .code yX3_fixedAt cX3_fixedAt 2 (some .int) :: ([.fieldLink RX3 23 "FaultHeaps$Reports" "fixedIn" "[I"] ++ wsX30)
def wsX3_setFixedAt : List Cond := .code yX3_setFixedAt cX3_setFixedAt 3 none :: ([.fieldLink RX3 23 "FaultHeaps$Reports" "fixedIn" "[I"] ++ wsX30)
def wsX3_howManyCommon : List Cond := .code yX3_howManyCommon cX3_howManyCommon 3 (some .int) :: ([.methodLink RX3 54 yX3_isCommon, .instanceMethod yX3_isCommon, .selects RX3 yX3_isCommon yX3_isCommon, .initialized RX3, .code yX3_isCommon cX3_isCommon 2 (some .boolean), .fieldLink RX3 30 "FaultHeaps$Reports" "number" "I", .fieldLink RX3 26 "FaultHeaps$Reports" "holders" "[J", .methodLink RX3 48 yJ13_bitCount_95d88, .static yJ13_bitCount_95d88, .initialized RJ13, .code yJ13_bitCount_95d88 cJ13_bitCount_95d88 2 (some .int), .constantLong RJ13 314 (6148914691236517205), .constantLong RJ13 316 (3689348814741910323), .constantLong RJ13 318 (1085102592571150095)] ++ wsX30)
def wsX4_init : List Cond := .code yX4_init cX4_init 1 none :: ([.methodLink RX4 3 objectInit, .instanceMethod objectInit, .code objectInit ⟨#[0xb1]⟩ 1 none, .arrayClass .int, .fieldLink RX4 9 "FaultHeaps$ToldRow" "frames" "[I", .fieldLink RX4 15 "FaultHeaps$ToldRow" "length" "I"] ++ wsX40)
def wsX4_put : List Cond := .code yX4_put cX4_put 2 (some .int) :: ([.fieldLink RX4 15 "FaultHeaps$ToldRow" "length" "I", .fieldLink RX4 9 "FaultHeaps$ToldRow" "frames" "[I"] ++ wsX40)
def wsX4_isEmpty : List Cond := .code yX4_isEmpty cX4_isEmpty 1 (some .boolean) :: ([.fieldLink RX4 15 "FaultHeaps$ToldRow" "length" "I"] ++ wsX40)
def wsX4_clear : List Cond := .code yX4_clear cX4_clear 1 none :: ([.fieldLink RX4 15 "FaultHeaps$ToldRow" "length" "I"] ++ wsX40)
def wsX4_standsTwice : List Cond := .code yX4_standsTwice cX4_standsTwice 4 (some .boolean) :: ([.fieldLink RX4 9 "FaultHeaps$ToldRow" "frames" "[I"] ++ wsX40)
def wsX4_cut : List Cond := .code yX4_cut cX4_cut 4 none :: ([.fieldLink RX4 15 "FaultHeaps$ToldRow" "length" "I", .fieldLink RX4 9 "FaultHeaps$ToldRow" "frames" "[I"] ++ wsX40)
def wsX4_foldOnce : List Cond := .code yX4_foldOnce cX4_foldOnce 3 (some .boolean) :: ([.fieldLink RX4 15 "FaultHeaps$ToldRow" "length" "I", .methodLink RX4 23 yX4_standsTwice, .instanceMethod yX4_standsTwice, .selects RX4 yX4_standsTwice yX4_standsTwice, .initialized RX4, .code yX4_standsTwice cX4_standsTwice 4 (some .boolean), .fieldLink RX4 9 "FaultHeaps$ToldRow" "frames" "[I", .methodLink RX4 27 yX4_cut, .instanceMethod yX4_cut, .selects RX4 yX4_cut yX4_cut, .code yX4_cut cX4_cut 4 none] ++ wsX40)
def wsX4_fold : List Cond := .code yX4_fold cX4_fold 2 none :: ([.methodLink RX4 19 yX4_foldOnce, .instanceMethod yX4_foldOnce, .selects RX4 yX4_foldOnce yX4_foldOnce, .initialized RX4, .code yX4_foldOnce cX4_foldOnce 3 (some .boolean), .fieldLink RX4 15 "FaultHeaps$ToldRow" "length" "I", .methodLink RX4 23 yX4_standsTwice, .instanceMethod yX4_standsTwice, .selects RX4 yX4_standsTwice yX4_standsTwice, .code yX4_standsTwice cX4_standsTwice 4 (some .boolean), .fieldLink RX4 9 "FaultHeaps$ToldRow" "frames" "[I", .methodLink RX4 27 yX4_cut, .instanceMethod yX4_cut, .selects RX4 yX4_cut yX4_cut, .code yX4_cut cX4_cut 4 none] ++ wsX40)
def wsX5_init : List Cond := .code yX5_init cX5_init 1 none :: ([.methodLink RX5 3 objectInit, .instanceMethod objectInit, .code objectInit ⟨#[0xb1]⟩ 1 none, .arrayClass .int, .fieldLink RX5 9 "FaultHeaps$Versions" "lines" "[I", .fieldLink RX5 15 "FaultHeaps$Versions" "number" "I"] ++ wsX50)
def wsX5_has : List Cond := .code yX5_has cX5_has 2 (some .boolean) :: ([.fieldLink RX5 15 "FaultHeaps$Versions" "number" "I"] ++ wsX50)
def wsX5_howMany : List Cond := .code yX5_howMany cX5_howMany 1 (some .int) :: ([.fieldLink RX5 15 "FaultHeaps$Versions" "number" "I"] ++ wsX50)
def wsX5_make : List Cond := .code yX5_make cX5_make 3 (some .int) :: ([.fieldLink RX5 15 "FaultHeaps$Versions" "number" "I", .fieldLink RX5 9 "FaultHeaps$Versions" "lines" "[I", .methodLink RX5 19 yX5_has, .instanceMethod yX5_has, .selects RX5 yX5_has yX5_has, .initialized RX5, .code yX5_has cX5_has 2 (some .boolean)] ++ wsX50)
def wsX5_isOrIsBehind : List Cond := .code yX5_isOrIsBehind cX5_isOrIsBehind 3 (some .boolean) :: ([.fieldLink RX5 9 "FaultHeaps$Versions" "lines" "[I"] ++ wsX50)
def wsX6_init_r1 : List Cond := [Cond.methodLink RX6 1 objectInit, Cond.instanceMethod objectInit, Cond.code objectInit ⟨#[0xb1]⟩ 1 none, Cond.classLink RX6 7 RX4, Cond.instantiable RX4 2, Cond.initialized RX4, Cond.fieldLink RX6 10 "FaultHeaps" "told" "LFaultHeaps$ToldRow;", Cond.classLink RX6 16 RX5, Cond.instantiable RX5 2, Cond.initialized RX5, Cond.fieldLink RX6 19 "FaultHeaps" "versions" "LFaultHeaps$Versions;", Cond.classLink RX6 23 RX3, Cond.instantiable RX3 6, Cond.initialized RX3, Cond.fieldLink RX6 26 "FaultHeaps" "reports" "LFaultHeaps$Reports;", Cond.classLink RX6 30 RX0, Cond.instantiable RX0 5, Cond.initialized RX0, Cond.fieldLink RX6 33 "FaultHeaps" "distances" "LFaultHeaps$Distances;", Cond.classLink RX6 37 RX1, Cond.instantiable RX1 15, Cond.initialized RX1, Cond.fieldLink RX6 40 "FaultHeaps" "heaps" "LFaultHeaps$Heaps;", Cond.classLink RX6 44 RX2]
def wsX6_init_r2 : List Cond := [Cond.instantiable RX2 5, Cond.initialized RX2, Cond.fieldLink RX6 47 "FaultHeaps" "marks" "LFaultHeaps$Marks;", Cond.instanceMethod yX4_init, Cond.code yX4_init cX4_init 1 none, Cond.methodLink RX4 3 objectInit, Cond.arrayClass .int, Cond.fieldLink RX4 9 "FaultHeaps$ToldRow" "frames" "[I", Cond.fieldLink RX4 15 "FaultHeaps$ToldRow" "length" "I", Cond.methodLink RX6 18 yX5_init, Cond.instanceMethod yX5_init, Cond.code yX5_init cX5_init 1 none, Cond.methodLink RX5 3 objectInit, Cond.fieldLink RX5 9 "FaultHeaps$Versions" "lines" "[I", Cond.fieldLink RX5 15 "FaultHeaps$Versions" "number" "I", Cond.instanceMethod yX3_init, Cond.code yX3_init cX3_init 1 none, Cond.methodLink RX3 3 objectInit, Cond.classLink RX3 9 "[[I", Cond.fieldLink RX3 11 "FaultHeaps$Reports" "rows" "[[I", Cond.fieldLink RX3 16 "FaultHeaps$Reports" "lengths" "[I", Cond.fieldLink RX3 20 "FaultHeaps$Reports" "madeIn" "[I", Cond.fieldLink RX3 23 "FaultHeaps$Reports" "fixedIn" "[I", Cond.arrayClass .long]
def wsX6_init_r3 : List Cond := [Cond.fieldLink RX3 26 "FaultHeaps$Reports" "holders" "[J", Cond.fieldLink RX3 30 "FaultHeaps$Reports" "number" "I", Cond.methodLink RX6 32 yX0_init, Cond.instanceMethod yX0_init, Cond.code yX0_init cX0_init 1 none, Cond.methodLink RX0 3 objectInit, Cond.classLink RX0 9 "[[I", Cond.fieldLink RX0 11 "FaultHeaps$Distances" "bare" "[[I", Cond.fieldLink RX0 16 "FaultHeaps$Distances" "bareLengths" "[I", Cond.arrayClass .boolean, Cond.fieldLink RX0 20 "FaultHeaps$Distances" "isOther" "[Z", Cond.fieldLink RX0 24 "FaultHeaps$Distances" "known" "[[I", Cond.fieldLink RX0 27 "FaultHeaps$Distances" "least" "[[I", Cond.methodLink RX0 30 yJ7_fill_53178, Cond.static yJ7_fill_53178, Cond.initialized RJ7, Cond.code yJ7_fill_53178 cJ7_fill_53178 4 none, Cond.instanceMethod yX1_init, Cond.code yX1_init cX1_init 1 none, Cond.methodLink RX1 3 objectInit, Cond.classLink RX1 9 "[[I", Cond.fieldLink RX1 11 "FaultHeaps$Heaps" "wishes" "[[I", Cond.fieldLink RX1 16 "FaultHeaps$Heaps" "heapOf" "[I", Cond.fieldLink RX1 20 "FaultHeaps$Heaps" "leastIn" "[I"]
def wsX6_init_r4 : List Cond := [Cond.fieldLink RX1 23 "FaultHeaps$Heaps" "sizes" "[I", Cond.fieldLink RX1 26 "FaultHeaps$Heaps" "newNumbers" "[I", Cond.fieldLink RX1 29 "FaultHeaps$Heaps" "joining" "[[I", Cond.fieldLink RX1 32 "FaultHeaps$Heaps" "melting" "[[I", Cond.fieldLink RX1 35 "FaultHeaps$Heaps" "reportsNumber" "I", Cond.fieldLink RX1 39 "FaultHeaps$Heaps" "heapsNumber" "I", Cond.fieldLink RX1 42 "FaultHeaps$Heaps" "limit" "I", Cond.fieldLink RX1 45 "FaultHeaps$Heaps" "changes" "I", Cond.fieldLink RX1 48 "FaultHeaps$Heaps" "bestAdded" "I", Cond.fieldLink RX1 51 "FaultHeaps$Heaps" "bestReport" "I", Cond.fieldLink RX1 54 "FaultHeaps$Heaps" "bestMelted" "I", Cond.fieldLink RX1 57 "FaultHeaps$Heaps" "bestInto" "I", Cond.instanceMethod yX2_init, Cond.code yX2_init cX2_init 1 none, Cond.methodLink RX2 3 objectInit, Cond.fieldLink RX2 9 "FaultHeaps$Marks" "shared" "[I", Cond.fieldLink RX2 15 "FaultHeaps$Marks" "holders" "[J", Cond.fieldLink RX2 19 "FaultHeaps$Marks" "sharedNumber" "I", Cond.fieldLink RX2 23 "FaultHeaps$Marks" "latest" "[I", Cond.fieldLink RX2 26 "FaultHeaps$Marks" "latestLength" "I"]
def wsX6_init : List Cond := .code yX6_init cX6_init 1 none :: ((wsX6_init_r1 ++ (wsX6_init_r2 ++ (wsX6_init_r3 ++ wsX6_init_r4))) ++ wsX40 ++ wsX60 ++ wsX50 ++ wsX30 ++ wsX00 ++ wsX10 ++ wsX20)
def wsX6_frame : List Cond := .code yX6_frame cX6_frame 2 (some .int) :: ([.fieldLink RX6 10 "FaultHeaps" "told" "LFaultHeaps$ToldRow;", .methodLink RX6 51 yX4_put, .instanceMethod yX4_put, .selects RX4 yX4_put yX4_put, .initialized RX4, .code yX4_put cX4_put 2 (some .int), .fieldLink RX4 15 "FaultHeaps$ToldRow" "length" "I", .fieldLink RX4 9 "FaultHeaps$ToldRow" "frames" "[I"] ++ wsX60 ++ wsX40)
def wsX6_version : List Cond := .code yX6_version cX6_version 2 (some .int) :: ([.fieldLink RX6 19 "FaultHeaps" "versions" "LFaultHeaps$Versions;", .methodLink RX6 55 yX5_make, .instanceMethod yX5_make, .selects RX5 yX5_make yX5_make, .initialized RX5, .code yX5_make cX5_make 3 (some .int), .fieldLink RX5 15 "FaultHeaps$Versions" "number" "I", .fieldLink RX5 9 "FaultHeaps$Versions" "lines" "[I", .methodLink RX5 19 yX5_has, .instanceMethod yX5_has, .selects RX5 yX5_has yX5_has, .code yX5_has cX5_has 2 (some .boolean)] ++ wsX60 ++ wsX50)
def wsX6_report_r1 : List Cond := [Cond.fieldLink RX6 10 "FaultHeaps" "told" "LFaultHeaps$ToldRow;", Cond.fieldLink RX6 19 "FaultHeaps" "versions" "LFaultHeaps$Versions;", Cond.fieldLink RX6 26 "FaultHeaps" "reports" "LFaultHeaps$Reports;", Cond.fieldLink RX6 33 "FaultHeaps" "distances" "LFaultHeaps$Distances;", Cond.fieldLink RX6 40 "FaultHeaps" "heaps" "LFaultHeaps$Heaps;", Cond.methodLink RX6 58 yX4_isEmpty, Cond.instanceMethod yX4_isEmpty, Cond.selects RX4 yX4_isEmpty yX4_isEmpty, Cond.initialized RX4, Cond.code yX4_isEmpty cX4_isEmpty 1 (some .boolean), Cond.fieldLink RX4 15 "FaultHeaps$ToldRow" "length" "I", Cond.methodLink RX6 62 yX5_has, Cond.instanceMethod yX5_has, Cond.selects RX5 yX5_has yX5_has, Cond.initialized RX5, Cond.code yX5_has cX5_has 2 (some .boolean), Cond.fieldLink RX5 15 "FaultHeaps$Versions" "number" "I", Cond.methodLink RX6 66 yX3_isFull, Cond.instanceMethod yX3_isFull, Cond.selects RX3 yX3_isFull yX3_isFull, Cond.initialized RX3, Cond.code yX3_isFull cX3_isFull 1 (some .boolean), Cond.fieldLink RX3 30 "FaultHeaps$Reports" "number" "I", Cond.methodLink RX6 69 yX4_fold]
def wsX6_report_r2 : List Cond := [Cond.instanceMethod yX4_fold, Cond.selects RX4 yX4_fold yX4_fold, Cond.code yX4_fold cX4_fold 2 none, Cond.methodLink RX4 19 yX4_foldOnce, Cond.instanceMethod yX4_foldOnce, Cond.selects RX4 yX4_foldOnce yX4_foldOnce, Cond.code yX4_foldOnce cX4_foldOnce 3 (some .boolean), Cond.methodLink RX4 23 yX4_standsTwice, Cond.instanceMethod yX4_standsTwice, Cond.selects RX4 yX4_standsTwice yX4_standsTwice, Cond.code yX4_standsTwice cX4_standsTwice 4 (some .boolean), Cond.fieldLink RX4 9 "FaultHeaps$ToldRow" "frames" "[I", Cond.methodLink RX4 27 yX4_cut, Cond.instanceMethod yX4_cut, Cond.selects RX4 yX4_cut yX4_cut, Cond.code yX4_cut cX4_cut 4 none, Cond.methodLink RX6 72 yX3_add, Cond.instanceMethod yX3_add, Cond.selects RX3 yX3_add yX3_add, Cond.code yX3_add cX3_add 6 (some .int), Cond.fieldLink RX3 16 "FaultHeaps$Reports" "lengths" "[I", Cond.fieldLink RX3 11 "FaultHeaps$Reports" "rows" "[[I", Cond.fieldLink RX3 26 "FaultHeaps$Reports" "holders" "[J", Cond.fieldLink RX3 20 "FaultHeaps$Reports" "madeIn" "[I"]
def wsX6_report_r3 : List Cond := [Cond.fieldLink RX3 23 "FaultHeaps$Reports" "fixedIn" "[I", Cond.methodLink RX3 38 yX4_howMany, Cond.instanceMethod yX4_howMany, Cond.selects RX4 yX4_howMany yX4_howMany, Cond.code yX4_howMany cX4_howMany 1 (some .int), Cond.methodLink RX3 44 yX4_at, Cond.instanceMethod yX4_at, Cond.selects RX4 yX4_at yX4_at, Cond.code yX4_at cX4_at 2 (some .int), Cond.methodLink RX6 76 yX4_clear, Cond.instanceMethod yX4_clear, Cond.selects RX4 yX4_clear yX4_clear, Cond.code yX4_clear cX4_clear 1 none, Cond.methodLink RX6 79 yX0_renew, Cond.instanceMethod yX0_renew, Cond.selects RX0 yX0_renew yX0_renew, Cond.initialized RX0, Cond.code yX0_renew cX0_renew 6 none, Cond.fieldLink RX0 20 "FaultHeaps$Distances" "isOther" "[Z", Cond.fieldLink RX0 24 "FaultHeaps$Distances" "known" "[[I", Cond.methodLink RX0 36 yX3_howMany, Cond.instanceMethod yX3_howMany, Cond.selects RX3 yX3_howMany yX3_howMany, Cond.code yX3_howMany cX3_howMany 1 (some .int)]
def wsX6_report_r4 : List Cond := [Cond.methodLink RX0 42 yX0_strip, Cond.instanceMethod yX0_strip, Cond.selects RX0 yX0_strip yX0_strip, Cond.code yX0_strip cX0_strip 8 (some .boolean), Cond.fieldLink RX0 11 "FaultHeaps$Distances" "bare" "[[I", Cond.fieldLink RX0 16 "FaultHeaps$Distances" "bareLengths" "[I", Cond.methodLink RX0 50 yX3_lengthOf, Cond.instanceMethod yX3_lengthOf, Cond.selects RX3 yX3_lengthOf yX3_lengthOf, Cond.code yX3_lengthOf cX3_lengthOf 2 (some .int), Cond.methodLink RX0 54 yX3_frameAt, Cond.instanceMethod yX3_frameAt, Cond.selects RX3 yX3_frameAt yX3_frameAt, Cond.code yX3_frameAt cX3_frameAt 3 (some .int), Cond.methodLink RX0 57 yX3_isCommon, Cond.instanceMethod yX3_isCommon, Cond.selects RX3 yX3_isCommon yX3_isCommon, Cond.code yX3_isCommon cX3_isCommon 2 (some .boolean), Cond.methodLink RX3 48 yJ13_bitCount_95d88, Cond.static yJ13_bitCount_95d88, Cond.initialized RJ13, Cond.code yJ13_bitCount_95d88 cJ13_bitCount_95d88 2 (some .int), Cond.constantLong RJ13 314 (6148914691236517205), Cond.constantLong RJ13 316 (3689348814741910323)]
def wsX6_report_r5 : List Cond := [Cond.constantLong RJ13 318 (1085102592571150095), Cond.methodLink RX0 46 yX0_measure, Cond.instanceMethod yX0_measure, Cond.selects RX0 yX0_measure yX0_measure, Cond.code yX0_measure cX0_measure 12 (some .int), Cond.fieldLink RX0 27 "FaultHeaps$Distances" "least" "[[I", Cond.methodLink RX0 67 Lib.Math.min.name, Cond.static Lib.Math.min.name, Cond.initialized "java/lang/Math", Cond.code Lib.Math.min.name Lib.Math.min.code 2 (some .int), Cond.methodLink RX0 61 yX0_costOfOne, Cond.static yX0_costOfOne, Cond.code yX0_costOfOne cX0_costOfOne 1 (some .int), Cond.methodLink RX0 64 yX0_costOfChange, Cond.static yX0_costOfChange, Cond.code yX0_costOfChange cX0_costOfChange 2 (some .int), Cond.methodLink RX6 83 yX1_addAlone, Cond.instanceMethod yX1_addAlone, Cond.selects RX1 yX1_addAlone yX1_addAlone, Cond.initialized RX1, Cond.code yX1_addAlone cX1_addAlone 1 none, Cond.fieldLink RX1 35 "FaultHeaps$Heaps" "reportsNumber" "I", Cond.fieldLink RX1 16 "FaultHeaps$Heaps" "heapOf" "[I", Cond.fieldLink RX1 39 "FaultHeaps$Heaps" "heapsNumber" "I"]
def wsX6_report_r6 : List Cond := [Cond.methodLink RX1 79 yX1_numberAnew, Cond.instanceMethod yX1_numberAnew, Cond.selects RX1 yX1_numberAnew yX1_numberAnew, Cond.code yX1_numberAnew cX1_numberAnew 3 none, Cond.fieldLink RX1 26 "FaultHeaps$Heaps" "newNumbers" "[I", Cond.fieldLink RX1 20 "FaultHeaps$Heaps" "leastIn" "[I", Cond.fieldLink RX1 23 "FaultHeaps$Heaps" "sizes" "[I", Cond.methodLink RX1 96 yJ7_fill_53178, Cond.static yJ7_fill_53178, Cond.initialized RJ7, Cond.code yJ7_fill_53178 cJ7_fill_53178 4 none, Cond.methodLink RX6 86 yX1_settle, Cond.instanceMethod yX1_settle, Cond.selects RX1 yX1_settle yX1_settle, Cond.code yX1_settle cX1_settle 3 none, Cond.constant RX1 82 (1000000), Cond.fieldLink RX1 48 "FaultHeaps$Heaps" "bestAdded" "I", Cond.fieldLink RX1 45 "FaultHeaps$Heaps" "changes" "I", Cond.methodLink RX1 83 yX1_weighJoining, Cond.instanceMethod yX1_weighJoining, Cond.selects RX1 yX1_weighJoining yX1_weighJoining, Cond.code yX1_weighJoining cX1_weighJoining 4 none, Cond.fieldLink RX1 29 "FaultHeaps$Heaps" "joining" "[[I", Cond.fieldLink RX1 42 "FaultHeaps$Heaps" "limit" "I"]
def wsX6_report_r7 : List Cond := [Cond.fieldLink RX1 11 "FaultHeaps$Heaps" "wishes" "[[I", Cond.methodLink RX1 64 yX0_between, Cond.instanceMethod yX0_between, Cond.selects RX0 yX0_between yX0_between, Cond.code yX0_between cX0_between 3 (some .int), Cond.methodLink RX1 87 yX1_weighMelting, Cond.instanceMethod yX1_weighMelting, Cond.selects RX1 yX1_weighMelting yX1_weighMelting, Cond.code yX1_weighMelting cX1_weighMelting 3 none, Cond.fieldLink RX1 32 "FaultHeaps$Heaps" "melting" "[[I", Cond.methodLink RX1 90 yX1_findBest, Cond.instanceMethod yX1_findBest, Cond.selects RX1 yX1_findBest yX1_findBest, Cond.code yX1_findBest cX1_findBest 3 none, Cond.fieldLink RX1 51 "FaultHeaps$Heaps" "bestReport" "I", Cond.fieldLink RX1 54 "FaultHeaps$Heaps" "bestMelted" "I", Cond.fieldLink RX1 57 "FaultHeaps$Heaps" "bestInto" "I", Cond.methodLink RX1 102 yX1_findBestMove, Cond.instanceMethod yX1_findBestMove, Cond.selects RX1 yX1_findBestMove yX1_findBestMove, Cond.code yX1_findBestMove cX1_findBestMove 5 none, Cond.methodLink RX1 106 yX1_weighMove, Cond.instanceMethod yX1_weighMove, Cond.selects RX1 yX1_weighMove yX1_weighMove]
def wsX6_report_r8 : List Cond := [Cond.code yX1_weighMove cX1_weighMove 4 none, Cond.methodLink RX1 93 yX1_doBest, Cond.instanceMethod yX1_doBest, Cond.selects RX1 yX1_doBest yX1_doBest, Cond.code yX1_doBest cX1_doBest 2 none]
def wsX6_report : List Cond := .code yX6_report cX6_report 3 (some .int) :: ((wsX6_report_r1 ++ (wsX6_report_r2 ++ (wsX6_report_r3 ++ (wsX6_report_r4 ++ (wsX6_report_r5 ++ (wsX6_report_r6 ++ (wsX6_report_r7 ++ wsX6_report_r8))))))) ++ wsX60 ++ wsX40 ++ wsX50 ++ wsX30 ++ wsX00 ++ wsX10)
def wsX6_pair_r1 : List Cond := [Cond.fieldLink RX6 26 "FaultHeaps" "reports" "LFaultHeaps$Reports;", Cond.fieldLink RX6 40 "FaultHeaps" "heaps" "LFaultHeaps$Heaps;", Cond.fieldLink RX6 33 "FaultHeaps" "distances" "LFaultHeaps$Distances;", Cond.methodLink RX6 90 yX3_hasTwo, Cond.instanceMethod yX3_hasTwo, Cond.selects RX3 yX3_hasTwo yX3_hasTwo, Cond.initialized RX3, Cond.code yX3_hasTwo cX3_hasTwo 3 (some .boolean), Cond.methodLink RX3 34 yX3_has, Cond.instanceMethod yX3_has, Cond.selects RX3 yX3_has yX3_has, Cond.code yX3_has cX3_has 2 (some .boolean), Cond.fieldLink RX3 30 "FaultHeaps$Reports" "number" "I", Cond.methodLink RX6 94 yX1_wish, Cond.instanceMethod yX1_wish, Cond.selects RX1 yX1_wish yX1_wish, Cond.initialized RX1, Cond.code yX1_wish cX1_wish 4 none, Cond.fieldLink RX1 11 "FaultHeaps$Heaps" "wishes" "[[I", Cond.methodLink RX6 86 yX1_settle, Cond.instanceMethod yX1_settle, Cond.selects RX1 yX1_settle yX1_settle, Cond.code yX1_settle cX1_settle 3 none, Cond.constant RX1 82 (1000000)]
def wsX6_pair_r2 : List Cond := [Cond.fieldLink RX1 48 "FaultHeaps$Heaps" "bestAdded" "I", Cond.fieldLink RX1 45 "FaultHeaps$Heaps" "changes" "I", Cond.methodLink RX1 83 yX1_weighJoining, Cond.instanceMethod yX1_weighJoining, Cond.selects RX1 yX1_weighJoining yX1_weighJoining, Cond.code yX1_weighJoining cX1_weighJoining 4 none, Cond.fieldLink RX1 35 "FaultHeaps$Heaps" "reportsNumber" "I", Cond.fieldLink RX1 29 "FaultHeaps$Heaps" "joining" "[[I", Cond.fieldLink RX1 16 "FaultHeaps$Heaps" "heapOf" "[I", Cond.fieldLink RX1 42 "FaultHeaps$Heaps" "limit" "I", Cond.methodLink RX1 96 yJ7_fill_53178, Cond.static yJ7_fill_53178, Cond.initialized RJ7, Cond.code yJ7_fill_53178 cJ7_fill_53178 4 none, Cond.methodLink RX1 64 yX0_between, Cond.instanceMethod yX0_between, Cond.selects RX0 yX0_between yX0_between, Cond.initialized RX0, Cond.code yX0_between cX0_between 3 (some .int), Cond.fieldLink RX0 24 "FaultHeaps$Distances" "known" "[[I", Cond.methodLink RX1 87 yX1_weighMelting, Cond.instanceMethod yX1_weighMelting, Cond.selects RX1 yX1_weighMelting yX1_weighMelting, Cond.code yX1_weighMelting cX1_weighMelting 3 none]
def wsX6_pair_r3 : List Cond := [Cond.fieldLink RX1 39 "FaultHeaps$Heaps" "heapsNumber" "I", Cond.fieldLink RX1 32 "FaultHeaps$Heaps" "melting" "[[I", Cond.methodLink RX1 90 yX1_findBest, Cond.instanceMethod yX1_findBest, Cond.selects RX1 yX1_findBest yX1_findBest, Cond.code yX1_findBest cX1_findBest 3 none, Cond.fieldLink RX1 51 "FaultHeaps$Heaps" "bestReport" "I", Cond.fieldLink RX1 54 "FaultHeaps$Heaps" "bestMelted" "I", Cond.fieldLink RX1 57 "FaultHeaps$Heaps" "bestInto" "I", Cond.methodLink RX1 102 yX1_findBestMove, Cond.instanceMethod yX1_findBestMove, Cond.selects RX1 yX1_findBestMove yX1_findBestMove, Cond.code yX1_findBestMove cX1_findBestMove 5 none, Cond.fieldLink RX1 23 "FaultHeaps$Heaps" "sizes" "[I", Cond.methodLink RX1 106 yX1_weighMove, Cond.instanceMethod yX1_weighMove, Cond.selects RX1 yX1_weighMove yX1_weighMove, Cond.code yX1_weighMove cX1_weighMove 4 none, Cond.methodLink RX1 93 yX1_doBest, Cond.instanceMethod yX1_doBest, Cond.selects RX1 yX1_doBest yX1_doBest, Cond.code yX1_doBest cX1_doBest 2 none, Cond.methodLink RX1 79 yX1_numberAnew, Cond.instanceMethod yX1_numberAnew]
def wsX6_pair_r4 : List Cond := [Cond.selects RX1 yX1_numberAnew yX1_numberAnew, Cond.code yX1_numberAnew cX1_numberAnew 3 none, Cond.fieldLink RX1 26 "FaultHeaps$Heaps" "newNumbers" "[I", Cond.fieldLink RX1 20 "FaultHeaps$Heaps" "leastIn" "[I"]
def wsX6_pair : List Cond := .code yX6_pair cX6_pair 4 (some .boolean) :: ((wsX6_pair_r1 ++ (wsX6_pair_r2 ++ (wsX6_pair_r3 ++ wsX6_pair_r4))) ++ wsX60 ++ wsX30 ++ wsX10 ++ wsX00)
def wsX6_free_r1 : List Cond := [Cond.fieldLink RX6 26 "FaultHeaps" "reports" "LFaultHeaps$Reports;", Cond.fieldLink RX6 40 "FaultHeaps" "heaps" "LFaultHeaps$Heaps;", Cond.fieldLink RX6 33 "FaultHeaps" "distances" "LFaultHeaps$Distances;", Cond.methodLink RX6 90 yX3_hasTwo, Cond.instanceMethod yX3_hasTwo, Cond.selects RX3 yX3_hasTwo yX3_hasTwo, Cond.initialized RX3, Cond.code yX3_hasTwo cX3_hasTwo 3 (some .boolean), Cond.methodLink RX3 34 yX3_has, Cond.instanceMethod yX3_has, Cond.selects RX3 yX3_has yX3_has, Cond.code yX3_has cX3_has 2 (some .boolean), Cond.fieldLink RX3 30 "FaultHeaps$Reports" "number" "I", Cond.methodLink RX6 98 yX1_hasWish, Cond.instanceMethod yX1_hasWish, Cond.selects RX1 yX1_hasWish yX1_hasWish, Cond.initialized RX1, Cond.code yX1_hasWish cX1_hasWish 3 (some .boolean), Cond.fieldLink RX1 11 "FaultHeaps$Heaps" "wishes" "[[I", Cond.methodLink RX6 94 yX1_wish, Cond.instanceMethod yX1_wish, Cond.selects RX1 yX1_wish yX1_wish, Cond.code yX1_wish cX1_wish 4 none, Cond.methodLink RX6 86 yX1_settle]
def wsX6_free_r2 : List Cond := [Cond.instanceMethod yX1_settle, Cond.selects RX1 yX1_settle yX1_settle, Cond.code yX1_settle cX1_settle 3 none, Cond.constant RX1 82 (1000000), Cond.fieldLink RX1 48 "FaultHeaps$Heaps" "bestAdded" "I", Cond.fieldLink RX1 45 "FaultHeaps$Heaps" "changes" "I", Cond.methodLink RX1 83 yX1_weighJoining, Cond.instanceMethod yX1_weighJoining, Cond.selects RX1 yX1_weighJoining yX1_weighJoining, Cond.code yX1_weighJoining cX1_weighJoining 4 none, Cond.fieldLink RX1 35 "FaultHeaps$Heaps" "reportsNumber" "I", Cond.fieldLink RX1 29 "FaultHeaps$Heaps" "joining" "[[I", Cond.fieldLink RX1 16 "FaultHeaps$Heaps" "heapOf" "[I", Cond.fieldLink RX1 42 "FaultHeaps$Heaps" "limit" "I", Cond.methodLink RX1 96 yJ7_fill_53178, Cond.static yJ7_fill_53178, Cond.initialized RJ7, Cond.code yJ7_fill_53178 cJ7_fill_53178 4 none, Cond.methodLink RX1 64 yX0_between, Cond.instanceMethod yX0_between, Cond.selects RX0 yX0_between yX0_between, Cond.initialized RX0, Cond.code yX0_between cX0_between 3 (some .int), Cond.fieldLink RX0 24 "FaultHeaps$Distances" "known" "[[I"]
def wsX6_free_r3 : List Cond := [Cond.methodLink RX1 87 yX1_weighMelting, Cond.instanceMethod yX1_weighMelting, Cond.selects RX1 yX1_weighMelting yX1_weighMelting, Cond.code yX1_weighMelting cX1_weighMelting 3 none, Cond.fieldLink RX1 39 "FaultHeaps$Heaps" "heapsNumber" "I", Cond.fieldLink RX1 32 "FaultHeaps$Heaps" "melting" "[[I", Cond.methodLink RX1 90 yX1_findBest, Cond.instanceMethod yX1_findBest, Cond.selects RX1 yX1_findBest yX1_findBest, Cond.code yX1_findBest cX1_findBest 3 none, Cond.fieldLink RX1 51 "FaultHeaps$Heaps" "bestReport" "I", Cond.fieldLink RX1 54 "FaultHeaps$Heaps" "bestMelted" "I", Cond.fieldLink RX1 57 "FaultHeaps$Heaps" "bestInto" "I", Cond.methodLink RX1 102 yX1_findBestMove, Cond.instanceMethod yX1_findBestMove, Cond.selects RX1 yX1_findBestMove yX1_findBestMove, Cond.code yX1_findBestMove cX1_findBestMove 5 none, Cond.fieldLink RX1 23 "FaultHeaps$Heaps" "sizes" "[I", Cond.methodLink RX1 106 yX1_weighMove, Cond.instanceMethod yX1_weighMove, Cond.selects RX1 yX1_weighMove yX1_weighMove, Cond.code yX1_weighMove cX1_weighMove 4 none, Cond.methodLink RX1 93 yX1_doBest, Cond.instanceMethod yX1_doBest]
def wsX6_free_r4 : List Cond := [Cond.selects RX1 yX1_doBest yX1_doBest, Cond.code yX1_doBest cX1_doBest 2 none, Cond.methodLink RX1 79 yX1_numberAnew, Cond.instanceMethod yX1_numberAnew, Cond.selects RX1 yX1_numberAnew yX1_numberAnew, Cond.code yX1_numberAnew cX1_numberAnew 3 none, Cond.fieldLink RX1 26 "FaultHeaps$Heaps" "newNumbers" "[I", Cond.fieldLink RX1 20 "FaultHeaps$Heaps" "leastIn" "[I"]
def wsX6_free : List Cond := .code yX6_free cX6_free 3 (some .boolean) :: ((wsX6_free_r1 ++ (wsX6_free_r2 ++ (wsX6_free_r3 ++ wsX6_free_r4))) ++ wsX60 ++ wsX30 ++ wsX10 ++ wsX00)
def wsX6_mark_r1 : List Cond := [Cond.fieldLink RX6 40 "FaultHeaps" "heaps" "LFaultHeaps$Heaps;", Cond.fieldLink RX6 33 "FaultHeaps" "distances" "LFaultHeaps$Distances;", Cond.methodLink RX6 101 yX1_setT, Cond.instanceMethod yX1_setT, Cond.selects RX1 yX1_setT yX1_setT, Cond.initialized RX1, Cond.code yX1_setT cX1_setT 2 (some .boolean), Cond.fieldLink RX1 42 "FaultHeaps$Heaps" "limit" "I", Cond.methodLink RX6 86 yX1_settle, Cond.instanceMethod yX1_settle, Cond.selects RX1 yX1_settle yX1_settle, Cond.code yX1_settle cX1_settle 3 none, Cond.constant RX1 82 (1000000), Cond.fieldLink RX1 48 "FaultHeaps$Heaps" "bestAdded" "I", Cond.fieldLink RX1 45 "FaultHeaps$Heaps" "changes" "I", Cond.methodLink RX1 83 yX1_weighJoining, Cond.instanceMethod yX1_weighJoining, Cond.selects RX1 yX1_weighJoining yX1_weighJoining, Cond.code yX1_weighJoining cX1_weighJoining 4 none, Cond.fieldLink RX1 35 "FaultHeaps$Heaps" "reportsNumber" "I", Cond.fieldLink RX1 29 "FaultHeaps$Heaps" "joining" "[[I", Cond.fieldLink RX1 16 "FaultHeaps$Heaps" "heapOf" "[I", Cond.fieldLink RX1 11 "FaultHeaps$Heaps" "wishes" "[[I", Cond.methodLink RX1 96 yJ7_fill_53178]
def wsX6_mark_r2 : List Cond := [Cond.static yJ7_fill_53178, Cond.initialized RJ7, Cond.code yJ7_fill_53178 cJ7_fill_53178 4 none, Cond.methodLink RX1 64 yX0_between, Cond.instanceMethod yX0_between, Cond.selects RX0 yX0_between yX0_between, Cond.initialized RX0, Cond.code yX0_between cX0_between 3 (some .int), Cond.fieldLink RX0 24 "FaultHeaps$Distances" "known" "[[I", Cond.methodLink RX1 87 yX1_weighMelting, Cond.instanceMethod yX1_weighMelting, Cond.selects RX1 yX1_weighMelting yX1_weighMelting, Cond.code yX1_weighMelting cX1_weighMelting 3 none, Cond.fieldLink RX1 39 "FaultHeaps$Heaps" "heapsNumber" "I", Cond.fieldLink RX1 32 "FaultHeaps$Heaps" "melting" "[[I", Cond.methodLink RX1 90 yX1_findBest, Cond.instanceMethod yX1_findBest, Cond.selects RX1 yX1_findBest yX1_findBest, Cond.code yX1_findBest cX1_findBest 3 none, Cond.fieldLink RX1 51 "FaultHeaps$Heaps" "bestReport" "I", Cond.fieldLink RX1 54 "FaultHeaps$Heaps" "bestMelted" "I", Cond.fieldLink RX1 57 "FaultHeaps$Heaps" "bestInto" "I", Cond.methodLink RX1 102 yX1_findBestMove, Cond.instanceMethod yX1_findBestMove]
def wsX6_mark_r3 : List Cond := [Cond.selects RX1 yX1_findBestMove yX1_findBestMove, Cond.code yX1_findBestMove cX1_findBestMove 5 none, Cond.fieldLink RX1 23 "FaultHeaps$Heaps" "sizes" "[I", Cond.methodLink RX1 106 yX1_weighMove, Cond.instanceMethod yX1_weighMove, Cond.selects RX1 yX1_weighMove yX1_weighMove, Cond.code yX1_weighMove cX1_weighMove 4 none, Cond.methodLink RX1 93 yX1_doBest, Cond.instanceMethod yX1_doBest, Cond.selects RX1 yX1_doBest yX1_doBest, Cond.code yX1_doBest cX1_doBest 2 none, Cond.methodLink RX1 79 yX1_numberAnew, Cond.instanceMethod yX1_numberAnew, Cond.selects RX1 yX1_numberAnew yX1_numberAnew, Cond.code yX1_numberAnew cX1_numberAnew 3 none, Cond.fieldLink RX1 26 "FaultHeaps$Heaps" "newNumbers" "[I", Cond.fieldLink RX1 20 "FaultHeaps$Heaps" "leastIn" "[I"]
def wsX6_mark : List Cond := .code yX6_mark cX6_mark 2 (some .boolean) :: ((wsX6_mark_r1 ++ (wsX6_mark_r2 ++ wsX6_mark_r3)) ++ wsX60 ++ wsX10 ++ wsX00)
def wsX6_resettle_r1 : List Cond := [Cond.fieldLink RX6 40 "FaultHeaps" "heaps" "LFaultHeaps$Heaps;", Cond.fieldLink RX6 33 "FaultHeaps" "distances" "LFaultHeaps$Distances;", Cond.methodLink RX6 104 yX1_partAll, Cond.instanceMethod yX1_partAll, Cond.selects RX1 yX1_partAll yX1_partAll, Cond.initialized RX1, Cond.code yX1_partAll cX1_partAll 2 none, Cond.fieldLink RX1 35 "FaultHeaps$Heaps" "reportsNumber" "I", Cond.fieldLink RX1 16 "FaultHeaps$Heaps" "heapOf" "[I", Cond.methodLink RX1 79 yX1_numberAnew, Cond.instanceMethod yX1_numberAnew, Cond.selects RX1 yX1_numberAnew yX1_numberAnew, Cond.code yX1_numberAnew cX1_numberAnew 3 none, Cond.fieldLink RX1 26 "FaultHeaps$Heaps" "newNumbers" "[I", Cond.fieldLink RX1 39 "FaultHeaps$Heaps" "heapsNumber" "I", Cond.fieldLink RX1 20 "FaultHeaps$Heaps" "leastIn" "[I", Cond.fieldLink RX1 23 "FaultHeaps$Heaps" "sizes" "[I", Cond.methodLink RX1 96 yJ7_fill_53178, Cond.static yJ7_fill_53178, Cond.initialized RJ7, Cond.code yJ7_fill_53178 cJ7_fill_53178 4 none, Cond.methodLink RX6 86 yX1_settle, Cond.instanceMethod yX1_settle, Cond.selects RX1 yX1_settle yX1_settle]
def wsX6_resettle_r2 : List Cond := [Cond.code yX1_settle cX1_settle 3 none, Cond.constant RX1 82 (1000000), Cond.fieldLink RX1 48 "FaultHeaps$Heaps" "bestAdded" "I", Cond.fieldLink RX1 45 "FaultHeaps$Heaps" "changes" "I", Cond.methodLink RX1 83 yX1_weighJoining, Cond.instanceMethod yX1_weighJoining, Cond.selects RX1 yX1_weighJoining yX1_weighJoining, Cond.code yX1_weighJoining cX1_weighJoining 4 none, Cond.fieldLink RX1 29 "FaultHeaps$Heaps" "joining" "[[I", Cond.fieldLink RX1 42 "FaultHeaps$Heaps" "limit" "I", Cond.fieldLink RX1 11 "FaultHeaps$Heaps" "wishes" "[[I", Cond.methodLink RX1 64 yX0_between, Cond.instanceMethod yX0_between, Cond.selects RX0 yX0_between yX0_between, Cond.initialized RX0, Cond.code yX0_between cX0_between 3 (some .int), Cond.fieldLink RX0 24 "FaultHeaps$Distances" "known" "[[I", Cond.methodLink RX1 87 yX1_weighMelting, Cond.instanceMethod yX1_weighMelting, Cond.selects RX1 yX1_weighMelting yX1_weighMelting, Cond.code yX1_weighMelting cX1_weighMelting 3 none, Cond.fieldLink RX1 32 "FaultHeaps$Heaps" "melting" "[[I", Cond.methodLink RX1 90 yX1_findBest, Cond.instanceMethod yX1_findBest]
def wsX6_resettle_r3 : List Cond := [Cond.selects RX1 yX1_findBest yX1_findBest, Cond.code yX1_findBest cX1_findBest 3 none, Cond.fieldLink RX1 51 "FaultHeaps$Heaps" "bestReport" "I", Cond.fieldLink RX1 54 "FaultHeaps$Heaps" "bestMelted" "I", Cond.fieldLink RX1 57 "FaultHeaps$Heaps" "bestInto" "I", Cond.methodLink RX1 102 yX1_findBestMove, Cond.instanceMethod yX1_findBestMove, Cond.selects RX1 yX1_findBestMove yX1_findBestMove, Cond.code yX1_findBestMove cX1_findBestMove 5 none, Cond.methodLink RX1 106 yX1_weighMove, Cond.instanceMethod yX1_weighMove, Cond.selects RX1 yX1_weighMove yX1_weighMove, Cond.code yX1_weighMove cX1_weighMove 4 none, Cond.methodLink RX1 93 yX1_doBest, Cond.instanceMethod yX1_doBest, Cond.selects RX1 yX1_doBest yX1_doBest, Cond.code yX1_doBest cX1_doBest 2 none, Cond.methodLink RX6 107 yX1_howMany, Cond.instanceMethod yX1_howMany, Cond.selects RX1 yX1_howMany yX1_howMany, Cond.code yX1_howMany cX1_howMany 1 (some .int)]
def wsX6_resettle : List Cond := .code yX6_resettle cX6_resettle 1 (some .int) :: ((wsX6_resettle_r1 ++ (wsX6_resettle_r2 ++ wsX6_resettle_r3)) ++ wsX60 ++ wsX10 ++ wsX00)
def wsX6_distance : List Cond := .code yX6_distance cX6_distance 3 (some .int) :: ([.fieldLink RX6 26 "FaultHeaps" "reports" "LFaultHeaps$Reports;", .fieldLink RX6 33 "FaultHeaps" "distances" "LFaultHeaps$Distances;", .methodLink RX6 111 yX3_has, .instanceMethod yX3_has, .selects RX3 yX3_has yX3_has, .initialized RX3, .code yX3_has cX3_has 2 (some .boolean), .fieldLink RX3 30 "FaultHeaps$Reports" "number" "I", .methodLink RX6 112 yX0_between, .instanceMethod yX0_between, .selects RX0 yX0_between yX0_between, .initialized RX0, .code yX0_between cX0_between 3 (some .int), .fieldLink RX0 24 "FaultHeaps$Distances" "known" "[[I"] ++ wsX60 ++ wsX30 ++ wsX00)
def wsX6_heap : List Cond := .code yX6_heap cX6_heap 2 (some .int) :: ([.fieldLink RX6 26 "FaultHeaps" "reports" "LFaultHeaps$Reports;", .fieldLink RX6 40 "FaultHeaps" "heaps" "LFaultHeaps$Heaps;", .methodLink RX6 111 yX3_has, .instanceMethod yX3_has, .selects RX3 yX3_has yX3_has, .initialized RX3, .code yX3_has cX3_has 2 (some .boolean), .fieldLink RX3 30 "FaultHeaps$Reports" "number" "I", .methodLink RX6 116 yX1_leastBeside, .instanceMethod yX1_leastBeside, .selects RX1 yX1_leastBeside yX1_leastBeside, .initialized RX1, .code yX1_leastBeside cX1_leastBeside 2 (some .int), .fieldLink RX1 20 "FaultHeaps$Heaps" "leastIn" "[I", .fieldLink RX1 16 "FaultHeaps$Heaps" "heapOf" "[I"] ++ wsX60 ++ wsX30 ++ wsX10)
def wsX6_cost_r1 : List Cond := [Cond.fieldLink RX6 40 "FaultHeaps" "heaps" "LFaultHeaps$Heaps;", Cond.fieldLink RX6 33 "FaultHeaps" "distances" "LFaultHeaps$Distances;", Cond.fieldLink RX6 26 "FaultHeaps" "reports" "LFaultHeaps$Reports;", Cond.methodLink RX6 119 yX1_costOfAll, Cond.instanceMethod yX1_costOfAll, Cond.selects RX1 yX1_costOfAll yX1_costOfAll, Cond.initialized RX1, Cond.code yX1_costOfAll cX1_costOfAll 5 (some .int), Cond.fieldLink RX1 35 "FaultHeaps$Heaps" "reportsNumber" "I", Cond.methodLink RX1 75 yX1_costOfPair, Cond.instanceMethod yX1_costOfPair, Cond.selects RX1 yX1_costOfPair yX1_costOfPair, Cond.code yX1_costOfPair cX1_costOfPair 6 (some .int), Cond.fieldLink RX1 42 "FaultHeaps$Heaps" "limit" "I", Cond.fieldLink RX1 11 "FaultHeaps$Heaps" "wishes" "[[I", Cond.methodLink RX1 70 Lib.Math.max.name, Cond.static Lib.Math.max.name, Cond.initialized "java/lang/Math", Cond.code Lib.Math.max.name Lib.Math.max.code 2 (some .int), Cond.methodLink RX1 64 yX0_between, Cond.instanceMethod yX0_between, Cond.selects RX0 yX0_between yX0_between, Cond.initialized RX0, Cond.code yX0_between cX0_between 3 (some .int)]
def wsX6_cost_r2 : List Cond := [Cond.fieldLink RX0 24 "FaultHeaps$Distances" "known" "[[I", Cond.methodLink RX1 60 yX1_areTogether, Cond.instanceMethod yX1_areTogether, Cond.selects RX1 yX1_areTogether yX1_areTogether, Cond.code yX1_areTogether cX1_areTogether 3 (some .boolean), Cond.fieldLink RX1 16 "FaultHeaps$Heaps" "heapOf" "[I", Cond.methodLink RX6 90 yX3_hasTwo, Cond.instanceMethod yX3_hasTwo, Cond.selects RX3 yX3_hasTwo yX3_hasTwo, Cond.initialized RX3, Cond.code yX3_hasTwo cX3_hasTwo 3 (some .boolean), Cond.methodLink RX3 34 yX3_has, Cond.instanceMethod yX3_has, Cond.selects RX3 yX3_has yX3_has, Cond.code yX3_has cX3_has 2 (some .boolean), Cond.fieldLink RX3 30 "FaultHeaps$Reports" "number" "I", Cond.methodLink RX6 123 yX1_costOfPair]
def wsX6_cost : List Cond := .code yX6_cost cX6_cost 3 (some .int) :: ((wsX6_cost_r1 ++ wsX6_cost_r2) ++ wsX60 ++ wsX10 ++ wsX00 ++ wsX30)
def wsX6_row : List Cond := .code yX6_row cX6_row 3 (some .int) :: ([.fieldLink RX6 26 "FaultHeaps" "reports" "LFaultHeaps$Reports;", .methodLink RX6 127 yX3_hasFrame, .instanceMethod yX3_hasFrame, .selects RX3 yX3_hasFrame yX3_hasFrame, .initialized RX3, .code yX3_hasFrame cX3_hasFrame 3 (some .boolean), .fieldLink RX3 16 "FaultHeaps$Reports" "lengths" "[I", .methodLink RX3 34 yX3_has, .instanceMethod yX3_has, .selects RX3 yX3_has yX3_has, .code yX3_has cX3_has 2 (some .boolean), .fieldLink RX3 30 "FaultHeaps$Reports" "number" "I", .methodLink RX6 130 yX3_frameAt, .instanceMethod yX3_frameAt, .selects RX3 yX3_frameAt yX3_frameAt, .code yX3_frameAt cX3_frameAt 3 (some .int), .fieldLink RX3 11 "FaultHeaps$Reports" "rows" "[[I"] ++ wsX60 ++ wsX30)
def wsX6_common : List Cond := .code yX6_common cX6_common 2 (some .int) :: ([.fieldLink RX6 26 "FaultHeaps" "reports" "LFaultHeaps$Reports;", .methodLink RX6 133 yX3_isCommon, .instanceMethod yX3_isCommon, .selects RX3 yX3_isCommon yX3_isCommon, .initialized RX3, .code yX3_isCommon cX3_isCommon 2 (some .boolean), .fieldLink RX3 30 "FaultHeaps$Reports" "number" "I", .fieldLink RX3 26 "FaultHeaps$Reports" "holders" "[J", .methodLink RX3 48 yJ13_bitCount_95d88, .static yJ13_bitCount_95d88, .initialized RJ13, .code yJ13_bitCount_95d88 cJ13_bitCount_95d88 2 (some .int), .constantLong RJ13 314 (6148914691236517205), .constantLong RJ13 316 (3689348814741910323), .constantLong RJ13 318 (1085102592571150095)] ++ wsX60 ++ wsX30)
def wsX6_sign_r1 : List Cond := [Cond.fieldLink RX6 26 "FaultHeaps" "reports" "LFaultHeaps$Reports;", Cond.fieldLink RX6 47 "FaultHeaps" "marks" "LFaultHeaps$Marks;", Cond.fieldLink RX6 40 "FaultHeaps" "heaps" "LFaultHeaps$Heaps;", Cond.methodLink RX6 111 yX3_has, Cond.instanceMethod yX3_has, Cond.selects RX3 yX3_has yX3_has, Cond.initialized RX3, Cond.code yX3_has cX3_has 2 (some .boolean), Cond.fieldLink RX3 30 "FaultHeaps$Reports" "number" "I", Cond.methodLink RX6 136 yX1_setBeside, Cond.instanceMethod yX1_setBeside, Cond.selects RX1 yX1_setBeside yX1_setBeside, Cond.initialized RX1, Cond.code yX1_setBeside cX1_setBeside 5 (some .long), Cond.fieldLink RX1 35 "FaultHeaps$Heaps" "reportsNumber" "I", Cond.methodLink RX1 60 yX1_areTogether, Cond.instanceMethod yX1_areTogether, Cond.selects RX1 yX1_areTogether yX1_areTogether, Cond.code yX1_areTogether cX1_areTogether 3 (some .boolean), Cond.fieldLink RX1 16 "FaultHeaps$Heaps" "heapOf" "[I", Cond.methodLink RX6 140 yX2_tell, Cond.instanceMethod yX2_tell, Cond.selects RX2 yX2_tell yX2_tell, Cond.initialized RX2]
def wsX6_sign_r2 : List Cond := [Cond.code yX2_tell cX2_tell 6 (some .int), Cond.fieldLink RX2 26 "FaultHeaps$Marks" "latestLength" "I", Cond.methodLink RX2 29 yX3_howMany, Cond.instanceMethod yX3_howMany, Cond.selects RX3 yX3_howMany yX3_howMany, Cond.code yX3_howMany cX3_howMany 1 (some .int), Cond.methodLink RX2 35 yX2_gatherShared, Cond.instanceMethod yX2_gatherShared, Cond.selects RX2 yX2_gatherShared yX2_gatherShared, Cond.code yX2_gatherShared cX2_gatherShared 7 none, Cond.fieldLink RX2 19 "FaultHeaps$Marks" "sharedNumber" "I", Cond.fieldLink RX2 9 "FaultHeaps$Marks" "shared" "[I", Cond.fieldLink RX2 15 "FaultHeaps$Marks" "holders" "[J", Cond.methodLink RX2 49 yX3_holdersOf, Cond.instanceMethod yX3_holdersOf, Cond.selects RX3 yX3_holdersOf yX3_holdersOf, Cond.code yX3_holdersOf cX3_holdersOf 2 (some .long), Cond.fieldLink RX3 26 "FaultHeaps$Reports" "holders" "[J", Cond.methodLink RX2 39 yX2_findOne, Cond.instanceMethod yX2_findOne, Cond.selects RX2 yX2_findOne yX2_findOne, Cond.code yX2_findOne cX2_findOne 4 (some .boolean), Cond.fieldLink RX2 23 "FaultHeaps$Marks" "latest" "[I", Cond.methodLink RX2 43 yX2_findTwo]
def wsX6_sign_r3 : List Cond := [Cond.instanceMethod yX2_findTwo, Cond.selects RX2 yX2_findTwo yX2_findTwo, Cond.code yX2_findTwo cX2_findTwo 5 (some .boolean), Cond.methodLink RX2 46 yX2_findThree, Cond.instanceMethod yX2_findThree, Cond.selects RX2 yX2_findThree yX2_findThree, Cond.code yX2_findThree cX2_findThree 6 (some .boolean)]
def wsX6_sign : List Cond := .code yX6_sign cX6_sign 2 (some .int) :: ((wsX6_sign_r1 ++ (wsX6_sign_r2 ++ wsX6_sign_r3)) ++ wsX60 ++ wsX30 ++ wsX10 ++ wsX20)
def wsX6_signed : List Cond := .code yX6_signed cX6_signed 2 (some .int) :: ([.fieldLink RX6 47 "FaultHeaps" "marks" "LFaultHeaps$Marks;", .methodLink RX6 144 yX2_latestAt, .instanceMethod yX2_latestAt, .selects RX2 yX2_latestAt yX2_latestAt, .initialized RX2, .code yX2_latestAt cX2_latestAt 2 (some .int), .fieldLink RX2 26 "FaultHeaps$Marks" "latestLength" "I", .fieldLink RX2 23 "FaultHeaps$Marks" "latest" "[I"] ++ wsX60 ++ wsX20)
def wsX6_fix : List Cond := .code yX6_fix cX6_fix 3 (some .boolean) :: ([.fieldLink RX6 26 "FaultHeaps" "reports" "LFaultHeaps$Reports;", .fieldLink RX6 19 "FaultHeaps" "versions" "LFaultHeaps$Versions;", .methodLink RX6 111 yX3_has, .instanceMethod yX3_has, .selects RX3 yX3_has yX3_has, .initialized RX3, .code yX3_has cX3_has 2 (some .boolean), .fieldLink RX3 30 "FaultHeaps$Reports" "number" "I", .methodLink RX6 62 yX5_has, .instanceMethod yX5_has, .selects RX5 yX5_has yX5_has, .initialized RX5, .code yX5_has cX5_has 2 (some .boolean), .fieldLink RX5 15 "FaultHeaps$Versions" "number" "I", .methodLink RX6 147 yX3_setFixedAt, .instanceMethod yX3_setFixedAt, .selects RX3 yX3_setFixedAt yX3_setFixedAt, .code yX3_setFixedAt cX3_setFixedAt 3 none, .fieldLink RX3 23 "FaultHeaps$Reports" "fixedIn" "[I"] ++ wsX60 ++ wsX30 ++ wsX50)
def wsX6_cameBack_r1 : List Cond := [Cond.fieldLink RX6 26 "FaultHeaps" "reports" "LFaultHeaps$Reports;", Cond.fieldLink RX6 40 "FaultHeaps" "heaps" "LFaultHeaps$Heaps;", Cond.fieldLink RX6 19 "FaultHeaps" "versions" "LFaultHeaps$Versions;", Cond.methodLink RX6 158 yX3_versionOf, Cond.instanceMethod yX3_versionOf, Cond.selects RX3 yX3_versionOf yX3_versionOf, Cond.initialized RX3, Cond.code yX3_versionOf cX3_versionOf 2 (some .int), Cond.fieldLink RX3 20 "FaultHeaps$Reports" "madeIn" "[I", Cond.methodLink RX6 178 yX3_howMany, Cond.instanceMethod yX3_howMany, Cond.selects RX3 yX3_howMany yX3_howMany, Cond.code yX3_howMany cX3_howMany 1 (some .int), Cond.fieldLink RX3 30 "FaultHeaps$Reports" "number" "I", Cond.methodLink RX6 164 yX3_fixedAt, Cond.instanceMethod yX3_fixedAt, Cond.selects RX3 yX3_fixedAt yX3_fixedAt, Cond.code yX3_fixedAt cX3_fixedAt 2 (some .int), Cond.fieldLink RX3 23 "FaultHeaps$Reports" "fixedIn" "[I", Cond.methodLink RX6 193 yX1_areTogether, Cond.instanceMethod yX1_areTogether, Cond.selects RX1 yX1_areTogether yX1_areTogether, Cond.initialized RX1, Cond.code yX1_areTogether cX1_areTogether 3 (some .boolean)]
def wsX6_cameBack_r2 : List Cond := [Cond.fieldLink RX1 16 "FaultHeaps$Heaps" "heapOf" "[I", Cond.methodLink RX6 175 yX5_isOrIsBehind, Cond.instanceMethod yX5_isOrIsBehind, Cond.selects RX5 yX5_isOrIsBehind yX5_isOrIsBehind, Cond.initialized RX5, Cond.code yX5_isOrIsBehind cX5_isOrIsBehind 3 (some .boolean), Cond.fieldLink RX5 9 "FaultHeaps$Versions" "lines" "[I"]
def wsX6_cameBack : List Cond := .code yX6_cameBack cX6_cameBack 5 (some .boolean) :: ((wsX6_cameBack_r1 ++ wsX6_cameBack_r2) ++ wsX60 ++ wsX30 ++ wsX10 ++ wsX50)
def wsX6_look_r1 : List Cond := [Cond.classLink RX6 151 "java/util/NoSuchElementException", Cond.initialized "java/util/NoSuchElementException", Cond.fieldLink RX6 26 "FaultHeaps" "reports" "LFaultHeaps$Reports;", Cond.fieldLink RX6 40 "FaultHeaps" "heaps" "LFaultHeaps$Heaps;", Cond.methodLink RX6 111 yX3_has, Cond.instanceMethod yX3_has, Cond.selects RX3 yX3_has yX3_has, Cond.initialized RX3, Cond.code yX3_has cX3_has 2 (some .boolean), Cond.fieldLink RX3 30 "FaultHeaps$Reports" "number" "I", Cond.methodLink RX6 158 yX3_versionOf, Cond.instanceMethod yX3_versionOf, Cond.selects RX3 yX3_versionOf yX3_versionOf, Cond.code yX3_versionOf cX3_versionOf 2 (some .int), Cond.fieldLink RX3 20 "FaultHeaps$Reports" "madeIn" "[I", Cond.methodLink RX6 161 yX3_lengthOf, Cond.instanceMethod yX3_lengthOf, Cond.selects RX3 yX3_lengthOf yX3_lengthOf, Cond.code yX3_lengthOf cX3_lengthOf 2 (some .int), Cond.fieldLink RX3 16 "FaultHeaps$Reports" "lengths" "[I", Cond.methodLink RX6 164 yX3_fixedAt, Cond.instanceMethod yX3_fixedAt, Cond.selects RX3 yX3_fixedAt yX3_fixedAt, Cond.code yX3_fixedAt cX3_fixedAt 2 (some .int)]
def wsX6_look_r2 : List Cond := [Cond.fieldLink RX3 23 "FaultHeaps$Reports" "fixedIn" "[I", Cond.methodLink RX6 167 yX6_cameBack, Cond.instanceMethod yX6_cameBack, Cond.selects RX6 yX6_cameBack yX6_cameBack, Cond.initialized RX6, Cond.code yX6_cameBack cX6_cameBack 5 (some .boolean), Cond.fieldLink RX6 19 "FaultHeaps" "versions" "LFaultHeaps$Versions;", Cond.methodLink RX6 178 yX3_howMany, Cond.instanceMethod yX3_howMany, Cond.selects RX3 yX3_howMany yX3_howMany, Cond.code yX3_howMany cX3_howMany 1 (some .int), Cond.methodLink RX6 193 yX1_areTogether, Cond.instanceMethod yX1_areTogether, Cond.selects RX1 yX1_areTogether yX1_areTogether, Cond.initialized RX1, Cond.code yX1_areTogether cX1_areTogether 3 (some .boolean), Cond.fieldLink RX1 16 "FaultHeaps$Heaps" "heapOf" "[I", Cond.methodLink RX6 175 yX5_isOrIsBehind, Cond.instanceMethod yX5_isOrIsBehind, Cond.selects RX5 yX5_isOrIsBehind yX5_isOrIsBehind, Cond.initialized RX5, Cond.code yX5_isOrIsBehind cX5_isOrIsBehind 3 (some .boolean), Cond.fieldLink RX5 9 "FaultHeaps$Versions" "lines" "[I", Cond.methodLink RX6 170 yX1_sizeBeside]
def wsX6_look_r3 : List Cond := [Cond.instanceMethod yX1_sizeBeside, Cond.selects RX1 yX1_sizeBeside yX1_sizeBeside, Cond.code yX1_sizeBeside cX1_sizeBeside 2 (some .int), Cond.fieldLink RX1 23 "FaultHeaps$Heaps" "sizes" "[I"]
def wsX6_look : List Cond := .code yX6_look cX6_look 3 (some .int) :: ((wsX6_look_r1 ++ (wsX6_look_r2 ++ wsX6_look_r3)) ++ wsX60 ++ wsX30 ++ wsX10 ++ wsX50 ++ (vx_atS RX6 155 "java/util/NoSuchElementException" ["java/lang/RuntimeException", "java/lang/Exception"]).filter goodWord)
def wsX6_behind : List Cond := .code yX6_behind cX6_behind 3 (some .int) :: ([.fieldLink RX6 19 "FaultHeaps" "versions" "LFaultHeaps$Versions;", .methodLink RX6 62 yX5_has, .instanceMethod yX5_has, .selects RX5 yX5_has yX5_has, .initialized RX5, .code yX5_has cX5_has 2 (some .boolean), .fieldLink RX5 15 "FaultHeaps$Versions" "number" "I", .methodLink RX6 175 yX5_isOrIsBehind, .instanceMethod yX5_isOrIsBehind, .selects RX5 yX5_isOrIsBehind yX5_isOrIsBehind, .code yX5_isOrIsBehind cX5_isOrIsBehind 3 (some .boolean), .fieldLink RX5 9 "FaultHeaps$Versions" "lines" "[I"] ++ wsX60 ++ wsX50)
def wsX6_howManyCameBack_r1 : List Cond := [Cond.fieldLink RX6 26 "FaultHeaps" "reports" "LFaultHeaps$Reports;", Cond.methodLink RX6 178 yX3_howMany, Cond.instanceMethod yX3_howMany, Cond.selects RX3 yX3_howMany yX3_howMany, Cond.initialized RX3, Cond.code yX3_howMany cX3_howMany 1 (some .int), Cond.fieldLink RX3 30 "FaultHeaps$Reports" "number" "I", Cond.methodLink RX6 167 yX6_cameBack, Cond.instanceMethod yX6_cameBack, Cond.selects RX6 yX6_cameBack yX6_cameBack, Cond.initialized RX6, Cond.code yX6_cameBack cX6_cameBack 5 (some .boolean), Cond.fieldLink RX6 40 "FaultHeaps" "heaps" "LFaultHeaps$Heaps;", Cond.fieldLink RX6 19 "FaultHeaps" "versions" "LFaultHeaps$Versions;", Cond.methodLink RX6 158 yX3_versionOf, Cond.instanceMethod yX3_versionOf, Cond.selects RX3 yX3_versionOf yX3_versionOf, Cond.code yX3_versionOf cX3_versionOf 2 (some .int), Cond.fieldLink RX3 20 "FaultHeaps$Reports" "madeIn" "[I", Cond.methodLink RX6 164 yX3_fixedAt, Cond.instanceMethod yX3_fixedAt, Cond.selects RX3 yX3_fixedAt yX3_fixedAt, Cond.code yX3_fixedAt cX3_fixedAt 2 (some .int), Cond.fieldLink RX3 23 "FaultHeaps$Reports" "fixedIn" "[I"]
def wsX6_howManyCameBack_r2 : List Cond := [Cond.methodLink RX6 193 yX1_areTogether, Cond.instanceMethod yX1_areTogether, Cond.selects RX1 yX1_areTogether yX1_areTogether, Cond.initialized RX1, Cond.code yX1_areTogether cX1_areTogether 3 (some .boolean), Cond.fieldLink RX1 16 "FaultHeaps$Heaps" "heapOf" "[I", Cond.methodLink RX6 175 yX5_isOrIsBehind, Cond.instanceMethod yX5_isOrIsBehind, Cond.selects RX5 yX5_isOrIsBehind yX5_isOrIsBehind, Cond.initialized RX5, Cond.code yX5_isOrIsBehind cX5_isOrIsBehind 3 (some .boolean), Cond.fieldLink RX5 9 "FaultHeaps$Versions" "lines" "[I"]
def wsX6_howManyCameBack : List Cond := .code yX6_howManyCameBack cX6_howManyCameBack 3 (some .int) :: ((wsX6_howManyCameBack_r1 ++ wsX6_howManyCameBack_r2) ++ wsX60 ++ wsX30 ++ wsX10 ++ wsX50)
def wsX6_count_r1 : List Cond := [Cond.fieldLink RX6 26 "FaultHeaps" "reports" "LFaultHeaps$Reports;", Cond.fieldLink RX6 40 "FaultHeaps" "heaps" "LFaultHeaps$Heaps;", Cond.fieldLink RX6 19 "FaultHeaps" "versions" "LFaultHeaps$Versions;", Cond.fieldLink RX6 10 "FaultHeaps" "told" "LFaultHeaps$ToldRow;", Cond.methodLink RX6 178 yX3_howMany, Cond.instanceMethod yX3_howMany, Cond.selects RX3 yX3_howMany yX3_howMany, Cond.initialized RX3, Cond.code yX3_howMany cX3_howMany 1 (some .int), Cond.fieldLink RX3 30 "FaultHeaps$Reports" "number" "I", Cond.methodLink RX6 107 yX1_howMany, Cond.instanceMethod yX1_howMany, Cond.selects RX1 yX1_howMany yX1_howMany, Cond.initialized RX1, Cond.code yX1_howMany cX1_howMany 1 (some .int), Cond.fieldLink RX1 39 "FaultHeaps$Heaps" "heapsNumber" "I", Cond.methodLink RX6 179 yX5_howMany, Cond.instanceMethod yX5_howMany, Cond.selects RX5 yX5_howMany yX5_howMany, Cond.initialized RX5, Cond.code yX5_howMany cX5_howMany 1 (some .int), Cond.fieldLink RX5 15 "FaultHeaps$Versions" "number" "I", Cond.methodLink RX6 180 yX1_getT, Cond.instanceMethod yX1_getT]
def wsX6_count_r2 : List Cond := [Cond.selects RX1 yX1_getT yX1_getT, Cond.code yX1_getT cX1_getT 1 (some .int), Cond.fieldLink RX1 42 "FaultHeaps$Heaps" "limit" "I", Cond.methodLink RX6 183 yX4_howMany, Cond.instanceMethod yX4_howMany, Cond.selects RX4 yX4_howMany yX4_howMany, Cond.initialized RX4, Cond.code yX4_howMany cX4_howMany 1 (some .int), Cond.fieldLink RX4 15 "FaultHeaps$ToldRow" "length" "I", Cond.methodLink RX6 184 yX3_howManyCommon, Cond.instanceMethod yX3_howManyCommon, Cond.selects RX3 yX3_howManyCommon yX3_howManyCommon, Cond.code yX3_howManyCommon cX3_howManyCommon 3 (some .int), Cond.methodLink RX3 54 yX3_isCommon, Cond.instanceMethod yX3_isCommon, Cond.selects RX3 yX3_isCommon yX3_isCommon, Cond.code yX3_isCommon cX3_isCommon 2 (some .boolean), Cond.fieldLink RX3 26 "FaultHeaps$Reports" "holders" "[J", Cond.methodLink RX3 48 yJ13_bitCount_95d88, Cond.static yJ13_bitCount_95d88, Cond.initialized RJ13, Cond.code yJ13_bitCount_95d88 cJ13_bitCount_95d88 2 (some .int), Cond.constantLong RJ13 314 (6148914691236517205), Cond.constantLong RJ13 316 (3689348814741910323)]
def wsX6_count_r3 : List Cond := [Cond.constantLong RJ13 318 (1085102592571150095), Cond.methodLink RX6 187 yX1_changesDone, Cond.instanceMethod yX1_changesDone, Cond.selects RX1 yX1_changesDone yX1_changesDone, Cond.code yX1_changesDone cX1_changesDone 1 (some .int), Cond.fieldLink RX1 45 "FaultHeaps$Heaps" "changes" "I", Cond.methodLink RX6 190 yX6_howManyCameBack, Cond.instanceMethod yX6_howManyCameBack, Cond.selects RX6 yX6_howManyCameBack yX6_howManyCameBack, Cond.initialized RX6, Cond.code yX6_howManyCameBack cX6_howManyCameBack 3 (some .int), Cond.methodLink RX6 167 yX6_cameBack, Cond.instanceMethod yX6_cameBack, Cond.selects RX6 yX6_cameBack yX6_cameBack, Cond.code yX6_cameBack cX6_cameBack 5 (some .boolean), Cond.methodLink RX6 158 yX3_versionOf, Cond.instanceMethod yX3_versionOf, Cond.selects RX3 yX3_versionOf yX3_versionOf, Cond.code yX3_versionOf cX3_versionOf 2 (some .int), Cond.fieldLink RX3 20 "FaultHeaps$Reports" "madeIn" "[I", Cond.methodLink RX6 164 yX3_fixedAt, Cond.instanceMethod yX3_fixedAt, Cond.selects RX3 yX3_fixedAt yX3_fixedAt, Cond.code yX3_fixedAt cX3_fixedAt 2 (some .int)]
def wsX6_count_r4 : List Cond := [Cond.fieldLink RX3 23 "FaultHeaps$Reports" "fixedIn" "[I", Cond.methodLink RX6 193 yX1_areTogether, Cond.instanceMethod yX1_areTogether, Cond.selects RX1 yX1_areTogether yX1_areTogether, Cond.code yX1_areTogether cX1_areTogether 3 (some .boolean), Cond.fieldLink RX1 16 "FaultHeaps$Heaps" "heapOf" "[I", Cond.methodLink RX6 175 yX5_isOrIsBehind, Cond.instanceMethod yX5_isOrIsBehind, Cond.selects RX5 yX5_isOrIsBehind yX5_isOrIsBehind, Cond.code yX5_isOrIsBehind cX5_isOrIsBehind 3 (some .boolean), Cond.fieldLink RX5 9 "FaultHeaps$Versions" "lines" "[I"]
def wsX6_count : List Cond := .code yX6_count cX6_count 2 (some .int) :: ((wsX6_count_r1 ++ (wsX6_count_r2 ++ (wsX6_count_r3 ++ wsX6_count_r4))) ++ wsX60 ++ wsX30 ++ wsX10 ++ wsX50 ++ wsX40)
def wsX7_thrown : List Cond := .code yX7_thrown cX7_thrown 1 (some .int) :: ([.fieldLink RX7 1 "FaultHeapsModel" "thrown" "I"] ++ wsX70)
def wsX7_init : List Cond := .code yX7_init cX7_init 1 none :: ([.methodLink RX7 7 objectInit, .instanceMethod objectInit, .code objectInit ⟨#[0xb1]⟩ 1 none, .fieldLink RX7 13 "FaultHeapsModel" "versions" "I", .arrayClass .int, .fieldLink RX7 16 "FaultHeapsModel" "madeFrom" "[I", .fieldLink RX7 20 "FaultHeapsModel" "draft" "[I", .fieldLink RX7 23 "FaultHeapsModel" "rows" "[I", .fieldLink RX7 26 "FaultHeapsModel" "sizes" "[I", .fieldLink RX7 29 "FaultHeapsModel" "versionOf" "[I", .fieldLink RX7 32 "FaultHeapsModel" "fixedAt" "[I", .fieldLink RX7 35 "FaultHeapsModel" "heapOf" "[I", .fieldLink RX7 38 "FaultHeapsModel" "one" "[I", .fieldLink RX7 41 "FaultHeapsModel" "two" "[I", .fieldLink RX7 44 "FaultHeapsModel" "cost" "[I", .fieldLink RX7 47 "FaultHeapsModel" "distance" "[I", .arrayClass .boolean, .fieldLink RX7 50 "FaultHeapsModel" "common" "[Z", .fieldLink RX7 54 "FaultHeapsModel" "mark" "I", .fieldLink RX7 57 "FaultHeapsModel" "must" "[I", .fieldLink RX7 60 "FaultHeapsModel" "newName" "[I", .fieldLink RX7 63 "FaultHeapsModel" "sign" "[I", .fieldLink RX7 66 "FaultHeapsModel" "draftSign" "[I", .fieldLink RX7 69 "FaultHeapsModel" "share" "[I"] ++ wsX70)
def wsX7_isVersion : List Cond := .code yX7_isVersion cX7_isVersion 2 (some .boolean) :: ([.fieldLink RX7 13 "FaultHeapsModel" "versions" "I"] ++ wsX70)
def wsX7_version : List Cond := .code yX7_version cX7_version 2 (some .int) :: ([.fieldLink RX7 1 "FaultHeapsModel" "thrown" "I", .fieldLink RX7 13 "FaultHeapsModel" "versions" "I", .fieldLink RX7 16 "FaultHeapsModel" "madeFrom" "[I", .methodLink RX7 72 yX7_isVersion, .instanceMethod yX7_isVersion, .selects RX7 yX7_isVersion yX7_isVersion, .initialized RX7, .code yX7_isVersion cX7_isVersion 2 (some .boolean)] ++ wsX70)
def wsX7_isBehind : List Cond := .code yX7_isBehind cX7_isBehind 4 (some .boolean) :: ([.fieldLink RX7 16 "FaultHeapsModel" "madeFrom" "[I"] ++ wsX70)
def wsX7_behind : List Cond := .code yX7_behind cX7_behind 3 (some .int) :: ([.fieldLink RX7 1 "FaultHeapsModel" "thrown" "I", .methodLink RX7 72 yX7_isVersion, .instanceMethod yX7_isVersion, .selects RX7 yX7_isVersion yX7_isVersion, .initialized RX7, .code yX7_isVersion cX7_isVersion 2 (some .boolean), .fieldLink RX7 13 "FaultHeapsModel" "versions" "I", .methodLink RX7 76 yX7_isBehind, .instanceMethod yX7_isBehind, .selects RX7 yX7_isBehind yX7_isBehind, .code yX7_isBehind cX7_isBehind 4 (some .boolean), .fieldLink RX7 16 "FaultHeapsModel" "madeFrom" "[I"] ++ wsX70)
def wsX7_frame : List Cond := .code yX7_frame cX7_frame 2 (some .int) :: ([.fieldLink RX7 1 "FaultHeapsModel" "thrown" "I", .fieldLink RX7 80 "FaultHeapsModel" "told" "I", .fieldLink RX7 20 "FaultHeapsModel" "draft" "[I"] ++ wsX70)
def wsX7_isTwice : List Cond := .code yX7_isTwice cX7_isTwice 5 (some .boolean) :: ([.fieldLink RX7 80 "FaultHeapsModel" "told" "I", .fieldLink RX7 20 "FaultHeapsModel" "draft" "[I"] ++ wsX70)
def wsX7_folds : List Cond := .code yX7_folds cX7_folds 4 (some .boolean) :: ([.fieldLink RX7 80 "FaultHeapsModel" "told" "I", .fieldLink RX7 20 "FaultHeapsModel" "draft" "[I", .methodLink RX7 83 yX7_isTwice, .instanceMethod yX7_isTwice, .selects RX7 yX7_isTwice yX7_isTwice, .initialized RX7, .code yX7_isTwice cX7_isTwice 5 (some .boolean)] ++ wsX70)
def wsX7_stands : List Cond := .code yX7_stands cX7_stands 5 (some .boolean) :: ([.fieldLink RX7 26 "FaultHeapsModel" "sizes" "[I", .fieldLink RX7 23 "FaultHeapsModel" "rows" "[I"] ++ wsX70)
def wsX7_isCommon : List Cond := .code yX7_isCommon cX7_isCommon 4 (some .boolean) :: ([.fieldLink RX7 86 "FaultHeapsModel" "reports" "I", .methodLink RX7 96 yX7_stands, .instanceMethod yX7_stands, .selects RX7 yX7_stands yX7_stands, .initialized RX7, .code yX7_stands cX7_stands 5 (some .boolean), .fieldLink RX7 26 "FaultHeapsModel" "sizes" "[I", .fieldLink RX7 23 "FaultHeapsModel" "rows" "[I"] ++ wsX70)
def wsX7_findCommon : List Cond := .code yX7_findCommon cX7_findCommon 2 none :: ([.fieldLink RX7 50 "FaultHeapsModel" "common" "[Z", .methodLink RX7 99 yX7_isCommon, .instanceMethod yX7_isCommon, .selects RX7 yX7_isCommon yX7_isCommon, .initialized RX7, .code yX7_isCommon cX7_isCommon 4 (some .boolean), .fieldLink RX7 86 "FaultHeapsModel" "reports" "I", .methodLink RX7 96 yX7_stands, .instanceMethod yX7_stands, .selects RX7 yX7_stands yX7_stands, .code yX7_stands cX7_stands 5 (some .boolean), .fieldLink RX7 26 "FaultHeapsModel" "sizes" "[I", .fieldLink RX7 23 "FaultHeapsModel" "rows" "[I"] ++ wsX70)
def wsX7_withoutCommon : List Cond := .code yX7_withoutCommon cX7_withoutCommon 6 (some .int) :: ([.fieldLink RX7 26 "FaultHeapsModel" "sizes" "[I", .fieldLink RX7 23 "FaultHeapsModel" "rows" "[I", .fieldLink RX7 50 "FaultHeapsModel" "common" "[Z"] ++ wsX70)
def wsX7_alone : List Cond := .code yX7_alone cX7_alone 1 (some .int) :: ([])
def wsX7_least : List Cond := .code yX7_least cX7_least 2 (some .int) :: ([])
def wsX7_change : List Cond := .code yX7_change cX7_change 2 (some .int) :: ([])
def wsX7_turns : List Cond := .code yX7_turns cX7_turns 6 (some .int) :: ([.fieldLink RX7 38 "FaultHeapsModel" "one" "[I", .fieldLink RX7 106 "FaultHeapsModel" "oneMany" "I", .fieldLink RX7 41 "FaultHeapsModel" "two" "[I", .fieldLink RX7 109 "FaultHeapsModel" "twoMany" "I", .fieldLink RX7 44 "FaultHeapsModel" "cost" "[I", .methodLink RX7 102 yX7_withoutCommon, .instanceMethod yX7_withoutCommon, .selects RX7 yX7_withoutCommon yX7_withoutCommon, .initialized RX7, .code yX7_withoutCommon cX7_withoutCommon 6 (some .int), .fieldLink RX7 26 "FaultHeapsModel" "sizes" "[I", .fieldLink RX7 23 "FaultHeapsModel" "rows" "[I", .fieldLink RX7 50 "FaultHeapsModel" "common" "[Z", .methodLink RX7 112 yX7_alone, .static yX7_alone, .code yX7_alone cX7_alone 1 (some .int), .methodLink RX7 116 yX7_least, .static yX7_least, .code yX7_least cX7_least 2 (some .int), .methodLink RX7 120 yX7_change, .static yX7_change, .code yX7_change cX7_change 2 (some .int)] ++ wsX70)
def wsX7_findDistances_r1 : List Cond := [Cond.fieldLink RX7 86 "FaultHeapsModel" "reports" "I", Cond.fieldLink RX7 47 "FaultHeapsModel" "distance" "[I", Cond.methodLink RX7 123 yX7_findCommon, Cond.instanceMethod yX7_findCommon, Cond.selects RX7 yX7_findCommon yX7_findCommon, Cond.initialized RX7, Cond.code yX7_findCommon cX7_findCommon 2 none, Cond.fieldLink RX7 50 "FaultHeapsModel" "common" "[Z", Cond.methodLink RX7 99 yX7_isCommon, Cond.instanceMethod yX7_isCommon, Cond.selects RX7 yX7_isCommon yX7_isCommon, Cond.code yX7_isCommon cX7_isCommon 4 (some .boolean), Cond.methodLink RX7 96 yX7_stands, Cond.instanceMethod yX7_stands, Cond.selects RX7 yX7_stands yX7_stands, Cond.code yX7_stands cX7_stands 5 (some .boolean), Cond.fieldLink RX7 26 "FaultHeapsModel" "sizes" "[I", Cond.fieldLink RX7 23 "FaultHeapsModel" "rows" "[I", Cond.methodLink RX7 126 yX7_turns, Cond.instanceMethod yX7_turns, Cond.selects RX7 yX7_turns yX7_turns, Cond.code yX7_turns cX7_turns 6 (some .int), Cond.fieldLink RX7 38 "FaultHeapsModel" "one" "[I", Cond.fieldLink RX7 106 "FaultHeapsModel" "oneMany" "I"]
def wsX7_findDistances_r2 : List Cond := [Cond.fieldLink RX7 41 "FaultHeapsModel" "two" "[I", Cond.fieldLink RX7 109 "FaultHeapsModel" "twoMany" "I", Cond.fieldLink RX7 44 "FaultHeapsModel" "cost" "[I", Cond.methodLink RX7 102 yX7_withoutCommon, Cond.instanceMethod yX7_withoutCommon, Cond.selects RX7 yX7_withoutCommon yX7_withoutCommon, Cond.code yX7_withoutCommon cX7_withoutCommon 6 (some .int), Cond.methodLink RX7 112 yX7_alone, Cond.static yX7_alone, Cond.code yX7_alone cX7_alone 1 (some .int), Cond.methodLink RX7 116 yX7_least, Cond.static yX7_least, Cond.code yX7_least cX7_least 2 (some .int), Cond.methodLink RX7 120 yX7_change, Cond.static yX7_change, Cond.code yX7_change cX7_change 2 (some .int)]
def wsX7_findDistances : List Cond := .code yX7_findDistances cX7_findDistances 3 none :: ((wsX7_findDistances_r1 ++ wsX7_findDistances_r2) ++ wsX70)
def wsX7_pairCost : List Cond := .code yX7_pairCost cX7_pairCost 6 (some .int) :: ([.fieldLink RX7 47 "FaultHeapsModel" "distance" "[I", .fieldLink RX7 57 "FaultHeapsModel" "must" "[I", .fieldLink RX7 54 "FaultHeapsModel" "mark" "I"] ++ wsX70)
def wsX7_gain : List Cond := .code yX7_gain cX7_gain 3 (some .int) :: ([.methodLink RX7 129 yX7_pairCost, .instanceMethod yX7_pairCost, .selects RX7 yX7_pairCost yX7_pairCost, .initialized RX7, .code yX7_pairCost cX7_pairCost 6 (some .int), .fieldLink RX7 47 "FaultHeapsModel" "distance" "[I", .fieldLink RX7 57 "FaultHeapsModel" "must" "[I", .fieldLink RX7 54 "FaultHeapsModel" "mark" "I"] ++ wsX70)
def wsX7_moved : List Cond := .code yX7_moved cX7_moved 5 (some .int) :: ([.fieldLink RX7 86 "FaultHeapsModel" "reports" "I", .fieldLink RX7 35 "FaultHeapsModel" "heapOf" "[I", .methodLink RX7 133 yX7_gain, .instanceMethod yX7_gain, .selects RX7 yX7_gain yX7_gain, .initialized RX7, .code yX7_gain cX7_gain 3 (some .int), .methodLink RX7 129 yX7_pairCost, .instanceMethod yX7_pairCost, .selects RX7 yX7_pairCost yX7_pairCost, .code yX7_pairCost cX7_pairCost 6 (some .int), .fieldLink RX7 47 "FaultHeapsModel" "distance" "[I", .fieldLink RX7 57 "FaultHeapsModel" "must" "[I", .fieldLink RX7 54 "FaultHeapsModel" "mark" "I"] ++ wsX70)
def wsX7_asks : List Cond := .code yX7_asks cX7_asks 5 none :: ([.fieldLink RX7 136 "FaultHeapsModel" "bestBy" "I", .fieldLink RX7 139 "FaultHeapsModel" "bestWho" "I", .fieldLink RX7 142 "FaultHeapsModel" "bestTo" "I", .fieldLink RX7 145 "FaultHeapsModel" "bestMelts" "Z"] ++ wsX70)
def wsX7_inHeap : List Cond := .code yX7_inHeap cX7_inHeap 4 (some .int) :: ([.fieldLink RX7 86 "FaultHeapsModel" "reports" "I", .fieldLink RX7 35 "FaultHeapsModel" "heapOf" "[I"] ++ wsX70)
def wsX7_melted : List Cond := .code yX7_melted cX7_melted 6 (some .int) :: ([.fieldLink RX7 86 "FaultHeapsModel" "reports" "I", .fieldLink RX7 35 "FaultHeapsModel" "heapOf" "[I", .methodLink RX7 133 yX7_gain, .instanceMethod yX7_gain, .selects RX7 yX7_gain yX7_gain, .initialized RX7, .code yX7_gain cX7_gain 3 (some .int), .methodLink RX7 129 yX7_pairCost, .instanceMethod yX7_pairCost, .selects RX7 yX7_pairCost yX7_pairCost, .code yX7_pairCost cX7_pairCost 6 (some .int), .fieldLink RX7 47 "FaultHeapsModel" "distance" "[I", .fieldLink RX7 57 "FaultHeapsModel" "must" "[I", .fieldLink RX7 54 "FaultHeapsModel" "mark" "I"] ++ wsX70)
def wsX7_findBest_r1 : List Cond := [Cond.fieldLink RX7 136 "FaultHeapsModel" "bestBy" "I", Cond.fieldLink RX7 86 "FaultHeapsModel" "reports" "I", Cond.fieldLink RX7 35 "FaultHeapsModel" "heapOf" "[I", Cond.methodLink RX7 149 yX7_moved, Cond.instanceMethod yX7_moved, Cond.selects RX7 yX7_moved yX7_moved, Cond.initialized RX7, Cond.code yX7_moved cX7_moved 5 (some .int), Cond.methodLink RX7 133 yX7_gain, Cond.instanceMethod yX7_gain, Cond.selects RX7 yX7_gain yX7_gain, Cond.code yX7_gain cX7_gain 3 (some .int), Cond.methodLink RX7 129 yX7_pairCost, Cond.instanceMethod yX7_pairCost, Cond.selects RX7 yX7_pairCost yX7_pairCost, Cond.code yX7_pairCost cX7_pairCost 6 (some .int), Cond.fieldLink RX7 47 "FaultHeapsModel" "distance" "[I", Cond.fieldLink RX7 57 "FaultHeapsModel" "must" "[I", Cond.fieldLink RX7 54 "FaultHeapsModel" "mark" "I", Cond.methodLink RX7 152 yX7_asks, Cond.instanceMethod yX7_asks, Cond.selects RX7 yX7_asks yX7_asks, Cond.code yX7_asks cX7_asks 5 none, Cond.fieldLink RX7 139 "FaultHeapsModel" "bestWho" "I"]
def wsX7_findBest_r2 : List Cond := [Cond.fieldLink RX7 142 "FaultHeapsModel" "bestTo" "I", Cond.fieldLink RX7 145 "FaultHeapsModel" "bestMelts" "Z", Cond.methodLink RX7 156 yX7_inHeap, Cond.instanceMethod yX7_inHeap, Cond.selects RX7 yX7_inHeap yX7_inHeap, Cond.code yX7_inHeap cX7_inHeap 4 (some .int), Cond.methodLink RX7 159 yX7_melted, Cond.instanceMethod yX7_melted, Cond.selects RX7 yX7_melted yX7_melted, Cond.code yX7_melted cX7_melted 6 (some .int)]
def wsX7_findBest : List Cond := .code yX7_findBest cX7_findBest 3 none :: ((wsX7_findBest_r1 ++ wsX7_findBest_r2) ++ wsX70)
def wsX7_names : List Cond := .code yX7_names cX7_names 3 none :: ([.fieldLink RX7 86 "FaultHeapsModel" "reports" "I", .fieldLink RX7 35 "FaultHeapsModel" "heapOf" "[I", .fieldLink RX7 60 "FaultHeapsModel" "newName" "[I"] ++ wsX70)
def wsX7_settles_r1 : List Cond := [Cond.fieldLink RX7 136 "FaultHeapsModel" "bestBy" "I", Cond.fieldLink RX7 86 "FaultHeapsModel" "reports" "I", Cond.fieldLink RX7 145 "FaultHeapsModel" "bestMelts" "Z", Cond.fieldLink RX7 35 "FaultHeapsModel" "heapOf" "[I", Cond.fieldLink RX7 142 "FaultHeapsModel" "bestTo" "I", Cond.fieldLink RX7 139 "FaultHeapsModel" "bestWho" "I", Cond.fieldLink RX7 171 "FaultHeapsModel" "changes" "I", Cond.methodLink RX7 162 yX7_findDistances, Cond.instanceMethod yX7_findDistances, Cond.selects RX7 yX7_findDistances yX7_findDistances, Cond.initialized RX7, Cond.code yX7_findDistances cX7_findDistances 3 none, Cond.fieldLink RX7 47 "FaultHeapsModel" "distance" "[I", Cond.methodLink RX7 123 yX7_findCommon, Cond.instanceMethod yX7_findCommon, Cond.selects RX7 yX7_findCommon yX7_findCommon, Cond.code yX7_findCommon cX7_findCommon 2 none, Cond.fieldLink RX7 50 "FaultHeapsModel" "common" "[Z", Cond.methodLink RX7 99 yX7_isCommon, Cond.instanceMethod yX7_isCommon, Cond.selects RX7 yX7_isCommon yX7_isCommon, Cond.code yX7_isCommon cX7_isCommon 4 (some .boolean), Cond.methodLink RX7 96 yX7_stands, Cond.instanceMethod yX7_stands]
def wsX7_settles_r2 : List Cond := [Cond.selects RX7 yX7_stands yX7_stands, Cond.code yX7_stands cX7_stands 5 (some .boolean), Cond.fieldLink RX7 26 "FaultHeapsModel" "sizes" "[I", Cond.fieldLink RX7 23 "FaultHeapsModel" "rows" "[I", Cond.methodLink RX7 126 yX7_turns, Cond.instanceMethod yX7_turns, Cond.selects RX7 yX7_turns yX7_turns, Cond.code yX7_turns cX7_turns 6 (some .int), Cond.fieldLink RX7 38 "FaultHeapsModel" "one" "[I", Cond.fieldLink RX7 106 "FaultHeapsModel" "oneMany" "I", Cond.fieldLink RX7 41 "FaultHeapsModel" "two" "[I", Cond.fieldLink RX7 109 "FaultHeapsModel" "twoMany" "I", Cond.fieldLink RX7 44 "FaultHeapsModel" "cost" "[I", Cond.methodLink RX7 102 yX7_withoutCommon, Cond.instanceMethod yX7_withoutCommon, Cond.selects RX7 yX7_withoutCommon yX7_withoutCommon, Cond.code yX7_withoutCommon cX7_withoutCommon 6 (some .int), Cond.methodLink RX7 112 yX7_alone, Cond.static yX7_alone, Cond.code yX7_alone cX7_alone 1 (some .int), Cond.methodLink RX7 116 yX7_least, Cond.static yX7_least, Cond.code yX7_least cX7_least 2 (some .int), Cond.methodLink RX7 120 yX7_change]
def wsX7_settles_r3 : List Cond := [Cond.static yX7_change, Cond.code yX7_change cX7_change 2 (some .int), Cond.methodLink RX7 165 yX7_findBest, Cond.instanceMethod yX7_findBest, Cond.selects RX7 yX7_findBest yX7_findBest, Cond.code yX7_findBest cX7_findBest 3 none, Cond.methodLink RX7 149 yX7_moved, Cond.instanceMethod yX7_moved, Cond.selects RX7 yX7_moved yX7_moved, Cond.code yX7_moved cX7_moved 5 (some .int), Cond.methodLink RX7 133 yX7_gain, Cond.instanceMethod yX7_gain, Cond.selects RX7 yX7_gain yX7_gain, Cond.code yX7_gain cX7_gain 3 (some .int), Cond.methodLink RX7 129 yX7_pairCost, Cond.instanceMethod yX7_pairCost, Cond.selects RX7 yX7_pairCost yX7_pairCost, Cond.code yX7_pairCost cX7_pairCost 6 (some .int), Cond.fieldLink RX7 57 "FaultHeapsModel" "must" "[I", Cond.fieldLink RX7 54 "FaultHeapsModel" "mark" "I", Cond.methodLink RX7 152 yX7_asks, Cond.instanceMethod yX7_asks, Cond.selects RX7 yX7_asks yX7_asks, Cond.code yX7_asks cX7_asks 5 none]
def wsX7_settles_r4 : List Cond := [Cond.methodLink RX7 156 yX7_inHeap, Cond.instanceMethod yX7_inHeap, Cond.selects RX7 yX7_inHeap yX7_inHeap, Cond.code yX7_inHeap cX7_inHeap 4 (some .int), Cond.methodLink RX7 159 yX7_melted, Cond.instanceMethod yX7_melted, Cond.selects RX7 yX7_melted yX7_melted, Cond.code yX7_melted cX7_melted 6 (some .int), Cond.methodLink RX7 168 yX7_names, Cond.instanceMethod yX7_names, Cond.selects RX7 yX7_names yX7_names, Cond.code yX7_names cX7_names 3 none, Cond.fieldLink RX7 60 "FaultHeapsModel" "newName" "[I"]
def wsX7_settles : List Cond := .code yX7_settles cX7_settles 2 none :: ((wsX7_settles_r1 ++ (wsX7_settles_r2 ++ (wsX7_settles_r3 ++ wsX7_settles_r4))) ++ wsX70)
def wsX7_report_r1 : List Cond := [Cond.fieldLink RX7 1 "FaultHeapsModel" "thrown" "I", Cond.fieldLink RX7 80 "FaultHeapsModel" "told" "I", Cond.fieldLink RX7 86 "FaultHeapsModel" "reports" "I", Cond.fieldLink RX7 23 "FaultHeapsModel" "rows" "[I", Cond.fieldLink RX7 20 "FaultHeapsModel" "draft" "[I", Cond.fieldLink RX7 26 "FaultHeapsModel" "sizes" "[I", Cond.fieldLink RX7 29 "FaultHeapsModel" "versionOf" "[I", Cond.fieldLink RX7 32 "FaultHeapsModel" "fixedAt" "[I", Cond.fieldLink RX7 35 "FaultHeapsModel" "heapOf" "[I", Cond.methodLink RX7 72 yX7_isVersion, Cond.instanceMethod yX7_isVersion, Cond.selects RX7 yX7_isVersion yX7_isVersion, Cond.initialized RX7, Cond.code yX7_isVersion cX7_isVersion 2 (some .boolean), Cond.fieldLink RX7 13 "FaultHeapsModel" "versions" "I", Cond.methodLink RX7 89 yX7_folds, Cond.instanceMethod yX7_folds, Cond.selects RX7 yX7_folds yX7_folds, Cond.code yX7_folds cX7_folds 4 (some .boolean), Cond.methodLink RX7 83 yX7_isTwice, Cond.instanceMethod yX7_isTwice, Cond.selects RX7 yX7_isTwice yX7_isTwice, Cond.code yX7_isTwice cX7_isTwice 5 (some .boolean), Cond.methodLink RX7 93 yX7_settles]
def wsX7_report_r2 : List Cond := [Cond.instanceMethod yX7_settles, Cond.selects RX7 yX7_settles yX7_settles, Cond.code yX7_settles cX7_settles 2 none, Cond.fieldLink RX7 136 "FaultHeapsModel" "bestBy" "I", Cond.fieldLink RX7 145 "FaultHeapsModel" "bestMelts" "Z", Cond.fieldLink RX7 142 "FaultHeapsModel" "bestTo" "I", Cond.fieldLink RX7 139 "FaultHeapsModel" "bestWho" "I", Cond.fieldLink RX7 171 "FaultHeapsModel" "changes" "I", Cond.methodLink RX7 162 yX7_findDistances, Cond.instanceMethod yX7_findDistances, Cond.selects RX7 yX7_findDistances yX7_findDistances, Cond.code yX7_findDistances cX7_findDistances 3 none, Cond.fieldLink RX7 47 "FaultHeapsModel" "distance" "[I", Cond.methodLink RX7 123 yX7_findCommon, Cond.instanceMethod yX7_findCommon, Cond.selects RX7 yX7_findCommon yX7_findCommon, Cond.code yX7_findCommon cX7_findCommon 2 none, Cond.fieldLink RX7 50 "FaultHeapsModel" "common" "[Z", Cond.methodLink RX7 99 yX7_isCommon, Cond.instanceMethod yX7_isCommon, Cond.selects RX7 yX7_isCommon yX7_isCommon, Cond.code yX7_isCommon cX7_isCommon 4 (some .boolean), Cond.methodLink RX7 96 yX7_stands, Cond.instanceMethod yX7_stands]
def wsX7_report_r3 : List Cond := [Cond.selects RX7 yX7_stands yX7_stands, Cond.code yX7_stands cX7_stands 5 (some .boolean), Cond.methodLink RX7 126 yX7_turns, Cond.instanceMethod yX7_turns, Cond.selects RX7 yX7_turns yX7_turns, Cond.code yX7_turns cX7_turns 6 (some .int), Cond.fieldLink RX7 38 "FaultHeapsModel" "one" "[I", Cond.fieldLink RX7 106 "FaultHeapsModel" "oneMany" "I", Cond.fieldLink RX7 41 "FaultHeapsModel" "two" "[I", Cond.fieldLink RX7 109 "FaultHeapsModel" "twoMany" "I", Cond.fieldLink RX7 44 "FaultHeapsModel" "cost" "[I", Cond.methodLink RX7 102 yX7_withoutCommon, Cond.instanceMethod yX7_withoutCommon, Cond.selects RX7 yX7_withoutCommon yX7_withoutCommon, Cond.code yX7_withoutCommon cX7_withoutCommon 6 (some .int), Cond.methodLink RX7 112 yX7_alone, Cond.static yX7_alone, Cond.code yX7_alone cX7_alone 1 (some .int), Cond.methodLink RX7 116 yX7_least, Cond.static yX7_least, Cond.code yX7_least cX7_least 2 (some .int), Cond.methodLink RX7 120 yX7_change, Cond.static yX7_change, Cond.code yX7_change cX7_change 2 (some .int)]
def wsX7_report_r4 : List Cond := [Cond.methodLink RX7 165 yX7_findBest, Cond.instanceMethod yX7_findBest, Cond.selects RX7 yX7_findBest yX7_findBest, Cond.code yX7_findBest cX7_findBest 3 none, Cond.methodLink RX7 149 yX7_moved, Cond.instanceMethod yX7_moved, Cond.selects RX7 yX7_moved yX7_moved, Cond.code yX7_moved cX7_moved 5 (some .int), Cond.methodLink RX7 133 yX7_gain, Cond.instanceMethod yX7_gain, Cond.selects RX7 yX7_gain yX7_gain, Cond.code yX7_gain cX7_gain 3 (some .int), Cond.methodLink RX7 129 yX7_pairCost, Cond.instanceMethod yX7_pairCost, Cond.selects RX7 yX7_pairCost yX7_pairCost, Cond.code yX7_pairCost cX7_pairCost 6 (some .int), Cond.fieldLink RX7 57 "FaultHeapsModel" "must" "[I", Cond.fieldLink RX7 54 "FaultHeapsModel" "mark" "I", Cond.methodLink RX7 152 yX7_asks, Cond.instanceMethod yX7_asks, Cond.selects RX7 yX7_asks yX7_asks, Cond.code yX7_asks cX7_asks 5 none, Cond.methodLink RX7 156 yX7_inHeap, Cond.instanceMethod yX7_inHeap]
def wsX7_report_r5 : List Cond := [Cond.selects RX7 yX7_inHeap yX7_inHeap, Cond.code yX7_inHeap cX7_inHeap 4 (some .int), Cond.methodLink RX7 159 yX7_melted, Cond.instanceMethod yX7_melted, Cond.selects RX7 yX7_melted yX7_melted, Cond.code yX7_melted cX7_melted 6 (some .int), Cond.methodLink RX7 168 yX7_names, Cond.instanceMethod yX7_names, Cond.selects RX7 yX7_names yX7_names, Cond.code yX7_names cX7_names 3 none, Cond.fieldLink RX7 60 "FaultHeapsModel" "newName" "[I"]
def wsX7_report : List Cond := .code yX7_report cX7_report 4 (some .int) :: ((wsX7_report_r1 ++ (wsX7_report_r2 ++ (wsX7_report_r3 ++ (wsX7_report_r4 ++ wsX7_report_r5)))) ++ wsX70)
def wsX7_isReport : List Cond := .code yX7_isReport cX7_isReport 2 (some .boolean) :: ([.fieldLink RX7 86 "FaultHeapsModel" "reports" "I"] ++ wsX70)
def wsX7_heaps : List Cond := .code yX7_heaps cX7_heaps 3 (some .int) :: ([.fieldLink RX7 86 "FaultHeapsModel" "reports" "I", .fieldLink RX7 35 "FaultHeapsModel" "heapOf" "[I"] ++ wsX70)
def wsX7_resettle_r1 : List Cond := [Cond.fieldLink RX7 1 "FaultHeapsModel" "thrown" "I", Cond.fieldLink RX7 86 "FaultHeapsModel" "reports" "I", Cond.fieldLink RX7 35 "FaultHeapsModel" "heapOf" "[I", Cond.methodLink RX7 93 yX7_settles, Cond.instanceMethod yX7_settles, Cond.selects RX7 yX7_settles yX7_settles, Cond.initialized RX7, Cond.code yX7_settles cX7_settles 2 none, Cond.fieldLink RX7 136 "FaultHeapsModel" "bestBy" "I", Cond.fieldLink RX7 145 "FaultHeapsModel" "bestMelts" "Z", Cond.fieldLink RX7 142 "FaultHeapsModel" "bestTo" "I", Cond.fieldLink RX7 139 "FaultHeapsModel" "bestWho" "I", Cond.fieldLink RX7 171 "FaultHeapsModel" "changes" "I", Cond.methodLink RX7 162 yX7_findDistances, Cond.instanceMethod yX7_findDistances, Cond.selects RX7 yX7_findDistances yX7_findDistances, Cond.code yX7_findDistances cX7_findDistances 3 none, Cond.fieldLink RX7 47 "FaultHeapsModel" "distance" "[I", Cond.methodLink RX7 123 yX7_findCommon, Cond.instanceMethod yX7_findCommon, Cond.selects RX7 yX7_findCommon yX7_findCommon, Cond.code yX7_findCommon cX7_findCommon 2 none, Cond.fieldLink RX7 50 "FaultHeapsModel" "common" "[Z", Cond.methodLink RX7 99 yX7_isCommon]
def wsX7_resettle_r2 : List Cond := [Cond.instanceMethod yX7_isCommon, Cond.selects RX7 yX7_isCommon yX7_isCommon, Cond.code yX7_isCommon cX7_isCommon 4 (some .boolean), Cond.methodLink RX7 96 yX7_stands, Cond.instanceMethod yX7_stands, Cond.selects RX7 yX7_stands yX7_stands, Cond.code yX7_stands cX7_stands 5 (some .boolean), Cond.fieldLink RX7 26 "FaultHeapsModel" "sizes" "[I", Cond.fieldLink RX7 23 "FaultHeapsModel" "rows" "[I", Cond.methodLink RX7 126 yX7_turns, Cond.instanceMethod yX7_turns, Cond.selects RX7 yX7_turns yX7_turns, Cond.code yX7_turns cX7_turns 6 (some .int), Cond.fieldLink RX7 38 "FaultHeapsModel" "one" "[I", Cond.fieldLink RX7 106 "FaultHeapsModel" "oneMany" "I", Cond.fieldLink RX7 41 "FaultHeapsModel" "two" "[I", Cond.fieldLink RX7 109 "FaultHeapsModel" "twoMany" "I", Cond.fieldLink RX7 44 "FaultHeapsModel" "cost" "[I", Cond.methodLink RX7 102 yX7_withoutCommon, Cond.instanceMethod yX7_withoutCommon, Cond.selects RX7 yX7_withoutCommon yX7_withoutCommon, Cond.code yX7_withoutCommon cX7_withoutCommon 6 (some .int), Cond.methodLink RX7 112 yX7_alone, Cond.static yX7_alone]
def wsX7_resettle_r3 : List Cond := [Cond.code yX7_alone cX7_alone 1 (some .int), Cond.methodLink RX7 116 yX7_least, Cond.static yX7_least, Cond.code yX7_least cX7_least 2 (some .int), Cond.methodLink RX7 120 yX7_change, Cond.static yX7_change, Cond.code yX7_change cX7_change 2 (some .int), Cond.methodLink RX7 165 yX7_findBest, Cond.instanceMethod yX7_findBest, Cond.selects RX7 yX7_findBest yX7_findBest, Cond.code yX7_findBest cX7_findBest 3 none, Cond.methodLink RX7 149 yX7_moved, Cond.instanceMethod yX7_moved, Cond.selects RX7 yX7_moved yX7_moved, Cond.code yX7_moved cX7_moved 5 (some .int), Cond.methodLink RX7 133 yX7_gain, Cond.instanceMethod yX7_gain, Cond.selects RX7 yX7_gain yX7_gain, Cond.code yX7_gain cX7_gain 3 (some .int), Cond.methodLink RX7 129 yX7_pairCost, Cond.instanceMethod yX7_pairCost, Cond.selects RX7 yX7_pairCost yX7_pairCost, Cond.code yX7_pairCost cX7_pairCost 6 (some .int), Cond.fieldLink RX7 57 "FaultHeapsModel" "must" "[I"]
def wsX7_resettle_r4 : List Cond := [Cond.fieldLink RX7 54 "FaultHeapsModel" "mark" "I", Cond.methodLink RX7 152 yX7_asks, Cond.instanceMethod yX7_asks, Cond.selects RX7 yX7_asks yX7_asks, Cond.code yX7_asks cX7_asks 5 none, Cond.methodLink RX7 156 yX7_inHeap, Cond.instanceMethod yX7_inHeap, Cond.selects RX7 yX7_inHeap yX7_inHeap, Cond.code yX7_inHeap cX7_inHeap 4 (some .int), Cond.methodLink RX7 159 yX7_melted, Cond.instanceMethod yX7_melted, Cond.selects RX7 yX7_melted yX7_melted, Cond.code yX7_melted cX7_melted 6 (some .int), Cond.methodLink RX7 168 yX7_names, Cond.instanceMethod yX7_names, Cond.selects RX7 yX7_names yX7_names, Cond.code yX7_names cX7_names 3 none, Cond.fieldLink RX7 60 "FaultHeapsModel" "newName" "[I", Cond.methodLink RX7 174 yX7_heaps, Cond.instanceMethod yX7_heaps, Cond.selects RX7 yX7_heaps yX7_heaps, Cond.code yX7_heaps cX7_heaps 3 (some .int)]
def wsX7_resettle : List Cond := .code yX7_resettle cX7_resettle 2 (some .int) :: ((wsX7_resettle_r1 ++ (wsX7_resettle_r2 ++ (wsX7_resettle_r3 ++ wsX7_resettle_r4))) ++ wsX70)
def wsX7_areTwo : List Cond := .code yX7_areTwo cX7_areTwo 3 (some .boolean) :: ([.methodLink RX7 178 yX7_isReport, .instanceMethod yX7_isReport, .selects RX7 yX7_isReport yX7_isReport, .initialized RX7, .code yX7_isReport cX7_isReport 2 (some .boolean), .fieldLink RX7 86 "FaultHeapsModel" "reports" "I"] ++ wsX70)
def wsX7_tells_r1 : List Cond := [Cond.fieldLink RX7 57 "FaultHeapsModel" "must" "[I", Cond.methodLink RX7 93 yX7_settles, Cond.instanceMethod yX7_settles, Cond.selects RX7 yX7_settles yX7_settles, Cond.initialized RX7, Cond.code yX7_settles cX7_settles 2 none, Cond.fieldLink RX7 136 "FaultHeapsModel" "bestBy" "I", Cond.fieldLink RX7 86 "FaultHeapsModel" "reports" "I", Cond.fieldLink RX7 145 "FaultHeapsModel" "bestMelts" "Z", Cond.fieldLink RX7 35 "FaultHeapsModel" "heapOf" "[I", Cond.fieldLink RX7 142 "FaultHeapsModel" "bestTo" "I", Cond.fieldLink RX7 139 "FaultHeapsModel" "bestWho" "I", Cond.fieldLink RX7 171 "FaultHeapsModel" "changes" "I", Cond.methodLink RX7 162 yX7_findDistances, Cond.instanceMethod yX7_findDistances, Cond.selects RX7 yX7_findDistances yX7_findDistances, Cond.code yX7_findDistances cX7_findDistances 3 none, Cond.fieldLink RX7 47 "FaultHeapsModel" "distance" "[I", Cond.methodLink RX7 123 yX7_findCommon, Cond.instanceMethod yX7_findCommon, Cond.selects RX7 yX7_findCommon yX7_findCommon, Cond.code yX7_findCommon cX7_findCommon 2 none, Cond.fieldLink RX7 50 "FaultHeapsModel" "common" "[Z", Cond.methodLink RX7 99 yX7_isCommon]
def wsX7_tells_r2 : List Cond := [Cond.instanceMethod yX7_isCommon, Cond.selects RX7 yX7_isCommon yX7_isCommon, Cond.code yX7_isCommon cX7_isCommon 4 (some .boolean), Cond.methodLink RX7 96 yX7_stands, Cond.instanceMethod yX7_stands, Cond.selects RX7 yX7_stands yX7_stands, Cond.code yX7_stands cX7_stands 5 (some .boolean), Cond.fieldLink RX7 26 "FaultHeapsModel" "sizes" "[I", Cond.fieldLink RX7 23 "FaultHeapsModel" "rows" "[I", Cond.methodLink RX7 126 yX7_turns, Cond.instanceMethod yX7_turns, Cond.selects RX7 yX7_turns yX7_turns, Cond.code yX7_turns cX7_turns 6 (some .int), Cond.fieldLink RX7 38 "FaultHeapsModel" "one" "[I", Cond.fieldLink RX7 106 "FaultHeapsModel" "oneMany" "I", Cond.fieldLink RX7 41 "FaultHeapsModel" "two" "[I", Cond.fieldLink RX7 109 "FaultHeapsModel" "twoMany" "I", Cond.fieldLink RX7 44 "FaultHeapsModel" "cost" "[I", Cond.methodLink RX7 102 yX7_withoutCommon, Cond.instanceMethod yX7_withoutCommon, Cond.selects RX7 yX7_withoutCommon yX7_withoutCommon, Cond.code yX7_withoutCommon cX7_withoutCommon 6 (some .int), Cond.methodLink RX7 112 yX7_alone, Cond.static yX7_alone]
def wsX7_tells_r3 : List Cond := [Cond.code yX7_alone cX7_alone 1 (some .int), Cond.methodLink RX7 116 yX7_least, Cond.static yX7_least, Cond.code yX7_least cX7_least 2 (some .int), Cond.methodLink RX7 120 yX7_change, Cond.static yX7_change, Cond.code yX7_change cX7_change 2 (some .int), Cond.methodLink RX7 165 yX7_findBest, Cond.instanceMethod yX7_findBest, Cond.selects RX7 yX7_findBest yX7_findBest, Cond.code yX7_findBest cX7_findBest 3 none, Cond.methodLink RX7 149 yX7_moved, Cond.instanceMethod yX7_moved, Cond.selects RX7 yX7_moved yX7_moved, Cond.code yX7_moved cX7_moved 5 (some .int), Cond.methodLink RX7 133 yX7_gain, Cond.instanceMethod yX7_gain, Cond.selects RX7 yX7_gain yX7_gain, Cond.code yX7_gain cX7_gain 3 (some .int), Cond.methodLink RX7 129 yX7_pairCost, Cond.instanceMethod yX7_pairCost, Cond.selects RX7 yX7_pairCost yX7_pairCost, Cond.code yX7_pairCost cX7_pairCost 6 (some .int), Cond.fieldLink RX7 54 "FaultHeapsModel" "mark" "I"]
def wsX7_tells_r4 : List Cond := [Cond.methodLink RX7 152 yX7_asks, Cond.instanceMethod yX7_asks, Cond.selects RX7 yX7_asks yX7_asks, Cond.code yX7_asks cX7_asks 5 none, Cond.methodLink RX7 156 yX7_inHeap, Cond.instanceMethod yX7_inHeap, Cond.selects RX7 yX7_inHeap yX7_inHeap, Cond.code yX7_inHeap cX7_inHeap 4 (some .int), Cond.methodLink RX7 159 yX7_melted, Cond.instanceMethod yX7_melted, Cond.selects RX7 yX7_melted yX7_melted, Cond.code yX7_melted cX7_melted 6 (some .int), Cond.methodLink RX7 168 yX7_names, Cond.instanceMethod yX7_names, Cond.selects RX7 yX7_names yX7_names, Cond.code yX7_names cX7_names 3 none, Cond.fieldLink RX7 60 "FaultHeapsModel" "newName" "[I"]
def wsX7_tells : List Cond := .code yX7_tells cX7_tells 4 none :: ((wsX7_tells_r1 ++ (wsX7_tells_r2 ++ (wsX7_tells_r3 ++ wsX7_tells_r4))) ++ wsX70)
def wsX7_pair_r1 : List Cond := [Cond.fieldLink RX7 1 "FaultHeapsModel" "thrown" "I", Cond.methodLink RX7 181 yX7_areTwo, Cond.instanceMethod yX7_areTwo, Cond.selects RX7 yX7_areTwo yX7_areTwo, Cond.initialized RX7, Cond.code yX7_areTwo cX7_areTwo 3 (some .boolean), Cond.methodLink RX7 178 yX7_isReport, Cond.instanceMethod yX7_isReport, Cond.selects RX7 yX7_isReport yX7_isReport, Cond.code yX7_isReport cX7_isReport 2 (some .boolean), Cond.fieldLink RX7 86 "FaultHeapsModel" "reports" "I", Cond.methodLink RX7 184 yX7_tells, Cond.instanceMethod yX7_tells, Cond.selects RX7 yX7_tells yX7_tells, Cond.code yX7_tells cX7_tells 4 none, Cond.fieldLink RX7 57 "FaultHeapsModel" "must" "[I", Cond.methodLink RX7 93 yX7_settles, Cond.instanceMethod yX7_settles, Cond.selects RX7 yX7_settles yX7_settles, Cond.code yX7_settles cX7_settles 2 none, Cond.fieldLink RX7 136 "FaultHeapsModel" "bestBy" "I", Cond.fieldLink RX7 145 "FaultHeapsModel" "bestMelts" "Z", Cond.fieldLink RX7 35 "FaultHeapsModel" "heapOf" "[I", Cond.fieldLink RX7 142 "FaultHeapsModel" "bestTo" "I"]
def wsX7_pair_r2 : List Cond := [Cond.fieldLink RX7 139 "FaultHeapsModel" "bestWho" "I", Cond.fieldLink RX7 171 "FaultHeapsModel" "changes" "I", Cond.methodLink RX7 162 yX7_findDistances, Cond.instanceMethod yX7_findDistances, Cond.selects RX7 yX7_findDistances yX7_findDistances, Cond.code yX7_findDistances cX7_findDistances 3 none, Cond.fieldLink RX7 47 "FaultHeapsModel" "distance" "[I", Cond.methodLink RX7 123 yX7_findCommon, Cond.instanceMethod yX7_findCommon, Cond.selects RX7 yX7_findCommon yX7_findCommon, Cond.code yX7_findCommon cX7_findCommon 2 none, Cond.fieldLink RX7 50 "FaultHeapsModel" "common" "[Z", Cond.methodLink RX7 99 yX7_isCommon, Cond.instanceMethod yX7_isCommon, Cond.selects RX7 yX7_isCommon yX7_isCommon, Cond.code yX7_isCommon cX7_isCommon 4 (some .boolean), Cond.methodLink RX7 96 yX7_stands, Cond.instanceMethod yX7_stands, Cond.selects RX7 yX7_stands yX7_stands, Cond.code yX7_stands cX7_stands 5 (some .boolean), Cond.fieldLink RX7 26 "FaultHeapsModel" "sizes" "[I", Cond.fieldLink RX7 23 "FaultHeapsModel" "rows" "[I", Cond.methodLink RX7 126 yX7_turns, Cond.instanceMethod yX7_turns]
def wsX7_pair_r3 : List Cond := [Cond.selects RX7 yX7_turns yX7_turns, Cond.code yX7_turns cX7_turns 6 (some .int), Cond.fieldLink RX7 38 "FaultHeapsModel" "one" "[I", Cond.fieldLink RX7 106 "FaultHeapsModel" "oneMany" "I", Cond.fieldLink RX7 41 "FaultHeapsModel" "two" "[I", Cond.fieldLink RX7 109 "FaultHeapsModel" "twoMany" "I", Cond.fieldLink RX7 44 "FaultHeapsModel" "cost" "[I", Cond.methodLink RX7 102 yX7_withoutCommon, Cond.instanceMethod yX7_withoutCommon, Cond.selects RX7 yX7_withoutCommon yX7_withoutCommon, Cond.code yX7_withoutCommon cX7_withoutCommon 6 (some .int), Cond.methodLink RX7 112 yX7_alone, Cond.static yX7_alone, Cond.code yX7_alone cX7_alone 1 (some .int), Cond.methodLink RX7 116 yX7_least, Cond.static yX7_least, Cond.code yX7_least cX7_least 2 (some .int), Cond.methodLink RX7 120 yX7_change, Cond.static yX7_change, Cond.code yX7_change cX7_change 2 (some .int), Cond.methodLink RX7 165 yX7_findBest, Cond.instanceMethod yX7_findBest, Cond.selects RX7 yX7_findBest yX7_findBest, Cond.code yX7_findBest cX7_findBest 3 none]
def wsX7_pair_r4 : List Cond := [Cond.methodLink RX7 149 yX7_moved, Cond.instanceMethod yX7_moved, Cond.selects RX7 yX7_moved yX7_moved, Cond.code yX7_moved cX7_moved 5 (some .int), Cond.methodLink RX7 133 yX7_gain, Cond.instanceMethod yX7_gain, Cond.selects RX7 yX7_gain yX7_gain, Cond.code yX7_gain cX7_gain 3 (some .int), Cond.methodLink RX7 129 yX7_pairCost, Cond.instanceMethod yX7_pairCost, Cond.selects RX7 yX7_pairCost yX7_pairCost, Cond.code yX7_pairCost cX7_pairCost 6 (some .int), Cond.fieldLink RX7 54 "FaultHeapsModel" "mark" "I", Cond.methodLink RX7 152 yX7_asks, Cond.instanceMethod yX7_asks, Cond.selects RX7 yX7_asks yX7_asks, Cond.code yX7_asks cX7_asks 5 none, Cond.methodLink RX7 156 yX7_inHeap, Cond.instanceMethod yX7_inHeap, Cond.selects RX7 yX7_inHeap yX7_inHeap, Cond.code yX7_inHeap cX7_inHeap 4 (some .int), Cond.methodLink RX7 159 yX7_melted, Cond.instanceMethod yX7_melted, Cond.selects RX7 yX7_melted yX7_melted]
def wsX7_pair_r5 : List Cond := [Cond.code yX7_melted cX7_melted 6 (some .int), Cond.methodLink RX7 168 yX7_names, Cond.instanceMethod yX7_names, Cond.selects RX7 yX7_names yX7_names, Cond.code yX7_names cX7_names 3 none, Cond.fieldLink RX7 60 "FaultHeapsModel" "newName" "[I"]
def wsX7_pair : List Cond := .code yX7_pair cX7_pair 4 (some .boolean) :: ((wsX7_pair_r1 ++ (wsX7_pair_r2 ++ (wsX7_pair_r3 ++ (wsX7_pair_r4 ++ wsX7_pair_r5)))) ++ wsX70)
def wsX7_free_r1 : List Cond := [Cond.fieldLink RX7 1 "FaultHeapsModel" "thrown" "I", Cond.fieldLink RX7 57 "FaultHeapsModel" "must" "[I", Cond.methodLink RX7 181 yX7_areTwo, Cond.instanceMethod yX7_areTwo, Cond.selects RX7 yX7_areTwo yX7_areTwo, Cond.initialized RX7, Cond.code yX7_areTwo cX7_areTwo 3 (some .boolean), Cond.methodLink RX7 178 yX7_isReport, Cond.instanceMethod yX7_isReport, Cond.selects RX7 yX7_isReport yX7_isReport, Cond.code yX7_isReport cX7_isReport 2 (some .boolean), Cond.fieldLink RX7 86 "FaultHeapsModel" "reports" "I", Cond.methodLink RX7 184 yX7_tells, Cond.instanceMethod yX7_tells, Cond.selects RX7 yX7_tells yX7_tells, Cond.code yX7_tells cX7_tells 4 none, Cond.methodLink RX7 93 yX7_settles, Cond.instanceMethod yX7_settles, Cond.selects RX7 yX7_settles yX7_settles, Cond.code yX7_settles cX7_settles 2 none, Cond.fieldLink RX7 136 "FaultHeapsModel" "bestBy" "I", Cond.fieldLink RX7 145 "FaultHeapsModel" "bestMelts" "Z", Cond.fieldLink RX7 35 "FaultHeapsModel" "heapOf" "[I", Cond.fieldLink RX7 142 "FaultHeapsModel" "bestTo" "I"]
def wsX7_free_r2 : List Cond := [Cond.fieldLink RX7 139 "FaultHeapsModel" "bestWho" "I", Cond.fieldLink RX7 171 "FaultHeapsModel" "changes" "I", Cond.methodLink RX7 162 yX7_findDistances, Cond.instanceMethod yX7_findDistances, Cond.selects RX7 yX7_findDistances yX7_findDistances, Cond.code yX7_findDistances cX7_findDistances 3 none, Cond.fieldLink RX7 47 "FaultHeapsModel" "distance" "[I", Cond.methodLink RX7 123 yX7_findCommon, Cond.instanceMethod yX7_findCommon, Cond.selects RX7 yX7_findCommon yX7_findCommon, Cond.code yX7_findCommon cX7_findCommon 2 none, Cond.fieldLink RX7 50 "FaultHeapsModel" "common" "[Z", Cond.methodLink RX7 99 yX7_isCommon, Cond.instanceMethod yX7_isCommon, Cond.selects RX7 yX7_isCommon yX7_isCommon, Cond.code yX7_isCommon cX7_isCommon 4 (some .boolean), Cond.methodLink RX7 96 yX7_stands, Cond.instanceMethod yX7_stands, Cond.selects RX7 yX7_stands yX7_stands, Cond.code yX7_stands cX7_stands 5 (some .boolean), Cond.fieldLink RX7 26 "FaultHeapsModel" "sizes" "[I", Cond.fieldLink RX7 23 "FaultHeapsModel" "rows" "[I", Cond.methodLink RX7 126 yX7_turns, Cond.instanceMethod yX7_turns]
def wsX7_free_r3 : List Cond := [Cond.selects RX7 yX7_turns yX7_turns, Cond.code yX7_turns cX7_turns 6 (some .int), Cond.fieldLink RX7 38 "FaultHeapsModel" "one" "[I", Cond.fieldLink RX7 106 "FaultHeapsModel" "oneMany" "I", Cond.fieldLink RX7 41 "FaultHeapsModel" "two" "[I", Cond.fieldLink RX7 109 "FaultHeapsModel" "twoMany" "I", Cond.fieldLink RX7 44 "FaultHeapsModel" "cost" "[I", Cond.methodLink RX7 102 yX7_withoutCommon, Cond.instanceMethod yX7_withoutCommon, Cond.selects RX7 yX7_withoutCommon yX7_withoutCommon, Cond.code yX7_withoutCommon cX7_withoutCommon 6 (some .int), Cond.methodLink RX7 112 yX7_alone, Cond.static yX7_alone, Cond.code yX7_alone cX7_alone 1 (some .int), Cond.methodLink RX7 116 yX7_least, Cond.static yX7_least, Cond.code yX7_least cX7_least 2 (some .int), Cond.methodLink RX7 120 yX7_change, Cond.static yX7_change, Cond.code yX7_change cX7_change 2 (some .int), Cond.methodLink RX7 165 yX7_findBest, Cond.instanceMethod yX7_findBest, Cond.selects RX7 yX7_findBest yX7_findBest, Cond.code yX7_findBest cX7_findBest 3 none]
def wsX7_free_r4 : List Cond := [Cond.methodLink RX7 149 yX7_moved, Cond.instanceMethod yX7_moved, Cond.selects RX7 yX7_moved yX7_moved, Cond.code yX7_moved cX7_moved 5 (some .int), Cond.methodLink RX7 133 yX7_gain, Cond.instanceMethod yX7_gain, Cond.selects RX7 yX7_gain yX7_gain, Cond.code yX7_gain cX7_gain 3 (some .int), Cond.methodLink RX7 129 yX7_pairCost, Cond.instanceMethod yX7_pairCost, Cond.selects RX7 yX7_pairCost yX7_pairCost, Cond.code yX7_pairCost cX7_pairCost 6 (some .int), Cond.fieldLink RX7 54 "FaultHeapsModel" "mark" "I", Cond.methodLink RX7 152 yX7_asks, Cond.instanceMethod yX7_asks, Cond.selects RX7 yX7_asks yX7_asks, Cond.code yX7_asks cX7_asks 5 none, Cond.methodLink RX7 156 yX7_inHeap, Cond.instanceMethod yX7_inHeap, Cond.selects RX7 yX7_inHeap yX7_inHeap, Cond.code yX7_inHeap cX7_inHeap 4 (some .int), Cond.methodLink RX7 159 yX7_melted, Cond.instanceMethod yX7_melted, Cond.selects RX7 yX7_melted yX7_melted]
def wsX7_free_r5 : List Cond := [Cond.code yX7_melted cX7_melted 6 (some .int), Cond.methodLink RX7 168 yX7_names, Cond.instanceMethod yX7_names, Cond.selects RX7 yX7_names yX7_names, Cond.code yX7_names cX7_names 3 none, Cond.fieldLink RX7 60 "FaultHeapsModel" "newName" "[I"]
def wsX7_free : List Cond := .code yX7_free cX7_free 3 (some .boolean) :: ((wsX7_free_r1 ++ (wsX7_free_r2 ++ (wsX7_free_r3 ++ (wsX7_free_r4 ++ wsX7_free_r5)))) ++ wsX70)
def wsX7_mark_r1 : List Cond := [Cond.fieldLink RX7 1 "FaultHeapsModel" "thrown" "I", Cond.fieldLink RX7 54 "FaultHeapsModel" "mark" "I", Cond.methodLink RX7 93 yX7_settles, Cond.instanceMethod yX7_settles, Cond.selects RX7 yX7_settles yX7_settles, Cond.initialized RX7, Cond.code yX7_settles cX7_settles 2 none, Cond.fieldLink RX7 136 "FaultHeapsModel" "bestBy" "I", Cond.fieldLink RX7 86 "FaultHeapsModel" "reports" "I", Cond.fieldLink RX7 145 "FaultHeapsModel" "bestMelts" "Z", Cond.fieldLink RX7 35 "FaultHeapsModel" "heapOf" "[I", Cond.fieldLink RX7 142 "FaultHeapsModel" "bestTo" "I", Cond.fieldLink RX7 139 "FaultHeapsModel" "bestWho" "I", Cond.fieldLink RX7 171 "FaultHeapsModel" "changes" "I", Cond.methodLink RX7 162 yX7_findDistances, Cond.instanceMethod yX7_findDistances, Cond.selects RX7 yX7_findDistances yX7_findDistances, Cond.code yX7_findDistances cX7_findDistances 3 none, Cond.fieldLink RX7 47 "FaultHeapsModel" "distance" "[I", Cond.methodLink RX7 123 yX7_findCommon, Cond.instanceMethod yX7_findCommon, Cond.selects RX7 yX7_findCommon yX7_findCommon, Cond.code yX7_findCommon cX7_findCommon 2 none, Cond.fieldLink RX7 50 "FaultHeapsModel" "common" "[Z"]
def wsX7_mark_r2 : List Cond := [Cond.methodLink RX7 99 yX7_isCommon, Cond.instanceMethod yX7_isCommon, Cond.selects RX7 yX7_isCommon yX7_isCommon, Cond.code yX7_isCommon cX7_isCommon 4 (some .boolean), Cond.methodLink RX7 96 yX7_stands, Cond.instanceMethod yX7_stands, Cond.selects RX7 yX7_stands yX7_stands, Cond.code yX7_stands cX7_stands 5 (some .boolean), Cond.fieldLink RX7 26 "FaultHeapsModel" "sizes" "[I", Cond.fieldLink RX7 23 "FaultHeapsModel" "rows" "[I", Cond.methodLink RX7 126 yX7_turns, Cond.instanceMethod yX7_turns, Cond.selects RX7 yX7_turns yX7_turns, Cond.code yX7_turns cX7_turns 6 (some .int), Cond.fieldLink RX7 38 "FaultHeapsModel" "one" "[I", Cond.fieldLink RX7 106 "FaultHeapsModel" "oneMany" "I", Cond.fieldLink RX7 41 "FaultHeapsModel" "two" "[I", Cond.fieldLink RX7 109 "FaultHeapsModel" "twoMany" "I", Cond.fieldLink RX7 44 "FaultHeapsModel" "cost" "[I", Cond.methodLink RX7 102 yX7_withoutCommon, Cond.instanceMethod yX7_withoutCommon, Cond.selects RX7 yX7_withoutCommon yX7_withoutCommon, Cond.code yX7_withoutCommon cX7_withoutCommon 6 (some .int), Cond.methodLink RX7 112 yX7_alone]
def wsX7_mark_r3 : List Cond := [Cond.static yX7_alone, Cond.code yX7_alone cX7_alone 1 (some .int), Cond.methodLink RX7 116 yX7_least, Cond.static yX7_least, Cond.code yX7_least cX7_least 2 (some .int), Cond.methodLink RX7 120 yX7_change, Cond.static yX7_change, Cond.code yX7_change cX7_change 2 (some .int), Cond.methodLink RX7 165 yX7_findBest, Cond.instanceMethod yX7_findBest, Cond.selects RX7 yX7_findBest yX7_findBest, Cond.code yX7_findBest cX7_findBest 3 none, Cond.methodLink RX7 149 yX7_moved, Cond.instanceMethod yX7_moved, Cond.selects RX7 yX7_moved yX7_moved, Cond.code yX7_moved cX7_moved 5 (some .int), Cond.methodLink RX7 133 yX7_gain, Cond.instanceMethod yX7_gain, Cond.selects RX7 yX7_gain yX7_gain, Cond.code yX7_gain cX7_gain 3 (some .int), Cond.methodLink RX7 129 yX7_pairCost, Cond.instanceMethod yX7_pairCost, Cond.selects RX7 yX7_pairCost yX7_pairCost, Cond.code yX7_pairCost cX7_pairCost 6 (some .int)]
def wsX7_mark_r4 : List Cond := [Cond.fieldLink RX7 57 "FaultHeapsModel" "must" "[I", Cond.methodLink RX7 152 yX7_asks, Cond.instanceMethod yX7_asks, Cond.selects RX7 yX7_asks yX7_asks, Cond.code yX7_asks cX7_asks 5 none, Cond.methodLink RX7 156 yX7_inHeap, Cond.instanceMethod yX7_inHeap, Cond.selects RX7 yX7_inHeap yX7_inHeap, Cond.code yX7_inHeap cX7_inHeap 4 (some .int), Cond.methodLink RX7 159 yX7_melted, Cond.instanceMethod yX7_melted, Cond.selects RX7 yX7_melted yX7_melted, Cond.code yX7_melted cX7_melted 6 (some .int), Cond.methodLink RX7 168 yX7_names, Cond.instanceMethod yX7_names, Cond.selects RX7 yX7_names yX7_names, Cond.code yX7_names cX7_names 3 none, Cond.fieldLink RX7 60 "FaultHeapsModel" "newName" "[I"]
def wsX7_mark : List Cond := .code yX7_mark cX7_mark 2 (some .boolean) :: ((wsX7_mark_r1 ++ (wsX7_mark_r2 ++ (wsX7_mark_r3 ++ wsX7_mark_r4))) ++ wsX70)
def wsX7_distance : List Cond := .code yX7_distance cX7_distance 3 (some .int) :: ([.fieldLink RX7 1 "FaultHeapsModel" "thrown" "I", .fieldLink RX7 47 "FaultHeapsModel" "distance" "[I", .methodLink RX7 178 yX7_isReport, .instanceMethod yX7_isReport, .selects RX7 yX7_isReport yX7_isReport, .initialized RX7, .code yX7_isReport cX7_isReport 2 (some .boolean), .fieldLink RX7 86 "FaultHeapsModel" "reports" "I"] ++ wsX70)
def wsX7_heap : List Cond := .code yX7_heap cX7_heap 2 (some .int) :: ([.fieldLink RX7 1 "FaultHeapsModel" "thrown" "I", .fieldLink RX7 35 "FaultHeapsModel" "heapOf" "[I", .methodLink RX7 178 yX7_isReport, .instanceMethod yX7_isReport, .selects RX7 yX7_isReport yX7_isReport, .initialized RX7, .code yX7_isReport cX7_isReport 2 (some .boolean), .fieldLink RX7 86 "FaultHeapsModel" "reports" "I"] ++ wsX70)
def wsX7_cost : List Cond := .code yX7_cost cX7_cost 6 (some .int) :: ([.fieldLink RX7 1 "FaultHeapsModel" "thrown" "I", .fieldLink RX7 35 "FaultHeapsModel" "heapOf" "[I", .fieldLink RX7 86 "FaultHeapsModel" "reports" "I", .methodLink RX7 181 yX7_areTwo, .instanceMethod yX7_areTwo, .selects RX7 yX7_areTwo yX7_areTwo, .initialized RX7, .code yX7_areTwo cX7_areTwo 3 (some .boolean), .methodLink RX7 178 yX7_isReport, .instanceMethod yX7_isReport, .selects RX7 yX7_isReport yX7_isReport, .code yX7_isReport cX7_isReport 2 (some .boolean), .methodLink RX7 129 yX7_pairCost, .instanceMethod yX7_pairCost, .selects RX7 yX7_pairCost yX7_pairCost, .code yX7_pairCost cX7_pairCost 6 (some .int), .fieldLink RX7 47 "FaultHeapsModel" "distance" "[I", .fieldLink RX7 57 "FaultHeapsModel" "must" "[I", .fieldLink RX7 54 "FaultHeapsModel" "mark" "I"] ++ wsX70)
def wsX7_row : List Cond := .code yX7_row cX7_row 3 (some .int) :: ([.fieldLink RX7 1 "FaultHeapsModel" "thrown" "I", .fieldLink RX7 26 "FaultHeapsModel" "sizes" "[I", .fieldLink RX7 23 "FaultHeapsModel" "rows" "[I", .methodLink RX7 178 yX7_isReport, .instanceMethod yX7_isReport, .selects RX7 yX7_isReport yX7_isReport, .initialized RX7, .code yX7_isReport cX7_isReport 2 (some .boolean), .fieldLink RX7 86 "FaultHeapsModel" "reports" "I"] ++ wsX70)
def wsX7_common : List Cond := .code yX7_common cX7_common 2 (some .int) :: ([.fieldLink RX7 1 "FaultHeapsModel" "thrown" "I", .methodLink RX7 99 yX7_isCommon, .instanceMethod yX7_isCommon, .selects RX7 yX7_isCommon yX7_isCommon, .initialized RX7, .code yX7_isCommon cX7_isCommon 4 (some .boolean), .fieldLink RX7 86 "FaultHeapsModel" "reports" "I", .methodLink RX7 96 yX7_stands, .instanceMethod yX7_stands, .selects RX7 yX7_stands yX7_stands, .code yX7_stands cX7_stands 5 (some .boolean), .fieldLink RX7 26 "FaultHeapsModel" "sizes" "[I", .fieldLink RX7 23 "FaultHeapsModel" "rows" "[I"] ++ wsX70)
def wsX7_findShared : List Cond := .code yX7_findShared cX7_findShared 5 none :: ([.fieldLink RX7 188 "FaultHeapsModel" "shared" "I", .fieldLink RX7 86 "FaultHeapsModel" "reports" "I", .fieldLink RX7 35 "FaultHeapsModel" "heapOf" "[I", .fieldLink RX7 69 "FaultHeapsModel" "share" "[I", .methodLink RX7 96 yX7_stands, .instanceMethod yX7_stands, .selects RX7 yX7_stands yX7_stands, .initialized RX7, .code yX7_stands cX7_stands 5 (some .boolean), .fieldLink RX7 26 "FaultHeapsModel" "sizes" "[I", .fieldLink RX7 23 "FaultHeapsModel" "rows" "[I"] ++ wsX70)
def wsX7_isMark : List Cond := .code yX7_isMark cX7_isMark 7 (some .boolean) :: ([.fieldLink RX7 86 "FaultHeapsModel" "reports" "I", .fieldLink RX7 35 "FaultHeapsModel" "heapOf" "[I", .fieldLink RX7 66 "FaultHeapsModel" "draftSign" "[I", .methodLink RX7 96 yX7_stands, .instanceMethod yX7_stands, .selects RX7 yX7_stands yX7_stands, .initialized RX7, .code yX7_stands cX7_stands 5 (some .boolean), .fieldLink RX7 26 "FaultHeapsModel" "sizes" "[I", .fieldLink RX7 23 "FaultHeapsModel" "rows" "[I"] ++ wsX70)
def wsX7_seeks : List Cond := .code yX7_seeks cX7_seeks 6 (some .boolean) :: ([.fieldLink RX7 188 "FaultHeapsModel" "shared" "I", .fieldLink RX7 66 "FaultHeapsModel" "draftSign" "[I", .fieldLink RX7 69 "FaultHeapsModel" "share" "[I", .methodLink RX7 191 yX7_isMark, .instanceMethod yX7_isMark, .selects RX7 yX7_isMark yX7_isMark, .initialized RX7, .code yX7_isMark cX7_isMark 7 (some .boolean), .fieldLink RX7 86 "FaultHeapsModel" "reports" "I", .fieldLink RX7 35 "FaultHeapsModel" "heapOf" "[I", .methodLink RX7 96 yX7_stands, .instanceMethod yX7_stands, .selects RX7 yX7_stands yX7_stands, .code yX7_stands cX7_stands 5 (some .boolean), .fieldLink RX7 26 "FaultHeapsModel" "sizes" "[I", .fieldLink RX7 23 "FaultHeapsModel" "rows" "[I", .methodLink RX7 194 yX7_seeks, .instanceMethod yX7_seeks, .selects RX7 yX7_seeks yX7_seeks] ++ wsX70)
def wsX7_sign_r1 : List Cond := [Cond.fieldLink RX7 1 "FaultHeapsModel" "thrown" "I", Cond.fieldLink RX7 35 "FaultHeapsModel" "heapOf" "[I", Cond.fieldLink RX7 202 "FaultHeapsModel" "signs" "I", Cond.fieldLink RX7 63 "FaultHeapsModel" "sign" "[I", Cond.fieldLink RX7 66 "FaultHeapsModel" "draftSign" "[I", Cond.methodLink RX7 178 yX7_isReport, Cond.instanceMethod yX7_isReport, Cond.selects RX7 yX7_isReport yX7_isReport, Cond.initialized RX7, Cond.code yX7_isReport cX7_isReport 2 (some .boolean), Cond.fieldLink RX7 86 "FaultHeapsModel" "reports" "I", Cond.methodLink RX7 198 yX7_findShared, Cond.instanceMethod yX7_findShared, Cond.selects RX7 yX7_findShared yX7_findShared, Cond.code yX7_findShared cX7_findShared 5 none, Cond.fieldLink RX7 188 "FaultHeapsModel" "shared" "I", Cond.fieldLink RX7 69 "FaultHeapsModel" "share" "[I", Cond.methodLink RX7 96 yX7_stands, Cond.instanceMethod yX7_stands, Cond.selects RX7 yX7_stands yX7_stands, Cond.code yX7_stands cX7_stands 5 (some .boolean), Cond.fieldLink RX7 26 "FaultHeapsModel" "sizes" "[I", Cond.fieldLink RX7 23 "FaultHeapsModel" "rows" "[I", Cond.methodLink RX7 194 yX7_seeks]
def wsX7_sign_r2 : List Cond := [Cond.instanceMethod yX7_seeks, Cond.selects RX7 yX7_seeks yX7_seeks, Cond.code yX7_seeks cX7_seeks 6 (some .boolean), Cond.methodLink RX7 191 yX7_isMark, Cond.instanceMethod yX7_isMark, Cond.selects RX7 yX7_isMark yX7_isMark, Cond.code yX7_isMark cX7_isMark 7 (some .boolean)]
def wsX7_sign : List Cond := .code yX7_sign cX7_sign 4 (some .int) :: ((wsX7_sign_r1 ++ wsX7_sign_r2) ++ wsX70)
def wsX7_signed : List Cond := .code yX7_signed cX7_signed 2 (some .int) :: ([.fieldLink RX7 1 "FaultHeapsModel" "thrown" "I", .fieldLink RX7 202 "FaultHeapsModel" "signs" "I", .fieldLink RX7 63 "FaultHeapsModel" "sign" "[I"] ++ wsX70)
def wsX7_fix : List Cond := .code yX7_fix cX7_fix 3 (some .boolean) :: ([.fieldLink RX7 1 "FaultHeapsModel" "thrown" "I", .fieldLink RX7 32 "FaultHeapsModel" "fixedAt" "[I", .methodLink RX7 178 yX7_isReport, .instanceMethod yX7_isReport, .selects RX7 yX7_isReport yX7_isReport, .initialized RX7, .code yX7_isReport cX7_isReport 2 (some .boolean), .fieldLink RX7 86 "FaultHeapsModel" "reports" "I", .methodLink RX7 72 yX7_isVersion, .instanceMethod yX7_isVersion, .selects RX7 yX7_isVersion yX7_isVersion, .code yX7_isVersion cX7_isVersion 2 (some .boolean), .fieldLink RX7 13 "FaultHeapsModel" "versions" "I"] ++ wsX70)
def wsX7_cameBack : List Cond := .code yX7_cameBack cX7_cameBack 4 (some .boolean) :: ([.fieldLink RX7 86 "FaultHeapsModel" "reports" "I", .fieldLink RX7 35 "FaultHeapsModel" "heapOf" "[I", .fieldLink RX7 32 "FaultHeapsModel" "fixedAt" "[I", .fieldLink RX7 29 "FaultHeapsModel" "versionOf" "[I", .methodLink RX7 76 yX7_isBehind, .instanceMethod yX7_isBehind, .selects RX7 yX7_isBehind yX7_isBehind, .initialized RX7, .code yX7_isBehind cX7_isBehind 4 (some .boolean), .fieldLink RX7 16 "FaultHeapsModel" "madeFrom" "[I"] ++ wsX70)
def wsX7_look : List Cond := .code yX7_look cX7_look 3 (some .int) :: ([.fieldLink RX7 1 "FaultHeapsModel" "thrown" "I", .fieldLink RX7 29 "FaultHeapsModel" "versionOf" "[I", .fieldLink RX7 26 "FaultHeapsModel" "sizes" "[I", .fieldLink RX7 32 "FaultHeapsModel" "fixedAt" "[I", .fieldLink RX7 35 "FaultHeapsModel" "heapOf" "[I", .methodLink RX7 178 yX7_isReport, .instanceMethod yX7_isReport, .selects RX7 yX7_isReport yX7_isReport, .initialized RX7, .code yX7_isReport cX7_isReport 2 (some .boolean), .fieldLink RX7 86 "FaultHeapsModel" "reports" "I", .methodLink RX7 205 yX7_cameBack, .instanceMethod yX7_cameBack, .selects RX7 yX7_cameBack yX7_cameBack, .code yX7_cameBack cX7_cameBack 4 (some .boolean), .methodLink RX7 76 yX7_isBehind, .instanceMethod yX7_isBehind, .selects RX7 yX7_isBehind yX7_isBehind, .code yX7_isBehind cX7_isBehind 4 (some .boolean), .fieldLink RX7 16 "FaultHeapsModel" "madeFrom" "[I", .methodLink RX7 156 yX7_inHeap, .instanceMethod yX7_inHeap, .selects RX7 yX7_inHeap yX7_inHeap, .code yX7_inHeap cX7_inHeap 4 (some .int)] ++ wsX70)
def wsX7_count_r1 : List Cond := [Cond.fieldLink RX7 1 "FaultHeapsModel" "thrown" "I", Cond.fieldLink RX7 86 "FaultHeapsModel" "reports" "I", Cond.fieldLink RX7 13 "FaultHeapsModel" "versions" "I", Cond.fieldLink RX7 54 "FaultHeapsModel" "mark" "I", Cond.fieldLink RX7 80 "FaultHeapsModel" "told" "I", Cond.fieldLink RX7 171 "FaultHeapsModel" "changes" "I", Cond.methodLink RX7 174 yX7_heaps, Cond.instanceMethod yX7_heaps, Cond.selects RX7 yX7_heaps yX7_heaps, Cond.initialized RX7, Cond.code yX7_heaps cX7_heaps 3 (some .int), Cond.fieldLink RX7 35 "FaultHeapsModel" "heapOf" "[I", Cond.methodLink RX7 99 yX7_isCommon, Cond.instanceMethod yX7_isCommon, Cond.selects RX7 yX7_isCommon yX7_isCommon, Cond.code yX7_isCommon cX7_isCommon 4 (some .boolean), Cond.methodLink RX7 96 yX7_stands, Cond.instanceMethod yX7_stands, Cond.selects RX7 yX7_stands yX7_stands, Cond.code yX7_stands cX7_stands 5 (some .boolean), Cond.fieldLink RX7 26 "FaultHeapsModel" "sizes" "[I", Cond.fieldLink RX7 23 "FaultHeapsModel" "rows" "[I", Cond.methodLink RX7 205 yX7_cameBack, Cond.instanceMethod yX7_cameBack]
def wsX7_count_r2 : List Cond := [Cond.selects RX7 yX7_cameBack yX7_cameBack, Cond.code yX7_cameBack cX7_cameBack 4 (some .boolean), Cond.fieldLink RX7 32 "FaultHeapsModel" "fixedAt" "[I", Cond.fieldLink RX7 29 "FaultHeapsModel" "versionOf" "[I", Cond.methodLink RX7 76 yX7_isBehind, Cond.instanceMethod yX7_isBehind, Cond.selects RX7 yX7_isBehind yX7_isBehind, Cond.code yX7_isBehind cX7_isBehind 4 (some .boolean), Cond.fieldLink RX7 16 "FaultHeapsModel" "madeFrom" "[I"]
def wsX7_count : List Cond := .code yX7_count cX7_count 4 (some .int) :: ((wsX7_count_r1 ++ wsX7_count_r2) ++ wsX70)
def wsJ9_max_7cf53 : List Cond := .code yJ9_max_7cf53 cJ9_max_7cf53 2 (some .int) :: ([])
def wsJ9_min_7cf53 : List Cond := .code yJ9_min_7cf53 cJ9_min_7cf53 2 (some .int) :: ([])
def wsL_look_r1 : List Cond := [Cond.classLink RL 13 "java/util/NoSuchElementException", Cond.methodLink RL 7 yX6_look, Cond.instanceMethod yX6_look, Cond.selects RX6 yX6_look yX6_look, Cond.initialized RX6, Cond.code yX6_look cX6_look 3 (some .int), Cond.classLink RX6 151 "java/util/NoSuchElementException", Cond.initialized "java/util/NoSuchElementException", Cond.fieldLink RX6 26 "FaultHeaps" "reports" "LFaultHeaps$Reports;", Cond.fieldLink RX6 40 "FaultHeaps" "heaps" "LFaultHeaps$Heaps;", Cond.methodLink RX6 111 yX3_has, Cond.instanceMethod yX3_has, Cond.selects RX3 yX3_has yX3_has, Cond.initialized RX3, Cond.code yX3_has cX3_has 2 (some .boolean), Cond.fieldLink RX3 30 "FaultHeaps$Reports" "number" "I", Cond.methodLink RX6 158 yX3_versionOf, Cond.instanceMethod yX3_versionOf, Cond.selects RX3 yX3_versionOf yX3_versionOf, Cond.code yX3_versionOf cX3_versionOf 2 (some .int), Cond.fieldLink RX3 20 "FaultHeaps$Reports" "madeIn" "[I", Cond.methodLink RX6 161 yX3_lengthOf, Cond.instanceMethod yX3_lengthOf, Cond.selects RX3 yX3_lengthOf yX3_lengthOf]
def wsL_look_r2 : List Cond := [Cond.code yX3_lengthOf cX3_lengthOf 2 (some .int), Cond.fieldLink RX3 16 "FaultHeaps$Reports" "lengths" "[I", Cond.methodLink RX6 164 yX3_fixedAt, Cond.instanceMethod yX3_fixedAt, Cond.selects RX3 yX3_fixedAt yX3_fixedAt, Cond.code yX3_fixedAt cX3_fixedAt 2 (some .int), Cond.fieldLink RX3 23 "FaultHeaps$Reports" "fixedIn" "[I", Cond.methodLink RX6 167 yX6_cameBack, Cond.instanceMethod yX6_cameBack, Cond.selects RX6 yX6_cameBack yX6_cameBack, Cond.code yX6_cameBack cX6_cameBack 5 (some .boolean), Cond.fieldLink RX6 19 "FaultHeaps" "versions" "LFaultHeaps$Versions;", Cond.methodLink RX6 178 yX3_howMany, Cond.instanceMethod yX3_howMany, Cond.selects RX3 yX3_howMany yX3_howMany, Cond.code yX3_howMany cX3_howMany 1 (some .int), Cond.methodLink RX6 193 yX1_areTogether, Cond.instanceMethod yX1_areTogether, Cond.selects RX1 yX1_areTogether yX1_areTogether, Cond.initialized RX1, Cond.code yX1_areTogether cX1_areTogether 3 (some .boolean), Cond.fieldLink RX1 16 "FaultHeaps$Heaps" "heapOf" "[I", Cond.methodLink RX6 175 yX5_isOrIsBehind, Cond.instanceMethod yX5_isOrIsBehind]
def wsL_look_r3 : List Cond := [Cond.selects RX5 yX5_isOrIsBehind yX5_isOrIsBehind, Cond.initialized RX5, Cond.code yX5_isOrIsBehind cX5_isOrIsBehind 3 (some .boolean), Cond.fieldLink RX5 9 "FaultHeaps$Versions" "lines" "[I", Cond.methodLink RX6 170 yX1_sizeBeside, Cond.instanceMethod yX1_sizeBeside, Cond.selects RX1 yX1_sizeBeside yX1_sizeBeside, Cond.code yX1_sizeBeside cX1_sizeBeside 2 (some .int), Cond.fieldLink RX1 23 "FaultHeaps$Heaps" "sizes" "[I"]
def wsL_look : List Cond := .codeWith yL_look cL_look 5 (some .int) [(0, 10, 13, 13)] :: ((wsL_look_r1 ++ (wsL_look_r2 ++ wsL_look_r3)) ++ wsX60 ++ wsX30 ++ wsX10 ++ wsX50 ++ (vx_atS RX6 155 "java/util/NoSuchElementException" ["java/lang/RuntimeException", "java/lang/Exception"]).filter goodWord)
def wsL_law0_r1 : List Cond := [Cond.classLink RL 8 RX6, Cond.instantiable RX6 6, Cond.initialized RX6, Cond.classLink RL 16 RX7, Cond.instantiable RX7 31, Cond.initialized RX7, Cond.arrayClass .long, Cond.methodLink RL 15 yX6_init, Cond.instanceMethod yX6_init, Cond.code yX6_init cX6_init 1 none, Cond.methodLink RX6 1 objectInit, Cond.instanceMethod objectInit, Cond.code objectInit ⟨#[0xb1]⟩ 1 none, Cond.classLink RX6 7 RX4, Cond.instantiable RX4 2, Cond.initialized RX4, Cond.fieldLink RX6 10 "FaultHeaps" "told" "LFaultHeaps$ToldRow;", Cond.classLink RX6 16 RX5, Cond.instantiable RX5 2, Cond.initialized RX5, Cond.fieldLink RX6 19 "FaultHeaps" "versions" "LFaultHeaps$Versions;", Cond.classLink RX6 23 RX3, Cond.instantiable RX3 6, Cond.initialized RX3]
def wsL_law0_r2 : List Cond := [Cond.fieldLink RX6 26 "FaultHeaps" "reports" "LFaultHeaps$Reports;", Cond.classLink RX6 30 RX0, Cond.instantiable RX0 5, Cond.initialized RX0, Cond.fieldLink RX6 33 "FaultHeaps" "distances" "LFaultHeaps$Distances;", Cond.classLink RX6 37 RX1, Cond.instantiable RX1 15, Cond.initialized RX1, Cond.fieldLink RX6 40 "FaultHeaps" "heaps" "LFaultHeaps$Heaps;", Cond.classLink RX6 44 RX2, Cond.instantiable RX2 5, Cond.initialized RX2, Cond.fieldLink RX6 47 "FaultHeaps" "marks" "LFaultHeaps$Marks;", Cond.instanceMethod yX4_init, Cond.code yX4_init cX4_init 1 none, Cond.methodLink RX4 3 objectInit, Cond.arrayClass .int, Cond.fieldLink RX4 9 "FaultHeaps$ToldRow" "frames" "[I", Cond.fieldLink RX4 15 "FaultHeaps$ToldRow" "length" "I", Cond.methodLink RX6 18 yX5_init, Cond.instanceMethod yX5_init, Cond.code yX5_init cX5_init 1 none, Cond.methodLink RX5 3 objectInit, Cond.fieldLink RX5 9 "FaultHeaps$Versions" "lines" "[I"]
def wsL_law0_r3 : List Cond := [Cond.fieldLink RX5 15 "FaultHeaps$Versions" "number" "I", Cond.instanceMethod yX3_init, Cond.code yX3_init cX3_init 1 none, Cond.methodLink RX3 3 objectInit, Cond.classLink RX3 9 "[[I", Cond.fieldLink RX3 11 "FaultHeaps$Reports" "rows" "[[I", Cond.fieldLink RX3 16 "FaultHeaps$Reports" "lengths" "[I", Cond.fieldLink RX3 20 "FaultHeaps$Reports" "madeIn" "[I", Cond.fieldLink RX3 23 "FaultHeaps$Reports" "fixedIn" "[I", Cond.fieldLink RX3 26 "FaultHeaps$Reports" "holders" "[J", Cond.fieldLink RX3 30 "FaultHeaps$Reports" "number" "I", Cond.methodLink RX6 32 yX0_init, Cond.instanceMethod yX0_init, Cond.code yX0_init cX0_init 1 none, Cond.methodLink RX0 3 objectInit, Cond.classLink RX0 9 "[[I", Cond.fieldLink RX0 11 "FaultHeaps$Distances" "bare" "[[I", Cond.fieldLink RX0 16 "FaultHeaps$Distances" "bareLengths" "[I", Cond.arrayClass .boolean, Cond.fieldLink RX0 20 "FaultHeaps$Distances" "isOther" "[Z", Cond.fieldLink RX0 24 "FaultHeaps$Distances" "known" "[[I", Cond.fieldLink RX0 27 "FaultHeaps$Distances" "least" "[[I", Cond.methodLink RX0 30 yJ7_fill_53178, Cond.static yJ7_fill_53178]
def wsL_law0_r4 : List Cond := [Cond.initialized RJ7, Cond.code yJ7_fill_53178 cJ7_fill_53178 4 none, Cond.instanceMethod yX1_init, Cond.code yX1_init cX1_init 1 none, Cond.methodLink RX1 3 objectInit, Cond.classLink RX1 9 "[[I", Cond.fieldLink RX1 11 "FaultHeaps$Heaps" "wishes" "[[I", Cond.fieldLink RX1 16 "FaultHeaps$Heaps" "heapOf" "[I", Cond.fieldLink RX1 20 "FaultHeaps$Heaps" "leastIn" "[I", Cond.fieldLink RX1 23 "FaultHeaps$Heaps" "sizes" "[I", Cond.fieldLink RX1 26 "FaultHeaps$Heaps" "newNumbers" "[I", Cond.fieldLink RX1 29 "FaultHeaps$Heaps" "joining" "[[I", Cond.fieldLink RX1 32 "FaultHeaps$Heaps" "melting" "[[I", Cond.fieldLink RX1 35 "FaultHeaps$Heaps" "reportsNumber" "I", Cond.fieldLink RX1 39 "FaultHeaps$Heaps" "heapsNumber" "I", Cond.fieldLink RX1 42 "FaultHeaps$Heaps" "limit" "I", Cond.fieldLink RX1 45 "FaultHeaps$Heaps" "changes" "I", Cond.fieldLink RX1 48 "FaultHeaps$Heaps" "bestAdded" "I", Cond.fieldLink RX1 51 "FaultHeaps$Heaps" "bestReport" "I", Cond.fieldLink RX1 54 "FaultHeaps$Heaps" "bestMelted" "I", Cond.fieldLink RX1 57 "FaultHeaps$Heaps" "bestInto" "I", Cond.instanceMethod yX2_init, Cond.code yX2_init cX2_init 1 none, Cond.methodLink RX2 3 objectInit]
def wsL_law0_r5 : List Cond := [Cond.fieldLink RX2 9 "FaultHeaps$Marks" "shared" "[I", Cond.fieldLink RX2 15 "FaultHeaps$Marks" "holders" "[J", Cond.fieldLink RX2 19 "FaultHeaps$Marks" "sharedNumber" "I", Cond.fieldLink RX2 23 "FaultHeaps$Marks" "latest" "[I", Cond.fieldLink RX2 26 "FaultHeaps$Marks" "latestLength" "I", Cond.methodLink RL 18 yX7_init, Cond.instanceMethod yX7_init, Cond.code yX7_init cX7_init 1 none, Cond.methodLink RX7 7 objectInit, Cond.fieldLink RX7 13 "FaultHeapsModel" "versions" "I", Cond.fieldLink RX7 16 "FaultHeapsModel" "madeFrom" "[I", Cond.fieldLink RX7 20 "FaultHeapsModel" "draft" "[I", Cond.fieldLink RX7 23 "FaultHeapsModel" "rows" "[I", Cond.fieldLink RX7 26 "FaultHeapsModel" "sizes" "[I", Cond.fieldLink RX7 29 "FaultHeapsModel" "versionOf" "[I", Cond.fieldLink RX7 32 "FaultHeapsModel" "fixedAt" "[I", Cond.fieldLink RX7 35 "FaultHeapsModel" "heapOf" "[I", Cond.fieldLink RX7 38 "FaultHeapsModel" "one" "[I", Cond.fieldLink RX7 41 "FaultHeapsModel" "two" "[I", Cond.fieldLink RX7 44 "FaultHeapsModel" "cost" "[I", Cond.fieldLink RX7 47 "FaultHeapsModel" "distance" "[I", Cond.fieldLink RX7 50 "FaultHeapsModel" "common" "[Z", Cond.fieldLink RX7 54 "FaultHeapsModel" "mark" "I", Cond.fieldLink RX7 57 "FaultHeapsModel" "must" "[I"]
def wsL_law0_r6 : List Cond := [Cond.fieldLink RX7 60 "FaultHeapsModel" "newName" "[I", Cond.fieldLink RX7 63 "FaultHeapsModel" "sign" "[I", Cond.fieldLink RX7 66 "FaultHeapsModel" "draftSign" "[I", Cond.fieldLink RX7 69 "FaultHeapsModel" "share" "[I", Cond.methodLink RL 19 yX6_frame, Cond.instanceMethod yX6_frame, Cond.selects RX6 yX6_frame yX6_frame, Cond.code yX6_frame cX6_frame 2 (some .int), Cond.methodLink RX6 51 yX4_put, Cond.instanceMethod yX4_put, Cond.selects RX4 yX4_put yX4_put, Cond.code yX4_put cX4_put 2 (some .int), Cond.methodLink RL 23 yX7_frame, Cond.instanceMethod yX7_frame, Cond.selects RX7 yX7_frame yX7_frame, Cond.code yX7_frame cX7_frame 2 (some .int), Cond.fieldLink RX7 1 "FaultHeapsModel" "thrown" "I", Cond.fieldLink RX7 80 "FaultHeapsModel" "told" "I", Cond.methodLink RL 24 yX6_version, Cond.instanceMethod yX6_version, Cond.selects RX6 yX6_version yX6_version, Cond.code yX6_version cX6_version 2 (some .int), Cond.methodLink RX6 55 yX5_make, Cond.instanceMethod yX5_make]
def wsL_law0_r7 : List Cond := [Cond.selects RX5 yX5_make yX5_make, Cond.code yX5_make cX5_make 3 (some .int), Cond.methodLink RX5 19 yX5_has, Cond.instanceMethod yX5_has, Cond.selects RX5 yX5_has yX5_has, Cond.code yX5_has cX5_has 2 (some .boolean), Cond.methodLink RL 27 yX7_version, Cond.instanceMethod yX7_version, Cond.selects RX7 yX7_version yX7_version, Cond.code yX7_version cX7_version 2 (some .int), Cond.methodLink RX7 72 yX7_isVersion, Cond.instanceMethod yX7_isVersion, Cond.selects RX7 yX7_isVersion yX7_isVersion, Cond.code yX7_isVersion cX7_isVersion 2 (some .boolean), Cond.methodLink RL 28 yX6_report, Cond.instanceMethod yX6_report, Cond.selects RX6 yX6_report yX6_report, Cond.code yX6_report cX6_report 3 (some .int), Cond.methodLink RX6 58 yX4_isEmpty, Cond.instanceMethod yX4_isEmpty, Cond.selects RX4 yX4_isEmpty yX4_isEmpty, Cond.code yX4_isEmpty cX4_isEmpty 1 (some .boolean), Cond.methodLink RX6 62 yX5_has, Cond.methodLink RX6 66 yX3_isFull]
def wsL_law0_r8 : List Cond := [Cond.instanceMethod yX3_isFull, Cond.selects RX3 yX3_isFull yX3_isFull, Cond.code yX3_isFull cX3_isFull 1 (some .boolean), Cond.methodLink RX6 69 yX4_fold, Cond.instanceMethod yX4_fold, Cond.selects RX4 yX4_fold yX4_fold, Cond.code yX4_fold cX4_fold 2 none, Cond.methodLink RX4 19 yX4_foldOnce, Cond.instanceMethod yX4_foldOnce, Cond.selects RX4 yX4_foldOnce yX4_foldOnce, Cond.code yX4_foldOnce cX4_foldOnce 3 (some .boolean), Cond.methodLink RX4 23 yX4_standsTwice, Cond.instanceMethod yX4_standsTwice, Cond.selects RX4 yX4_standsTwice yX4_standsTwice, Cond.code yX4_standsTwice cX4_standsTwice 4 (some .boolean), Cond.methodLink RX4 27 yX4_cut, Cond.instanceMethod yX4_cut, Cond.selects RX4 yX4_cut yX4_cut, Cond.code yX4_cut cX4_cut 4 none, Cond.methodLink RX6 72 yX3_add, Cond.instanceMethod yX3_add, Cond.selects RX3 yX3_add yX3_add, Cond.code yX3_add cX3_add 6 (some .int), Cond.methodLink RX3 38 yX4_howMany]
def wsL_law0_r9 : List Cond := [Cond.instanceMethod yX4_howMany, Cond.selects RX4 yX4_howMany yX4_howMany, Cond.code yX4_howMany cX4_howMany 1 (some .int), Cond.methodLink RX3 44 yX4_at, Cond.instanceMethod yX4_at, Cond.selects RX4 yX4_at yX4_at, Cond.code yX4_at cX4_at 2 (some .int), Cond.methodLink RX6 76 yX4_clear, Cond.instanceMethod yX4_clear, Cond.selects RX4 yX4_clear yX4_clear, Cond.code yX4_clear cX4_clear 1 none, Cond.methodLink RX6 79 yX0_renew, Cond.instanceMethod yX0_renew, Cond.selects RX0 yX0_renew yX0_renew, Cond.code yX0_renew cX0_renew 6 none, Cond.methodLink RX0 36 yX3_howMany, Cond.instanceMethod yX3_howMany, Cond.selects RX3 yX3_howMany yX3_howMany, Cond.code yX3_howMany cX3_howMany 1 (some .int), Cond.methodLink RX0 42 yX0_strip, Cond.instanceMethod yX0_strip, Cond.selects RX0 yX0_strip yX0_strip, Cond.code yX0_strip cX0_strip 8 (some .boolean), Cond.methodLink RX0 50 yX3_lengthOf]
def wsL_law0_r10 : List Cond := [Cond.instanceMethod yX3_lengthOf, Cond.selects RX3 yX3_lengthOf yX3_lengthOf, Cond.code yX3_lengthOf cX3_lengthOf 2 (some .int), Cond.methodLink RX0 54 yX3_frameAt, Cond.instanceMethod yX3_frameAt, Cond.selects RX3 yX3_frameAt yX3_frameAt, Cond.code yX3_frameAt cX3_frameAt 3 (some .int), Cond.methodLink RX0 57 yX3_isCommon, Cond.instanceMethod yX3_isCommon, Cond.selects RX3 yX3_isCommon yX3_isCommon, Cond.code yX3_isCommon cX3_isCommon 2 (some .boolean), Cond.methodLink RX3 48 yJ13_bitCount_95d88, Cond.static yJ13_bitCount_95d88, Cond.initialized RJ13, Cond.code yJ13_bitCount_95d88 cJ13_bitCount_95d88 2 (some .int), Cond.constantLong RJ13 314 (6148914691236517205), Cond.constantLong RJ13 316 (3689348814741910323), Cond.constantLong RJ13 318 (1085102592571150095), Cond.methodLink RX0 46 yX0_measure, Cond.instanceMethod yX0_measure, Cond.selects RX0 yX0_measure yX0_measure, Cond.code yX0_measure cX0_measure 12 (some .int), Cond.methodLink RX0 67 Lib.Math.min.name, Cond.static Lib.Math.min.name]
def wsL_law0_r11 : List Cond := [Cond.initialized "java/lang/Math", Cond.code Lib.Math.min.name Lib.Math.min.code 2 (some .int), Cond.methodLink RX0 61 yX0_costOfOne, Cond.static yX0_costOfOne, Cond.code yX0_costOfOne cX0_costOfOne 1 (some .int), Cond.methodLink RX0 64 yX0_costOfChange, Cond.static yX0_costOfChange, Cond.code yX0_costOfChange cX0_costOfChange 2 (some .int), Cond.methodLink RX6 83 yX1_addAlone, Cond.instanceMethod yX1_addAlone, Cond.selects RX1 yX1_addAlone yX1_addAlone, Cond.code yX1_addAlone cX1_addAlone 1 none, Cond.methodLink RX1 79 yX1_numberAnew, Cond.instanceMethod yX1_numberAnew, Cond.selects RX1 yX1_numberAnew yX1_numberAnew, Cond.code yX1_numberAnew cX1_numberAnew 3 none, Cond.methodLink RX1 96 yJ7_fill_53178, Cond.methodLink RX6 86 yX1_settle, Cond.instanceMethod yX1_settle, Cond.selects RX1 yX1_settle yX1_settle, Cond.code yX1_settle cX1_settle 3 none, Cond.constant RX1 82 (1000000), Cond.methodLink RX1 83 yX1_weighJoining, Cond.instanceMethod yX1_weighJoining]
def wsL_law0_r12 : List Cond := [Cond.selects RX1 yX1_weighJoining yX1_weighJoining, Cond.code yX1_weighJoining cX1_weighJoining 4 none, Cond.methodLink RX1 64 yX0_between, Cond.instanceMethod yX0_between, Cond.selects RX0 yX0_between yX0_between, Cond.code yX0_between cX0_between 3 (some .int), Cond.methodLink RX1 87 yX1_weighMelting, Cond.instanceMethod yX1_weighMelting, Cond.selects RX1 yX1_weighMelting yX1_weighMelting, Cond.code yX1_weighMelting cX1_weighMelting 3 none, Cond.methodLink RX1 90 yX1_findBest, Cond.instanceMethod yX1_findBest, Cond.selects RX1 yX1_findBest yX1_findBest, Cond.code yX1_findBest cX1_findBest 3 none, Cond.methodLink RX1 102 yX1_findBestMove, Cond.instanceMethod yX1_findBestMove, Cond.selects RX1 yX1_findBestMove yX1_findBestMove, Cond.code yX1_findBestMove cX1_findBestMove 5 none, Cond.methodLink RX1 106 yX1_weighMove, Cond.instanceMethod yX1_weighMove, Cond.selects RX1 yX1_weighMove yX1_weighMove, Cond.code yX1_weighMove cX1_weighMove 4 none, Cond.methodLink RX1 93 yX1_doBest, Cond.instanceMethod yX1_doBest]
def wsL_law0_r13 : List Cond := [Cond.selects RX1 yX1_doBest yX1_doBest, Cond.code yX1_doBest cX1_doBest 2 none, Cond.methodLink RL 31 yX7_report, Cond.instanceMethod yX7_report, Cond.selects RX7 yX7_report yX7_report, Cond.code yX7_report cX7_report 4 (some .int), Cond.fieldLink RX7 86 "FaultHeapsModel" "reports" "I", Cond.methodLink RX7 89 yX7_folds, Cond.instanceMethod yX7_folds, Cond.selects RX7 yX7_folds yX7_folds, Cond.code yX7_folds cX7_folds 4 (some .boolean), Cond.methodLink RX7 83 yX7_isTwice, Cond.instanceMethod yX7_isTwice, Cond.selects RX7 yX7_isTwice yX7_isTwice, Cond.code yX7_isTwice cX7_isTwice 5 (some .boolean), Cond.methodLink RX7 93 yX7_settles, Cond.instanceMethod yX7_settles, Cond.selects RX7 yX7_settles yX7_settles, Cond.code yX7_settles cX7_settles 2 none, Cond.fieldLink RX7 136 "FaultHeapsModel" "bestBy" "I", Cond.fieldLink RX7 145 "FaultHeapsModel" "bestMelts" "Z", Cond.fieldLink RX7 142 "FaultHeapsModel" "bestTo" "I", Cond.fieldLink RX7 139 "FaultHeapsModel" "bestWho" "I", Cond.fieldLink RX7 171 "FaultHeapsModel" "changes" "I"]
def wsL_law0_r14 : List Cond := [Cond.methodLink RX7 162 yX7_findDistances, Cond.instanceMethod yX7_findDistances, Cond.selects RX7 yX7_findDistances yX7_findDistances, Cond.code yX7_findDistances cX7_findDistances 3 none, Cond.methodLink RX7 123 yX7_findCommon, Cond.instanceMethod yX7_findCommon, Cond.selects RX7 yX7_findCommon yX7_findCommon, Cond.code yX7_findCommon cX7_findCommon 2 none, Cond.methodLink RX7 99 yX7_isCommon, Cond.instanceMethod yX7_isCommon, Cond.selects RX7 yX7_isCommon yX7_isCommon, Cond.code yX7_isCommon cX7_isCommon 4 (some .boolean), Cond.methodLink RX7 96 yX7_stands, Cond.instanceMethod yX7_stands, Cond.selects RX7 yX7_stands yX7_stands, Cond.code yX7_stands cX7_stands 5 (some .boolean), Cond.methodLink RX7 126 yX7_turns, Cond.instanceMethod yX7_turns, Cond.selects RX7 yX7_turns yX7_turns, Cond.code yX7_turns cX7_turns 6 (some .int), Cond.fieldLink RX7 106 "FaultHeapsModel" "oneMany" "I", Cond.fieldLink RX7 109 "FaultHeapsModel" "twoMany" "I", Cond.methodLink RX7 102 yX7_withoutCommon, Cond.instanceMethod yX7_withoutCommon]
def wsL_law0_r15 : List Cond := [Cond.selects RX7 yX7_withoutCommon yX7_withoutCommon, Cond.code yX7_withoutCommon cX7_withoutCommon 6 (some .int), Cond.methodLink RX7 112 yX7_alone, Cond.static yX7_alone, Cond.code yX7_alone cX7_alone 1 (some .int), Cond.methodLink RX7 116 yX7_least, Cond.static yX7_least, Cond.code yX7_least cX7_least 2 (some .int), Cond.methodLink RX7 120 yX7_change, Cond.static yX7_change, Cond.code yX7_change cX7_change 2 (some .int), Cond.methodLink RX7 165 yX7_findBest, Cond.instanceMethod yX7_findBest, Cond.selects RX7 yX7_findBest yX7_findBest, Cond.code yX7_findBest cX7_findBest 3 none, Cond.methodLink RX7 149 yX7_moved, Cond.instanceMethod yX7_moved, Cond.selects RX7 yX7_moved yX7_moved, Cond.code yX7_moved cX7_moved 5 (some .int), Cond.methodLink RX7 133 yX7_gain, Cond.instanceMethod yX7_gain, Cond.selects RX7 yX7_gain yX7_gain, Cond.code yX7_gain cX7_gain 3 (some .int), Cond.methodLink RX7 129 yX7_pairCost]
def wsL_law0_r16 : List Cond := [Cond.instanceMethod yX7_pairCost, Cond.selects RX7 yX7_pairCost yX7_pairCost, Cond.code yX7_pairCost cX7_pairCost 6 (some .int), Cond.methodLink RX7 152 yX7_asks, Cond.instanceMethod yX7_asks, Cond.selects RX7 yX7_asks yX7_asks, Cond.code yX7_asks cX7_asks 5 none, Cond.methodLink RX7 156 yX7_inHeap, Cond.instanceMethod yX7_inHeap, Cond.selects RX7 yX7_inHeap yX7_inHeap, Cond.code yX7_inHeap cX7_inHeap 4 (some .int), Cond.methodLink RX7 159 yX7_melted, Cond.instanceMethod yX7_melted, Cond.selects RX7 yX7_melted yX7_melted, Cond.code yX7_melted cX7_melted 6 (some .int), Cond.methodLink RX7 168 yX7_names, Cond.instanceMethod yX7_names, Cond.selects RX7 yX7_names yX7_names, Cond.code yX7_names cX7_names 3 none, Cond.methodLink RL 32 yX6_pair, Cond.instanceMethod yX6_pair, Cond.selects RX6 yX6_pair yX6_pair, Cond.code yX6_pair cX6_pair 4 (some .boolean), Cond.methodLink RX6 90 yX3_hasTwo]
def wsL_law0_r17 : List Cond := [Cond.instanceMethod yX3_hasTwo, Cond.selects RX3 yX3_hasTwo yX3_hasTwo, Cond.code yX3_hasTwo cX3_hasTwo 3 (some .boolean), Cond.methodLink RX3 34 yX3_has, Cond.instanceMethod yX3_has, Cond.selects RX3 yX3_has yX3_has, Cond.code yX3_has cX3_has 2 (some .boolean), Cond.methodLink RX6 94 yX1_wish, Cond.instanceMethod yX1_wish, Cond.selects RX1 yX1_wish yX1_wish, Cond.code yX1_wish cX1_wish 4 none, Cond.methodLink RL 36 yX7_pair, Cond.instanceMethod yX7_pair, Cond.selects RX7 yX7_pair yX7_pair, Cond.code yX7_pair cX7_pair 4 (some .boolean), Cond.methodLink RX7 181 yX7_areTwo, Cond.instanceMethod yX7_areTwo, Cond.selects RX7 yX7_areTwo yX7_areTwo, Cond.code yX7_areTwo cX7_areTwo 3 (some .boolean), Cond.methodLink RX7 178 yX7_isReport, Cond.instanceMethod yX7_isReport, Cond.selects RX7 yX7_isReport yX7_isReport, Cond.code yX7_isReport cX7_isReport 2 (some .boolean), Cond.methodLink RX7 184 yX7_tells]
def wsL_law0_r18 : List Cond := [Cond.instanceMethod yX7_tells, Cond.selects RX7 yX7_tells yX7_tells, Cond.code yX7_tells cX7_tells 4 none, Cond.methodLink RL 37 yX6_free, Cond.instanceMethod yX6_free, Cond.selects RX6 yX6_free yX6_free, Cond.code yX6_free cX6_free 3 (some .boolean), Cond.methodLink RX6 98 yX1_hasWish, Cond.instanceMethod yX1_hasWish, Cond.selects RX1 yX1_hasWish yX1_hasWish, Cond.code yX1_hasWish cX1_hasWish 3 (some .boolean), Cond.methodLink RL 41 yX7_free, Cond.instanceMethod yX7_free, Cond.selects RX7 yX7_free yX7_free, Cond.code yX7_free cX7_free 3 (some .boolean), Cond.methodLink RL 42 yX6_mark, Cond.instanceMethod yX6_mark, Cond.selects RX6 yX6_mark yX6_mark, Cond.code yX6_mark cX6_mark 2 (some .boolean), Cond.methodLink RX6 101 yX1_setT, Cond.instanceMethod yX1_setT, Cond.selects RX1 yX1_setT yX1_setT, Cond.code yX1_setT cX1_setT 2 (some .boolean), Cond.methodLink RL 46 yX7_mark]
def wsL_law0_r19 : List Cond := [Cond.instanceMethod yX7_mark, Cond.selects RX7 yX7_mark yX7_mark, Cond.code yX7_mark cX7_mark 2 (some .boolean), Cond.methodLink RL 47 yX6_resettle, Cond.instanceMethod yX6_resettle, Cond.selects RX6 yX6_resettle yX6_resettle, Cond.code yX6_resettle cX6_resettle 1 (some .int), Cond.methodLink RX6 104 yX1_partAll, Cond.instanceMethod yX1_partAll, Cond.selects RX1 yX1_partAll yX1_partAll, Cond.code yX1_partAll cX1_partAll 2 none, Cond.methodLink RX6 107 yX1_howMany, Cond.instanceMethod yX1_howMany, Cond.selects RX1 yX1_howMany yX1_howMany, Cond.code yX1_howMany cX1_howMany 1 (some .int), Cond.methodLink RL 51 yX7_resettle, Cond.instanceMethod yX7_resettle, Cond.selects RX7 yX7_resettle yX7_resettle, Cond.code yX7_resettle cX7_resettle 2 (some .int), Cond.methodLink RX7 174 yX7_heaps, Cond.instanceMethod yX7_heaps, Cond.selects RX7 yX7_heaps yX7_heaps, Cond.code yX7_heaps cX7_heaps 3 (some .int), Cond.methodLink RL 52 yX6_distance]
def wsL_law0_r20 : List Cond := [Cond.instanceMethod yX6_distance, Cond.selects RX6 yX6_distance yX6_distance, Cond.code yX6_distance cX6_distance 3 (some .int), Cond.methodLink RX6 111 yX3_has, Cond.methodLink RX6 112 yX0_between, Cond.methodLink RL 55 yX7_distance, Cond.instanceMethod yX7_distance, Cond.selects RX7 yX7_distance yX7_distance, Cond.code yX7_distance cX7_distance 3 (some .int), Cond.methodLink RL 56 yX6_heap, Cond.instanceMethod yX6_heap, Cond.selects RX6 yX6_heap yX6_heap, Cond.code yX6_heap cX6_heap 2 (some .int), Cond.methodLink RX6 116 yX1_leastBeside, Cond.instanceMethod yX1_leastBeside, Cond.selects RX1 yX1_leastBeside yX1_leastBeside, Cond.code yX1_leastBeside cX1_leastBeside 2 (some .int), Cond.methodLink RL 59 yX7_heap, Cond.instanceMethod yX7_heap, Cond.selects RX7 yX7_heap yX7_heap, Cond.code yX7_heap cX7_heap 2 (some .int), Cond.methodLink RL 60 yX6_cost, Cond.instanceMethod yX6_cost, Cond.selects RX6 yX6_cost yX6_cost]
def wsL_law0_r21 : List Cond := [Cond.code yX6_cost cX6_cost 3 (some .int), Cond.methodLink RX6 119 yX1_costOfAll, Cond.instanceMethod yX1_costOfAll, Cond.selects RX1 yX1_costOfAll yX1_costOfAll, Cond.code yX1_costOfAll cX1_costOfAll 5 (some .int), Cond.methodLink RX1 75 yX1_costOfPair, Cond.instanceMethod yX1_costOfPair, Cond.selects RX1 yX1_costOfPair yX1_costOfPair, Cond.code yX1_costOfPair cX1_costOfPair 6 (some .int), Cond.methodLink RX1 70 Lib.Math.max.name, Cond.static Lib.Math.max.name, Cond.code Lib.Math.max.name Lib.Math.max.code 2 (some .int), Cond.methodLink RX1 60 yX1_areTogether, Cond.instanceMethod yX1_areTogether, Cond.selects RX1 yX1_areTogether yX1_areTogether, Cond.code yX1_areTogether cX1_areTogether 3 (some .boolean), Cond.methodLink RX6 123 yX1_costOfPair, Cond.methodLink RL 63 yX7_cost, Cond.instanceMethod yX7_cost, Cond.selects RX7 yX7_cost yX7_cost, Cond.code yX7_cost cX7_cost 6 (some .int), Cond.methodLink RL 64 yX6_row, Cond.instanceMethod yX6_row, Cond.selects RX6 yX6_row yX6_row]
def wsL_law0_r22 : List Cond := [Cond.code yX6_row cX6_row 3 (some .int), Cond.methodLink RX6 127 yX3_hasFrame, Cond.instanceMethod yX3_hasFrame, Cond.selects RX3 yX3_hasFrame yX3_hasFrame, Cond.code yX3_hasFrame cX3_hasFrame 3 (some .boolean), Cond.methodLink RX6 130 yX3_frameAt, Cond.methodLink RL 67 yX7_row, Cond.instanceMethod yX7_row, Cond.selects RX7 yX7_row yX7_row, Cond.code yX7_row cX7_row 3 (some .int), Cond.methodLink RL 68 yX6_common, Cond.instanceMethod yX6_common, Cond.selects RX6 yX6_common yX6_common, Cond.code yX6_common cX6_common 2 (some .int), Cond.methodLink RX6 133 yX3_isCommon, Cond.methodLink RL 71 yX7_common, Cond.instanceMethod yX7_common, Cond.selects RX7 yX7_common yX7_common, Cond.code yX7_common cX7_common 2 (some .int), Cond.methodLink RL 72 yX6_sign, Cond.instanceMethod yX6_sign, Cond.selects RX6 yX6_sign yX6_sign, Cond.code yX6_sign cX6_sign 2 (some .int), Cond.methodLink RX6 136 yX1_setBeside]
def wsL_law0_r23 : List Cond := [Cond.instanceMethod yX1_setBeside, Cond.selects RX1 yX1_setBeside yX1_setBeside, Cond.code yX1_setBeside cX1_setBeside 5 (some .long), Cond.methodLink RX6 140 yX2_tell, Cond.instanceMethod yX2_tell, Cond.selects RX2 yX2_tell yX2_tell, Cond.code yX2_tell cX2_tell 6 (some .int), Cond.methodLink RX2 29 yX3_howMany, Cond.methodLink RX2 35 yX2_gatherShared, Cond.instanceMethod yX2_gatherShared, Cond.selects RX2 yX2_gatherShared yX2_gatherShared, Cond.code yX2_gatherShared cX2_gatherShared 7 none, Cond.methodLink RX2 49 yX3_holdersOf, Cond.instanceMethod yX3_holdersOf, Cond.selects RX3 yX3_holdersOf yX3_holdersOf, Cond.code yX3_holdersOf cX3_holdersOf 2 (some .long), Cond.methodLink RX2 39 yX2_findOne, Cond.instanceMethod yX2_findOne, Cond.selects RX2 yX2_findOne yX2_findOne, Cond.code yX2_findOne cX2_findOne 4 (some .boolean), Cond.methodLink RX2 43 yX2_findTwo, Cond.instanceMethod yX2_findTwo, Cond.selects RX2 yX2_findTwo yX2_findTwo, Cond.code yX2_findTwo cX2_findTwo 5 (some .boolean)]
def wsL_law0_r24 : List Cond := [Cond.methodLink RX2 46 yX2_findThree, Cond.instanceMethod yX2_findThree, Cond.selects RX2 yX2_findThree yX2_findThree, Cond.code yX2_findThree cX2_findThree 6 (some .boolean), Cond.methodLink RL 75 yX7_sign, Cond.instanceMethod yX7_sign, Cond.selects RX7 yX7_sign yX7_sign, Cond.code yX7_sign cX7_sign 4 (some .int), Cond.fieldLink RX7 202 "FaultHeapsModel" "signs" "I", Cond.methodLink RX7 198 yX7_findShared, Cond.instanceMethod yX7_findShared, Cond.selects RX7 yX7_findShared yX7_findShared, Cond.code yX7_findShared cX7_findShared 5 none, Cond.fieldLink RX7 188 "FaultHeapsModel" "shared" "I", Cond.methodLink RX7 194 yX7_seeks, Cond.instanceMethod yX7_seeks, Cond.selects RX7 yX7_seeks yX7_seeks, Cond.code yX7_seeks cX7_seeks 6 (some .boolean), Cond.methodLink RX7 191 yX7_isMark, Cond.instanceMethod yX7_isMark, Cond.selects RX7 yX7_isMark yX7_isMark, Cond.code yX7_isMark cX7_isMark 7 (some .boolean), Cond.methodLink RL 76 yX6_signed, Cond.instanceMethod yX6_signed]
def wsL_law0_r25 : List Cond := [Cond.selects RX6 yX6_signed yX6_signed, Cond.code yX6_signed cX6_signed 2 (some .int), Cond.methodLink RX6 144 yX2_latestAt, Cond.instanceMethod yX2_latestAt, Cond.selects RX2 yX2_latestAt yX2_latestAt, Cond.code yX2_latestAt cX2_latestAt 2 (some .int), Cond.methodLink RL 79 yX7_signed, Cond.instanceMethod yX7_signed, Cond.selects RX7 yX7_signed yX7_signed, Cond.code yX7_signed cX7_signed 2 (some .int), Cond.methodLink RL 80 yX6_fix, Cond.instanceMethod yX6_fix, Cond.selects RX6 yX6_fix yX6_fix, Cond.code yX6_fix cX6_fix 3 (some .boolean), Cond.methodLink RX6 147 yX3_setFixedAt, Cond.instanceMethod yX3_setFixedAt, Cond.selects RX3 yX3_setFixedAt yX3_setFixedAt, Cond.code yX3_setFixedAt cX3_setFixedAt 3 none, Cond.methodLink RL 83 yX7_fix, Cond.instanceMethod yX7_fix, Cond.selects RX7 yX7_fix yX7_fix, Cond.code yX7_fix cX7_fix 3 (some .boolean), Cond.methodLink RL 84 yL_look, Cond.static yL_look]
def wsL_law0_r26 : List Cond := [Cond.initialized RL, Cond.codeWith yL_look cL_look 5 (some .int) [(0, 10, 13, 13)], Cond.classLink RL 13 "java/util/NoSuchElementException", Cond.methodLink RL 7 yX6_look, Cond.instanceMethod yX6_look, Cond.selects RX6 yX6_look yX6_look, Cond.code yX6_look cX6_look 3 (some .int), Cond.classLink RX6 151 "java/util/NoSuchElementException", Cond.initialized "java/util/NoSuchElementException", Cond.methodLink RX6 158 yX3_versionOf, Cond.instanceMethod yX3_versionOf, Cond.selects RX3 yX3_versionOf yX3_versionOf, Cond.code yX3_versionOf cX3_versionOf 2 (some .int), Cond.methodLink RX6 161 yX3_lengthOf, Cond.methodLink RX6 164 yX3_fixedAt, Cond.instanceMethod yX3_fixedAt, Cond.selects RX3 yX3_fixedAt yX3_fixedAt, Cond.code yX3_fixedAt cX3_fixedAt 2 (some .int), Cond.methodLink RX6 167 yX6_cameBack, Cond.instanceMethod yX6_cameBack, Cond.selects RX6 yX6_cameBack yX6_cameBack, Cond.code yX6_cameBack cX6_cameBack 5 (some .boolean), Cond.methodLink RX6 178 yX3_howMany, Cond.methodLink RX6 193 yX1_areTogether]
def wsL_law0_r27 : List Cond := [Cond.methodLink RX6 175 yX5_isOrIsBehind, Cond.instanceMethod yX5_isOrIsBehind, Cond.selects RX5 yX5_isOrIsBehind yX5_isOrIsBehind, Cond.code yX5_isOrIsBehind cX5_isOrIsBehind 3 (some .boolean), Cond.methodLink RX6 170 yX1_sizeBeside, Cond.instanceMethod yX1_sizeBeside, Cond.selects RX1 yX1_sizeBeside yX1_sizeBeside, Cond.code yX1_sizeBeside cX1_sizeBeside 2 (some .int), Cond.methodLink RL 89 yX7_look, Cond.instanceMethod yX7_look, Cond.selects RX7 yX7_look yX7_look, Cond.code yX7_look cX7_look 3 (some .int), Cond.methodLink RX7 205 yX7_cameBack, Cond.instanceMethod yX7_cameBack, Cond.selects RX7 yX7_cameBack yX7_cameBack, Cond.code yX7_cameBack cX7_cameBack 4 (some .boolean), Cond.methodLink RX7 76 yX7_isBehind, Cond.instanceMethod yX7_isBehind, Cond.selects RX7 yX7_isBehind yX7_isBehind, Cond.code yX7_isBehind cX7_isBehind 4 (some .boolean), Cond.methodLink RL 90 yX7_thrown, Cond.instanceMethod yX7_thrown, Cond.selects RX7 yX7_thrown yX7_thrown, Cond.code yX7_thrown cX7_thrown 1 (some .int)]
def wsL_law0_r28 : List Cond := [Cond.methodLink RL 93 yX6_behind, Cond.instanceMethod yX6_behind, Cond.selects RX6 yX6_behind yX6_behind, Cond.code yX6_behind cX6_behind 3 (some .int), Cond.methodLink RL 96 yX7_behind, Cond.instanceMethod yX7_behind, Cond.selects RX7 yX7_behind yX7_behind, Cond.code yX7_behind cX7_behind 3 (some .int), Cond.methodLink RL 97 yX6_count, Cond.instanceMethod yX6_count, Cond.selects RX6 yX6_count yX6_count, Cond.code yX6_count cX6_count 2 (some .int), Cond.methodLink RX6 179 yX5_howMany, Cond.instanceMethod yX5_howMany, Cond.selects RX5 yX5_howMany yX5_howMany, Cond.code yX5_howMany cX5_howMany 1 (some .int), Cond.methodLink RX6 180 yX1_getT, Cond.instanceMethod yX1_getT, Cond.selects RX1 yX1_getT yX1_getT, Cond.code yX1_getT cX1_getT 1 (some .int), Cond.methodLink RX6 183 yX4_howMany, Cond.methodLink RX6 184 yX3_howManyCommon, Cond.instanceMethod yX3_howManyCommon, Cond.selects RX3 yX3_howManyCommon yX3_howManyCommon]
def wsL_law0_r29 : List Cond := [Cond.code yX3_howManyCommon cX3_howManyCommon 3 (some .int), Cond.methodLink RX3 54 yX3_isCommon, Cond.methodLink RX6 187 yX1_changesDone, Cond.instanceMethod yX1_changesDone, Cond.selects RX1 yX1_changesDone yX1_changesDone, Cond.code yX1_changesDone cX1_changesDone 1 (some .int), Cond.methodLink RX6 190 yX6_howManyCameBack, Cond.instanceMethod yX6_howManyCameBack, Cond.selects RX6 yX6_howManyCameBack yX6_howManyCameBack, Cond.code yX6_howManyCameBack cX6_howManyCameBack 3 (some .int), Cond.methodLink RL 100 yX7_count, Cond.instanceMethod yX7_count, Cond.selects RX7 yX7_count yX7_count, Cond.code yX7_count cX7_count 4 (some .int)]
def wsL_law0 : List Cond := (wsL_law0_r1 ++ (wsL_law0_r2 ++ (wsL_law0_r3 ++ (wsL_law0_r4 ++ (wsL_law0_r5 ++ (wsL_law0_r6 ++ (wsL_law0_r7 ++ (wsL_law0_r8 ++ (wsL_law0_r9 ++ (wsL_law0_r10 ++ (wsL_law0_r11 ++ (wsL_law0_r12 ++ (wsL_law0_r13 ++ (wsL_law0_r14 ++ (wsL_law0_r15 ++ (wsL_law0_r16 ++ (wsL_law0_r17 ++ (wsL_law0_r18 ++ (wsL_law0_r19 ++ (wsL_law0_r20 ++ (wsL_law0_r21 ++ (wsL_law0_r22 ++ (wsL_law0_r23 ++ (wsL_law0_r24 ++ (wsL_law0_r25 ++ (wsL_law0_r26 ++ (wsL_law0_r27 ++ (wsL_law0_r28 ++ wsL_law0_r29)))))))))))))))))))))))))))) ++ wsX60 ++ wsX70 ++ wsX40 ++ wsX50 ++ wsX30 ++ wsX00 ++ wsX10 ++ wsX20 ++ ([] : List Cond)
def wsL_law : List Cond := wsL_law0 ++ (vx_atS RX6 155 "java/util/NoSuchElementException" ["java/lang/RuntimeException", "java/lang/Exception"]).filter goodWord
theorem inJ13 : ∀ w ∈ wsJ130, w ∈ lw_tbl := by decide +kernel
theorem inJ9 : ∀ w ∈ wsJ90, w ∈ lw_tbl := by decide +kernel
theorem inJ0 : ∀ w ∈ wsJ00, w ∈ lw_tbl := by decide +kernel
theorem inJ7 : ∀ w ∈ wsJ70, w ∈ lw_tbl := by decide +kernel
set_option maxRecDepth 20000 in
theorem ggX0_init_J7_fill_53178 : GoodIn wsX0_init wsJ7_fill_53178 := goodIn_r _ [15] (by decide +kernel) (by decide +kernel)
set_option maxRecDepth 20000 in
theorem gX0_init_J7_fill_53178 : GoodIn wsX0_init (va_wsS RX0 30 yJ7_fill_53178 wsJ7_fill_53178) := goodIn_app (goodIn_of _ (by decide +kernel)) ggX0_init_J7_fill_53178
theorem dX0_init_0 : decode cX0_init 0 = .ok (.aload_n 0, 1) := by decide +kernel
theorem dX0_init_1 : decode cX0_init 1 = .ok (.invokespecial 3, 3) := by decide +kernel
theorem dX0_init_4 : decode cX0_init 4 = .ok (.aload_n 0, 1) := by decide +kernel
theorem dX0_init_5 : decode cX0_init 5 = .ok (.bipush 40, 2) := by decide +kernel
theorem dX0_init_7 : decode cX0_init 7 = .ok (.bipush 12, 2) := by decide +kernel
theorem dX0_init_9 : decode cX0_init 9 = .ok (.multianewarray 9 2, 4) := by decide +kernel
theorem dX0_init_13 : decode cX0_init 13 = .ok (.putfield 11, 3) := by decide +kernel
theorem dX0_init_16 : decode cX0_init 16 = .ok (.aload_n 0, 1) := by decide +kernel
theorem dX0_init_17 : decode cX0_init 17 = .ok (.bipush 40, 2) := by decide +kernel
theorem dX0_init_19 : decode cX0_init 19 = .ok (.newarray .int, 2) := by decide +kernel
theorem dX0_init_21 : decode cX0_init 21 = .ok (.putfield 16, 3) := by decide +kernel
theorem dX0_init_24 : decode cX0_init 24 = .ok (.aload_n 0, 1) := by decide +kernel
theorem dX0_init_25 : decode cX0_init 25 = .ok (.bipush 40, 2) := by decide +kernel
theorem dX0_init_27 : decode cX0_init 27 = .ok (.newarray .boolean, 2) := by decide +kernel
theorem dX0_init_29 : decode cX0_init 29 = .ok (.putfield 20, 3) := by decide +kernel
theorem dX0_init_32 : decode cX0_init 32 = .ok (.aload_n 0, 1) := by decide +kernel
theorem dX0_init_33 : decode cX0_init 33 = .ok (.bipush 40, 2) := by decide +kernel
theorem dX0_init_35 : decode cX0_init 35 = .ok (.bipush 40, 2) := by decide +kernel
theorem dX0_init_37 : decode cX0_init 37 = .ok (.multianewarray 9 2, 4) := by decide +kernel
theorem dX0_init_41 : decode cX0_init 41 = .ok (.putfield 24, 3) := by decide +kernel
theorem dX0_init_44 : decode cX0_init 44 = .ok (.aload_n 0, 1) := by decide +kernel
theorem dX0_init_45 : decode cX0_init 45 = .ok (.bipush 13, 2) := by decide +kernel
theorem dX0_init_47 : decode cX0_init 47 = .ok (.bipush 13, 2) := by decide +kernel
theorem dX0_init_49 : decode cX0_init 49 = .ok (.multianewarray 9 2, 4) := by decide +kernel
theorem dX0_init_53 : decode cX0_init 53 = .ok (.putfield 27, 3) := by decide +kernel
theorem dX0_init_56 : decode cX0_init 56 = .ok (.aload_n 0, 1) := by decide +kernel
theorem dX0_init_57 : decode cX0_init 57 = .ok (.getfield 16, 3) := by decide +kernel
theorem dX0_init_60 : decode cX0_init 60 = .ok (.iconst (-1), 1) := by decide +kernel
theorem dX0_init_61 : decode cX0_init 61 = .ok (.invokestatic 30, 3) := by decide +kernel
theorem dX0_init_64 : decode cX0_init 64 = .ok (.return_, 1) := by decide +kernel
theorem dX0_between_0 : decode cX0_between 0 = .ok (.aload_n 0, 1) := by decide +kernel
theorem dX0_between_1 : decode cX0_between 1 = .ok (.getfield 24, 3) := by decide +kernel
theorem dX0_between_4 : decode cX0_between 4 = .ok (.iload_n 1, 1) := by decide +kernel
theorem dX0_between_5 : decode cX0_between 5 = .ok (.aaload, 1) := by decide +kernel
theorem dX0_between_6 : decode cX0_between 6 = .ok (.iload_n 2, 1) := by decide +kernel
theorem dX0_between_7 : decode cX0_between 7 = .ok (.iaload, 1) := by decide +kernel
theorem dX0_between_8 : decode cX0_between 8 = .ok (.ireturn, 1) := by decide +kernel
set_option maxRecDepth 20000 in
theorem ggX0_renew_X3_howMany : GoodIn wsX0_renew wsX3_howMany := goodIn_r _ [7, 8, 58, 59, 60, 61, 62, 63] (by decide +kernel) (by decide +kernel)
set_option maxRecDepth 20000 in
theorem gX0_renew_X3_howMany : GoodIn wsX0_renew (wsV RX0 36 RX3 yX3_howMany wsX3_howMany) := goodIn_app (goodIn_of _ (by decide +kernel)) ggX0_renew_X3_howMany
set_option maxRecDepth 20000 in
theorem ggX0_renew_X0_strip : GoodIn wsX0_renew wsX0_strip := goodIn_r _ [13, 14, 15, 16, 17, 18, 6, 19, 20, 21, 22, 23, 24, 25, 26, 27, 28, 29, 8, 30, 31, 32, 33, 34, 35, 36, 37, 53, 54, 55, 56, 57, 58, 59, 60, 61, 62, 63] (by decide +kernel) (by decide +kernel)
set_option maxRecDepth 20000 in
theorem gX0_renew_X0_strip : GoodIn wsX0_renew (wsV RX0 42 RX0 yX0_strip wsX0_strip) := goodIn_app (goodIn_of _ (by decide +kernel)) ggX0_renew_X0_strip
set_option maxRecDepth 20000 in
theorem ggX0_renew_X0_measure : GoodIn wsX0_renew wsX0_measure := goodIn_r _ [41, 14, 42, 15, 43, 44, 45, 46, 47, 48, 12, 49, 50, 51, 52, 53, 54, 55, 56, 57] (by decide +kernel) (by decide +kernel)
set_option maxRecDepth 20000 in
theorem gX0_renew_X0_measure : GoodIn wsX0_renew (wsV RX0 46 RX0 yX0_measure wsX0_measure) := goodIn_app (goodIn_of _ (by decide +kernel)) ggX0_renew_X0_measure
theorem dX0_renew_0 : decode cX0_renew 0 = .ok (.aload_n 1, 1) := by decide +kernel
theorem dX0_renew_1 : decode cX0_renew 1 = .ok (.invokevirtual 36, 3) := by decide +kernel
theorem dX0_renew_4 : decode cX0_renew 4 = .ok (.istore_n 2, 1) := by decide +kernel
theorem dX0_renew_5 : decode cX0_renew 5 = .ok (.iconst 0, 1) := by decide +kernel
theorem dX0_renew_6 : decode cX0_renew 6 = .ok (.istore_n 3, 1) := by decide +kernel
theorem dX0_renew_7 : decode cX0_renew 7 = .ok (.iload_n 3, 1) := by decide +kernel
theorem dX0_renew_8 : decode cX0_renew 8 = .ok (.iload_n 2, 1) := by decide +kernel
theorem dX0_renew_9 : decode cX0_renew 9 = .ok (.if_icmp .ge 21, 3) := by decide +kernel
theorem dX0_renew_12 : decode cX0_renew 12 = .ok (.aload_n 0, 1) := by decide +kernel
theorem dX0_renew_13 : decode cX0_renew 13 = .ok (.getfield 20, 3) := by decide +kernel
theorem dX0_renew_16 : decode cX0_renew 16 = .ok (.iload_n 3, 1) := by decide +kernel
theorem dX0_renew_17 : decode cX0_renew 17 = .ok (.aload_n 0, 1) := by decide +kernel
theorem dX0_renew_18 : decode cX0_renew 18 = .ok (.aload_n 1, 1) := by decide +kernel
theorem dX0_renew_19 : decode cX0_renew 19 = .ok (.iload_n 3, 1) := by decide +kernel
theorem dX0_renew_20 : decode cX0_renew 20 = .ok (.invokevirtual 42, 3) := by decide +kernel
theorem dX0_renew_23 : decode cX0_renew 23 = .ok (.bastore, 1) := by decide +kernel
theorem dX0_renew_24 : decode cX0_renew 24 = .ok (.iinc 3 1, 3) := by decide +kernel
theorem dX0_renew_27 : decode cX0_renew 27 = .ok (.goto (-20), 3) := by decide +kernel
theorem dX0_renew_30 : decode cX0_renew 30 = .ok (.iconst 0, 1) := by decide +kernel
theorem dX0_renew_31 : decode cX0_renew 31 = .ok (.istore_n 3, 1) := by decide +kernel
theorem dX0_renew_32 : decode cX0_renew 32 = .ok (.iload_n 3, 1) := by decide +kernel
theorem dX0_renew_33 : decode cX0_renew 33 = .ok (.iload_n 2, 1) := by decide +kernel
theorem dX0_renew_34 : decode cX0_renew 34 = .ok (.if_icmp .ge 74, 3) := by decide +kernel
theorem dX0_renew_37 : decode cX0_renew 37 = .ok (.iconst 0, 1) := by decide +kernel
theorem dX0_renew_38 : decode cX0_renew 38 = .ok (.istore 4, 2) := by decide +kernel
theorem dX0_renew_40 : decode cX0_renew 40 = .ok (.iload 4, 2) := by decide +kernel
theorem dX0_renew_42 : decode cX0_renew 42 = .ok (.iload_n 3, 1) := by decide +kernel
theorem dX0_renew_43 : decode cX0_renew 43 = .ok (.if_icmp .ge 59, 3) := by decide +kernel
theorem dX0_renew_46 : decode cX0_renew 46 = .ok (.aload_n 0, 1) := by decide +kernel
theorem dX0_renew_47 : decode cX0_renew 47 = .ok (.getfield 20, 3) := by decide +kernel
theorem dX0_renew_50 : decode cX0_renew 50 = .ok (.iload_n 3, 1) := by decide +kernel
theorem dX0_renew_51 : decode cX0_renew 51 = .ok (.baload, 1) := by decide +kernel
theorem dX0_renew_52 : decode cX0_renew 52 = .ok (.ifCond .ne 13, 3) := by decide +kernel
theorem dX0_renew_55 : decode cX0_renew 55 = .ok (.aload_n 0, 1) := by decide +kernel
theorem dX0_renew_56 : decode cX0_renew 56 = .ok (.getfield 20, 3) := by decide +kernel
theorem dX0_renew_59 : decode cX0_renew 59 = .ok (.iload 4, 2) := by decide +kernel
theorem dX0_renew_61 : decode cX0_renew 61 = .ok (.baload, 1) := by decide +kernel
theorem dX0_renew_62 : decode cX0_renew 62 = .ok (.ifCond .eq 34, 3) := by decide +kernel
theorem dX0_renew_65 : decode cX0_renew 65 = .ok (.aload_n 0, 1) := by decide +kernel
theorem dX0_renew_66 : decode cX0_renew 66 = .ok (.iload_n 3, 1) := by decide +kernel
theorem dX0_renew_67 : decode cX0_renew 67 = .ok (.iload 4, 2) := by decide +kernel
theorem dX0_renew_69 : decode cX0_renew 69 = .ok (.invokevirtual 46, 3) := by decide +kernel
theorem dX0_renew_72 : decode cX0_renew 72 = .ok (.istore 5, 2) := by decide +kernel
theorem dX0_renew_74 : decode cX0_renew 74 = .ok (.aload_n 0, 1) := by decide +kernel
theorem dX0_renew_75 : decode cX0_renew 75 = .ok (.getfield 24, 3) := by decide +kernel
theorem dX0_renew_78 : decode cX0_renew 78 = .ok (.iload_n 3, 1) := by decide +kernel
theorem dX0_renew_79 : decode cX0_renew 79 = .ok (.aaload, 1) := by decide +kernel
theorem dX0_renew_80 : decode cX0_renew 80 = .ok (.iload 4, 2) := by decide +kernel
theorem dX0_renew_82 : decode cX0_renew 82 = .ok (.iload 5, 2) := by decide +kernel
theorem dX0_renew_84 : decode cX0_renew 84 = .ok (.iastore, 1) := by decide +kernel
theorem dX0_renew_85 : decode cX0_renew 85 = .ok (.aload_n 0, 1) := by decide +kernel
theorem dX0_renew_86 : decode cX0_renew 86 = .ok (.getfield 24, 3) := by decide +kernel
theorem dX0_renew_89 : decode cX0_renew 89 = .ok (.iload 4, 2) := by decide +kernel
theorem dX0_renew_91 : decode cX0_renew 91 = .ok (.aaload, 1) := by decide +kernel
theorem dX0_renew_92 : decode cX0_renew 92 = .ok (.iload_n 3, 1) := by decide +kernel
theorem dX0_renew_93 : decode cX0_renew 93 = .ok (.iload 5, 2) := by decide +kernel
theorem dX0_renew_95 : decode cX0_renew 95 = .ok (.iastore, 1) := by decide +kernel
theorem dX0_renew_96 : decode cX0_renew 96 = .ok (.iinc 4 1, 3) := by decide +kernel
theorem dX0_renew_99 : decode cX0_renew 99 = .ok (.goto (-59), 3) := by decide +kernel
theorem dX0_renew_102 : decode cX0_renew 102 = .ok (.iinc 3 1, 3) := by decide +kernel
theorem dX0_renew_105 : decode cX0_renew 105 = .ok (.goto (-73), 3) := by decide +kernel
theorem dX0_renew_108 : decode cX0_renew 108 = .ok (.return_, 1) := by decide +kernel
set_option maxRecDepth 20000 in
theorem ggX0_strip_X3_lengthOf : GoodIn wsX0_strip wsX3_lengthOf := goodIn_r _ [7, 8, 32, 33, 34, 35, 36, 37] (by decide +kernel) (by decide +kernel)
set_option maxRecDepth 20000 in
theorem gX0_strip_X3_lengthOf : GoodIn wsX0_strip (wsV RX0 50 RX3 yX3_lengthOf wsX3_lengthOf) := goodIn_app (goodIn_of _ (by decide +kernel)) ggX0_strip_X3_lengthOf
set_option maxRecDepth 20000 in
theorem ggX0_strip_X3_frameAt : GoodIn wsX0_strip wsX3_frameAt := goodIn_r _ [12, 13, 32, 33, 34, 35, 36, 37] (by decide +kernel) (by decide +kernel)
set_option maxRecDepth 20000 in
theorem gX0_strip_X3_frameAt : GoodIn wsX0_strip (wsV RX0 54 RX3 yX3_frameAt wsX3_frameAt) := goodIn_app (goodIn_of _ (by decide +kernel)) ggX0_strip_X3_frameAt
set_option maxRecDepth 20000 in
theorem ggX0_strip_X3_isCommon : GoodIn wsX0_strip wsX3_isCommon := goodIn_r _ [17, 18, 19, 20, 21, 22, 23, 24, 25, 26, 32, 33, 34, 35, 36, 37] (by decide +kernel) (by decide +kernel)
set_option maxRecDepth 20000 in
theorem gX0_strip_X3_isCommon : GoodIn wsX0_strip (wsV RX0 57 RX3 yX3_isCommon wsX3_isCommon) := goodIn_app (goodIn_of _ (by decide +kernel)) ggX0_strip_X3_isCommon
theorem dX0_strip_0 : decode cX0_strip 0 = .ok (.aload_n 0, 1) := by decide +kernel
theorem dX0_strip_1 : decode cX0_strip 1 = .ok (.getfield 11, 3) := by decide +kernel
theorem dX0_strip_4 : decode cX0_strip 4 = .ok (.iload_n 2, 1) := by decide +kernel
theorem dX0_strip_5 : decode cX0_strip 5 = .ok (.aaload, 1) := by decide +kernel
theorem dX0_strip_6 : decode cX0_strip 6 = .ok (.astore_n 3, 1) := by decide +kernel
theorem dX0_strip_7 : decode cX0_strip 7 = .ok (.iconst 0, 1) := by decide +kernel
theorem dX0_strip_8 : decode cX0_strip 8 = .ok (.istore 4, 2) := by decide +kernel
theorem dX0_strip_10 : decode cX0_strip 10 = .ok (.iconst 0, 1) := by decide +kernel
theorem dX0_strip_11 : decode cX0_strip 11 = .ok (.istore 5, 2) := by decide +kernel
theorem dX0_strip_13 : decode cX0_strip 13 = .ok (.iconst 0, 1) := by decide +kernel
theorem dX0_strip_14 : decode cX0_strip 14 = .ok (.istore 6, 2) := by decide +kernel
theorem dX0_strip_16 : decode cX0_strip 16 = .ok (.iload 6, 2) := by decide +kernel
theorem dX0_strip_18 : decode cX0_strip 18 = .ok (.aload_n 1, 1) := by decide +kernel
theorem dX0_strip_19 : decode cX0_strip 19 = .ok (.iload_n 2, 1) := by decide +kernel
theorem dX0_strip_20 : decode cX0_strip 20 = .ok (.invokevirtual 50, 3) := by decide +kernel
theorem dX0_strip_23 : decode cX0_strip 23 = .ok (.if_icmp .ge 57, 3) := by decide +kernel
theorem dX0_strip_26 : decode cX0_strip 26 = .ok (.aload_n 1, 1) := by decide +kernel
theorem dX0_strip_27 : decode cX0_strip 27 = .ok (.iload_n 2, 1) := by decide +kernel
theorem dX0_strip_28 : decode cX0_strip 28 = .ok (.iload 6, 2) := by decide +kernel
theorem dX0_strip_30 : decode cX0_strip 30 = .ok (.invokevirtual 54, 3) := by decide +kernel
theorem dX0_strip_33 : decode cX0_strip 33 = .ok (.istore 7, 2) := by decide +kernel
theorem dX0_strip_35 : decode cX0_strip 35 = .ok (.aload_n 1, 1) := by decide +kernel
theorem dX0_strip_36 : decode cX0_strip 36 = .ok (.iload 7, 2) := by decide +kernel
theorem dX0_strip_38 : decode cX0_strip 38 = .ok (.invokevirtual 57, 3) := by decide +kernel
theorem dX0_strip_41 : decode cX0_strip 41 = .ok (.ifCond .ne 33, 3) := by decide +kernel
theorem dX0_strip_44 : decode cX0_strip 44 = .ok (.iload 5, 2) := by decide +kernel
theorem dX0_strip_46 : decode cX0_strip 46 = .ok (.ifCond .ne 12, 3) := by decide +kernel
theorem dX0_strip_49 : decode cX0_strip 49 = .ok (.aload_n 3, 1) := by decide +kernel
theorem dX0_strip_50 : decode cX0_strip 50 = .ok (.iload 4, 2) := by decide +kernel
theorem dX0_strip_52 : decode cX0_strip 52 = .ok (.iaload, 1) := by decide +kernel
theorem dX0_strip_53 : decode cX0_strip 53 = .ok (.iload 7, 2) := by decide +kernel
theorem dX0_strip_55 : decode cX0_strip 55 = .ok (.if_icmp .eq 7, 3) := by decide +kernel
theorem dX0_strip_58 : decode cX0_strip 58 = .ok (.iconst 1, 1) := by decide +kernel
theorem dX0_strip_59 : decode cX0_strip 59 = .ok (.goto 4, 3) := by decide +kernel
theorem dX0_strip_62 : decode cX0_strip 62 = .ok (.iconst 0, 1) := by decide +kernel
theorem dX0_strip_63 : decode cX0_strip 63 = .ok (.istore 5, 2) := by decide +kernel
theorem dX0_strip_65 : decode cX0_strip 65 = .ok (.aload_n 3, 1) := by decide +kernel
theorem dX0_strip_66 : decode cX0_strip 66 = .ok (.iload 4, 2) := by decide +kernel
theorem dX0_strip_68 : decode cX0_strip 68 = .ok (.iload 7, 2) := by decide +kernel
theorem dX0_strip_70 : decode cX0_strip 70 = .ok (.iastore, 1) := by decide +kernel
theorem dX0_strip_71 : decode cX0_strip 71 = .ok (.iinc 4 1, 3) := by decide +kernel
theorem dX0_strip_74 : decode cX0_strip 74 = .ok (.iinc 6 1, 3) := by decide +kernel
theorem dX0_strip_77 : decode cX0_strip 77 = .ok (.goto (-61), 3) := by decide +kernel
theorem dX0_strip_80 : decode cX0_strip 80 = .ok (.iload 5, 2) := by decide +kernel
theorem dX0_strip_82 : decode cX0_strip 82 = .ok (.ifCond .ne 14, 3) := by decide +kernel
theorem dX0_strip_85 : decode cX0_strip 85 = .ok (.iload 4, 2) := by decide +kernel
theorem dX0_strip_87 : decode cX0_strip 87 = .ok (.aload_n 0, 1) := by decide +kernel
theorem dX0_strip_88 : decode cX0_strip 88 = .ok (.getfield 16, 3) := by decide +kernel
theorem dX0_strip_91 : decode cX0_strip 91 = .ok (.iload_n 2, 1) := by decide +kernel
theorem dX0_strip_92 : decode cX0_strip 92 = .ok (.iaload, 1) := by decide +kernel
theorem dX0_strip_93 : decode cX0_strip 93 = .ok (.if_icmp .eq 7, 3) := by decide +kernel
theorem dX0_strip_96 : decode cX0_strip 96 = .ok (.iconst 1, 1) := by decide +kernel
theorem dX0_strip_97 : decode cX0_strip 97 = .ok (.goto 4, 3) := by decide +kernel
theorem dX0_strip_100 : decode cX0_strip 100 = .ok (.iconst 0, 1) := by decide +kernel
theorem dX0_strip_101 : decode cX0_strip 101 = .ok (.istore 5, 2) := by decide +kernel
theorem dX0_strip_103 : decode cX0_strip 103 = .ok (.aload_n 0, 1) := by decide +kernel
theorem dX0_strip_104 : decode cX0_strip 104 = .ok (.getfield 16, 3) := by decide +kernel
theorem dX0_strip_107 : decode cX0_strip 107 = .ok (.iload_n 2, 1) := by decide +kernel
theorem dX0_strip_108 : decode cX0_strip 108 = .ok (.iload 4, 2) := by decide +kernel
theorem dX0_strip_110 : decode cX0_strip 110 = .ok (.iastore, 1) := by decide +kernel
theorem dX0_strip_111 : decode cX0_strip 111 = .ok (.iload 5, 2) := by decide +kernel
theorem dX0_strip_113 : decode cX0_strip 113 = .ok (.ireturn, 1) := by decide +kernel
set_option maxRecDepth 20000 in
theorem ggX0_measure_X0_costOfOne : GoodIn wsX0_measure wsX0_costOfOne := goodIn_r _ [11] (by decide +kernel) (by decide +kernel)
set_option maxRecDepth 20000 in
theorem gX0_measure_X0_costOfOne : GoodIn wsX0_measure (va_wsS RX0 61 yX0_costOfOne wsX0_costOfOne) := goodIn_app (goodIn_of _ (by decide +kernel)) ggX0_measure_X0_costOfOne
set_option maxRecDepth 20000 in
theorem ggX0_measure_X0_costOfChange : GoodIn wsX0_measure wsX0_costOfChange := goodIn_r _ [14] (by decide +kernel) (by decide +kernel)
set_option maxRecDepth 20000 in
theorem gX0_measure_X0_costOfChange : GoodIn wsX0_measure (va_wsS RX0 64 yX0_costOfChange wsX0_costOfChange) := goodIn_app (goodIn_of _ (by decide +kernel)) ggX0_measure_X0_costOfChange
theorem dX0_measure_0 : decode cX0_measure 0 = .ok (.aload_n 0, 1) := by decide +kernel
theorem dX0_measure_1 : decode cX0_measure 1 = .ok (.getfield 11, 3) := by decide +kernel
theorem dX0_measure_4 : decode cX0_measure 4 = .ok (.iload_n 1, 1) := by decide +kernel
theorem dX0_measure_5 : decode cX0_measure 5 = .ok (.aaload, 1) := by decide +kernel
theorem dX0_measure_6 : decode cX0_measure 6 = .ok (.astore_n 3, 1) := by decide +kernel
theorem dX0_measure_7 : decode cX0_measure 7 = .ok (.aload_n 0, 1) := by decide +kernel
theorem dX0_measure_8 : decode cX0_measure 8 = .ok (.getfield 11, 3) := by decide +kernel
theorem dX0_measure_11 : decode cX0_measure 11 = .ok (.iload_n 2, 1) := by decide +kernel
theorem dX0_measure_12 : decode cX0_measure 12 = .ok (.aaload, 1) := by decide +kernel
theorem dX0_measure_13 : decode cX0_measure 13 = .ok (.astore 4, 2) := by decide +kernel
theorem dX0_measure_15 : decode cX0_measure 15 = .ok (.aload_n 0, 1) := by decide +kernel
theorem dX0_measure_16 : decode cX0_measure 16 = .ok (.getfield 27, 3) := by decide +kernel
theorem dX0_measure_19 : decode cX0_measure 19 = .ok (.iconst 0, 1) := by decide +kernel
theorem dX0_measure_20 : decode cX0_measure 20 = .ok (.aaload, 1) := by decide +kernel
theorem dX0_measure_21 : decode cX0_measure 21 = .ok (.iconst 0, 1) := by decide +kernel
theorem dX0_measure_22 : decode cX0_measure 22 = .ok (.iconst 0, 1) := by decide +kernel
theorem dX0_measure_23 : decode cX0_measure 23 = .ok (.iastore, 1) := by decide +kernel
theorem dX0_measure_24 : decode cX0_measure 24 = .ok (.iconst 1, 1) := by decide +kernel
theorem dX0_measure_25 : decode cX0_measure 25 = .ok (.istore 5, 2) := by decide +kernel
theorem dX0_measure_27 : decode cX0_measure 27 = .ok (.iload 5, 2) := by decide +kernel
theorem dX0_measure_29 : decode cX0_measure 29 = .ok (.aload_n 0, 1) := by decide +kernel
theorem dX0_measure_30 : decode cX0_measure 30 = .ok (.getfield 16, 3) := by decide +kernel
theorem dX0_measure_33 : decode cX0_measure 33 = .ok (.iload_n 2, 1) := by decide +kernel
theorem dX0_measure_34 : decode cX0_measure 34 = .ok (.iaload, 1) := by decide +kernel
theorem dX0_measure_35 : decode cX0_measure 35 = .ok (.if_icmp .gt 40, 3) := by decide +kernel
theorem dX0_measure_38 : decode cX0_measure 38 = .ok (.aload_n 0, 1) := by decide +kernel
theorem dX0_measure_39 : decode cX0_measure 39 = .ok (.getfield 27, 3) := by decide +kernel
theorem dX0_measure_42 : decode cX0_measure 42 = .ok (.iconst 0, 1) := by decide +kernel
theorem dX0_measure_43 : decode cX0_measure 43 = .ok (.aaload, 1) := by decide +kernel
theorem dX0_measure_44 : decode cX0_measure 44 = .ok (.iload 5, 2) := by decide +kernel
theorem dX0_measure_46 : decode cX0_measure 46 = .ok (.aload_n 0, 1) := by decide +kernel
theorem dX0_measure_47 : decode cX0_measure 47 = .ok (.getfield 27, 3) := by decide +kernel
theorem dX0_measure_50 : decode cX0_measure 50 = .ok (.iconst 0, 1) := by decide +kernel
theorem dX0_measure_51 : decode cX0_measure 51 = .ok (.aaload, 1) := by decide +kernel
theorem dX0_measure_52 : decode cX0_measure 52 = .ok (.iload 5, 2) := by decide +kernel
theorem dX0_measure_54 : decode cX0_measure 54 = .ok (.iconst 1, 1) := by decide +kernel
theorem dX0_measure_55 : decode cX0_measure 55 = .ok (.isub, 1) := by decide +kernel
theorem dX0_measure_56 : decode cX0_measure 56 = .ok (.iaload, 1) := by decide +kernel
theorem dX0_measure_57 : decode cX0_measure 57 = .ok (.aload 4, 2) := by decide +kernel
theorem dX0_measure_59 : decode cX0_measure 59 = .ok (.iload 5, 2) := by decide +kernel
theorem dX0_measure_61 : decode cX0_measure 61 = .ok (.iconst 1, 1) := by decide +kernel
theorem dX0_measure_62 : decode cX0_measure 62 = .ok (.isub, 1) := by decide +kernel
theorem dX0_measure_63 : decode cX0_measure 63 = .ok (.iaload, 1) := by decide +kernel
theorem dX0_measure_64 : decode cX0_measure 64 = .ok (.invokestatic 61, 3) := by decide +kernel
theorem dX0_measure_67 : decode cX0_measure 67 = .ok (.iadd, 1) := by decide +kernel
theorem dX0_measure_68 : decode cX0_measure 68 = .ok (.iastore, 1) := by decide +kernel
theorem dX0_measure_69 : decode cX0_measure 69 = .ok (.iinc 5 1, 3) := by decide +kernel
theorem dX0_measure_72 : decode cX0_measure 72 = .ok (.goto (-45), 3) := by decide +kernel
theorem dX0_measure_75 : decode cX0_measure 75 = .ok (.iconst 1, 1) := by decide +kernel
theorem dX0_measure_76 : decode cX0_measure 76 = .ok (.istore 5, 2) := by decide +kernel
theorem dX0_measure_78 : decode cX0_measure 78 = .ok (.iload 5, 2) := by decide +kernel
theorem dX0_measure_80 : decode cX0_measure 80 = .ok (.aload_n 0, 1) := by decide +kernel
theorem dX0_measure_81 : decode cX0_measure 81 = .ok (.getfield 16, 3) := by decide +kernel
theorem dX0_measure_84 : decode cX0_measure 84 = .ok (.iload_n 1, 1) := by decide +kernel
theorem dX0_measure_85 : decode cX0_measure 85 = .ok (.iaload, 1) := by decide +kernel
theorem dX0_measure_86 : decode cX0_measure 86 = .ok (.if_icmp .gt 158, 3) := by decide +kernel
theorem dX0_measure_89 : decode cX0_measure 89 = .ok (.aload_n 3, 1) := by decide +kernel
theorem dX0_measure_90 : decode cX0_measure 90 = .ok (.iload 5, 2) := by decide +kernel
theorem dX0_measure_92 : decode cX0_measure 92 = .ok (.iconst 1, 1) := by decide +kernel
theorem dX0_measure_93 : decode cX0_measure 93 = .ok (.isub, 1) := by decide +kernel
theorem dX0_measure_94 : decode cX0_measure 94 = .ok (.iaload, 1) := by decide +kernel
theorem dX0_measure_95 : decode cX0_measure 95 = .ok (.istore 6, 2) := by decide +kernel
theorem dX0_measure_97 : decode cX0_measure 97 = .ok (.aload_n 0, 1) := by decide +kernel
theorem dX0_measure_98 : decode cX0_measure 98 = .ok (.getfield 27, 3) := by decide +kernel
theorem dX0_measure_101 : decode cX0_measure 101 = .ok (.iload 5, 2) := by decide +kernel
theorem dX0_measure_103 : decode cX0_measure 103 = .ok (.aaload, 1) := by decide +kernel
theorem dX0_measure_104 : decode cX0_measure 104 = .ok (.iconst 0, 1) := by decide +kernel
theorem dX0_measure_105 : decode cX0_measure 105 = .ok (.aload_n 0, 1) := by decide +kernel
theorem dX0_measure_106 : decode cX0_measure 106 = .ok (.getfield 27, 3) := by decide +kernel
theorem dX0_measure_109 : decode cX0_measure 109 = .ok (.iload 5, 2) := by decide +kernel
theorem dX0_measure_111 : decode cX0_measure 111 = .ok (.iconst 1, 1) := by decide +kernel
theorem dX0_measure_112 : decode cX0_measure 112 = .ok (.isub, 1) := by decide +kernel
theorem dX0_measure_113 : decode cX0_measure 113 = .ok (.aaload, 1) := by decide +kernel
theorem dX0_measure_114 : decode cX0_measure 114 = .ok (.iconst 0, 1) := by decide +kernel
theorem dX0_measure_115 : decode cX0_measure 115 = .ok (.iaload, 1) := by decide +kernel
theorem dX0_measure_116 : decode cX0_measure 116 = .ok (.iload 6, 2) := by decide +kernel
theorem dX0_measure_118 : decode cX0_measure 118 = .ok (.invokestatic 61, 3) := by decide +kernel
theorem dX0_measure_121 : decode cX0_measure 121 = .ok (.iadd, 1) := by decide +kernel
theorem dX0_measure_122 : decode cX0_measure 122 = .ok (.iastore, 1) := by decide +kernel
theorem dX0_measure_123 : decode cX0_measure 123 = .ok (.iconst 1, 1) := by decide +kernel
theorem dX0_measure_124 : decode cX0_measure 124 = .ok (.istore 7, 2) := by decide +kernel
theorem dX0_measure_126 : decode cX0_measure 126 = .ok (.iload 7, 2) := by decide +kernel
theorem dX0_measure_128 : decode cX0_measure 128 = .ok (.aload_n 0, 1) := by decide +kernel
theorem dX0_measure_129 : decode cX0_measure 129 = .ok (.getfield 16, 3) := by decide +kernel
theorem dX0_measure_132 : decode cX0_measure 132 = .ok (.iload_n 2, 1) := by decide +kernel
theorem dX0_measure_133 : decode cX0_measure 133 = .ok (.iaload, 1) := by decide +kernel
theorem dX0_measure_134 : decode cX0_measure 134 = .ok (.if_icmp .gt 104, 3) := by decide +kernel
theorem dX0_measure_137 : decode cX0_measure 137 = .ok (.aload 4, 2) := by decide +kernel
theorem dX0_measure_139 : decode cX0_measure 139 = .ok (.iload 7, 2) := by decide +kernel
theorem dX0_measure_141 : decode cX0_measure 141 = .ok (.iconst 1, 1) := by decide +kernel
theorem dX0_measure_142 : decode cX0_measure 142 = .ok (.isub, 1) := by decide +kernel
theorem dX0_measure_143 : decode cX0_measure 143 = .ok (.iaload, 1) := by decide +kernel
theorem dX0_measure_144 : decode cX0_measure 144 = .ok (.istore 8, 2) := by decide +kernel
theorem dX0_measure_146 : decode cX0_measure 146 = .ok (.aload_n 0, 1) := by decide +kernel
theorem dX0_measure_147 : decode cX0_measure 147 = .ok (.getfield 27, 3) := by decide +kernel
theorem dX0_measure_150 : decode cX0_measure 150 = .ok (.iload 5, 2) := by decide +kernel
theorem dX0_measure_152 : decode cX0_measure 152 = .ok (.iconst 1, 1) := by decide +kernel
theorem dX0_measure_153 : decode cX0_measure 153 = .ok (.isub, 1) := by decide +kernel
theorem dX0_measure_154 : decode cX0_measure 154 = .ok (.aaload, 1) := by decide +kernel
theorem dX0_measure_155 : decode cX0_measure 155 = .ok (.iload 7, 2) := by decide +kernel
theorem dX0_measure_157 : decode cX0_measure 157 = .ok (.iconst 1, 1) := by decide +kernel
theorem dX0_measure_158 : decode cX0_measure 158 = .ok (.isub, 1) := by decide +kernel
theorem dX0_measure_159 : decode cX0_measure 159 = .ok (.iaload, 1) := by decide +kernel
theorem dX0_measure_160 : decode cX0_measure 160 = .ok (.iload 6, 2) := by decide +kernel
theorem dX0_measure_162 : decode cX0_measure 162 = .ok (.iload 8, 2) := by decide +kernel
theorem dX0_measure_164 : decode cX0_measure 164 = .ok (.invokestatic 64, 3) := by decide +kernel
theorem dX0_measure_167 : decode cX0_measure 167 = .ok (.iadd, 1) := by decide +kernel
theorem dX0_measure_168 : decode cX0_measure 168 = .ok (.istore 9, 2) := by decide +kernel
theorem dX0_measure_170 : decode cX0_measure 170 = .ok (.aload_n 0, 1) := by decide +kernel
theorem dX0_measure_171 : decode cX0_measure 171 = .ok (.getfield 27, 3) := by decide +kernel
theorem dX0_measure_174 : decode cX0_measure 174 = .ok (.iload 5, 2) := by decide +kernel
theorem dX0_measure_176 : decode cX0_measure 176 = .ok (.iconst 1, 1) := by decide +kernel
theorem dX0_measure_177 : decode cX0_measure 177 = .ok (.isub, 1) := by decide +kernel
theorem dX0_measure_178 : decode cX0_measure 178 = .ok (.aaload, 1) := by decide +kernel
theorem dX0_measure_179 : decode cX0_measure 179 = .ok (.iload 7, 2) := by decide +kernel
theorem dX0_measure_181 : decode cX0_measure 181 = .ok (.iaload, 1) := by decide +kernel
theorem dX0_measure_182 : decode cX0_measure 182 = .ok (.iload 6, 2) := by decide +kernel
theorem dX0_measure_184 : decode cX0_measure 184 = .ok (.invokestatic 61, 3) := by decide +kernel
theorem dX0_measure_187 : decode cX0_measure 187 = .ok (.iadd, 1) := by decide +kernel
theorem dX0_measure_188 : decode cX0_measure 188 = .ok (.istore 10, 2) := by decide +kernel
theorem dX0_measure_190 : decode cX0_measure 190 = .ok (.aload_n 0, 1) := by decide +kernel
theorem dX0_measure_191 : decode cX0_measure 191 = .ok (.getfield 27, 3) := by decide +kernel
theorem dX0_measure_194 : decode cX0_measure 194 = .ok (.iload 5, 2) := by decide +kernel
theorem dX0_measure_196 : decode cX0_measure 196 = .ok (.aaload, 1) := by decide +kernel
theorem dX0_measure_197 : decode cX0_measure 197 = .ok (.iload 7, 2) := by decide +kernel
theorem dX0_measure_199 : decode cX0_measure 199 = .ok (.iconst 1, 1) := by decide +kernel
theorem dX0_measure_200 : decode cX0_measure 200 = .ok (.isub, 1) := by decide +kernel
theorem dX0_measure_201 : decode cX0_measure 201 = .ok (.iaload, 1) := by decide +kernel
theorem dX0_measure_202 : decode cX0_measure 202 = .ok (.iload 8, 2) := by decide +kernel
theorem dX0_measure_204 : decode cX0_measure 204 = .ok (.invokestatic 61, 3) := by decide +kernel
theorem dX0_measure_207 : decode cX0_measure 207 = .ok (.iadd, 1) := by decide +kernel
theorem dX0_measure_208 : decode cX0_measure 208 = .ok (.istore 11, 2) := by decide +kernel
theorem dX0_measure_210 : decode cX0_measure 210 = .ok (.aload_n 0, 1) := by decide +kernel
theorem dX0_measure_211 : decode cX0_measure 211 = .ok (.getfield 27, 3) := by decide +kernel
theorem dX0_measure_214 : decode cX0_measure 214 = .ok (.iload 5, 2) := by decide +kernel
theorem dX0_measure_216 : decode cX0_measure 216 = .ok (.aaload, 1) := by decide +kernel
theorem dX0_measure_217 : decode cX0_measure 217 = .ok (.iload 7, 2) := by decide +kernel
theorem dX0_measure_219 : decode cX0_measure 219 = .ok (.iload 9, 2) := by decide +kernel
theorem dX0_measure_221 : decode cX0_measure 221 = .ok (.iload 10, 2) := by decide +kernel
theorem dX0_measure_223 : decode cX0_measure 223 = .ok (.iload 11, 2) := by decide +kernel
theorem dX0_measure_225 : decode cX0_measure 225 = .ok (.invokestatic 67, 3) := by decide +kernel
theorem dX0_measure_228 : decode cX0_measure 228 = .ok (.invokestatic 67, 3) := by decide +kernel
theorem dX0_measure_231 : decode cX0_measure 231 = .ok (.iastore, 1) := by decide +kernel
theorem dX0_measure_232 : decode cX0_measure 232 = .ok (.iinc 7 1, 3) := by decide +kernel
theorem dX0_measure_235 : decode cX0_measure 235 = .ok (.goto (-109), 3) := by decide +kernel
theorem dX0_measure_238 : decode cX0_measure 238 = .ok (.iinc 5 1, 3) := by decide +kernel
theorem dX0_measure_241 : decode cX0_measure 241 = .ok (.goto (-163), 3) := by decide +kernel
theorem dX0_measure_244 : decode cX0_measure 244 = .ok (.aload_n 0, 1) := by decide +kernel
theorem dX0_measure_245 : decode cX0_measure 245 = .ok (.getfield 27, 3) := by decide +kernel
theorem dX0_measure_248 : decode cX0_measure 248 = .ok (.aload_n 0, 1) := by decide +kernel
theorem dX0_measure_249 : decode cX0_measure 249 = .ok (.getfield 16, 3) := by decide +kernel
theorem dX0_measure_252 : decode cX0_measure 252 = .ok (.iload_n 1, 1) := by decide +kernel
theorem dX0_measure_253 : decode cX0_measure 253 = .ok (.iaload, 1) := by decide +kernel
theorem dX0_measure_254 : decode cX0_measure 254 = .ok (.aaload, 1) := by decide +kernel
theorem dX0_measure_255 : decode cX0_measure 255 = .ok (.aload_n 0, 1) := by decide +kernel
theorem dX0_measure_256 : decode cX0_measure 256 = .ok (.getfield 16, 3) := by decide +kernel
theorem dX0_measure_259 : decode cX0_measure 259 = .ok (.iload_n 2, 1) := by decide +kernel
theorem dX0_measure_260 : decode cX0_measure 260 = .ok (.iaload, 1) := by decide +kernel
theorem dX0_measure_261 : decode cX0_measure 261 = .ok (.iaload, 1) := by decide +kernel
theorem dX0_measure_262 : decode cX0_measure 262 = .ok (.ireturn, 1) := by decide +kernel
theorem dX0_costOfOne_0 : decode cX0_costOfOne 0 = .ok (.iload_n 0, 1) := by decide +kernel
theorem dX0_costOfOne_1 : decode cX0_costOfOne 1 = .ok (.ifCond .ne 7, 3) := by decide +kernel
theorem dX0_costOfOne_4 : decode cX0_costOfOne 4 = .ok (.iconst 1, 1) := by decide +kernel
theorem dX0_costOfOne_5 : decode cX0_costOfOne 5 = .ok (.goto 4, 3) := by decide +kernel
theorem dX0_costOfOne_8 : decode cX0_costOfOne 8 = .ok (.iconst 2, 1) := by decide +kernel
theorem dX0_costOfOne_9 : decode cX0_costOfOne 9 = .ok (.ireturn, 1) := by decide +kernel
theorem dX0_costOfChange_0 : decode cX0_costOfChange 0 = .ok (.iload_n 0, 1) := by decide +kernel
theorem dX0_costOfChange_1 : decode cX0_costOfChange 1 = .ok (.iload_n 1, 1) := by decide +kernel
theorem dX0_costOfChange_2 : decode cX0_costOfChange 2 = .ok (.if_icmp .ne 5, 3) := by decide +kernel
theorem dX0_costOfChange_5 : decode cX0_costOfChange 5 = .ok (.iconst 0, 1) := by decide +kernel
theorem dX0_costOfChange_6 : decode cX0_costOfChange 6 = .ok (.ireturn, 1) := by decide +kernel
theorem dX0_costOfChange_7 : decode cX0_costOfChange 7 = .ok (.iload_n 0, 1) := by decide +kernel
theorem dX0_costOfChange_8 : decode cX0_costOfChange 8 = .ok (.ifCond .eq 7, 3) := by decide +kernel
theorem dX0_costOfChange_11 : decode cX0_costOfChange 11 = .ok (.iload_n 1, 1) := by decide +kernel
theorem dX0_costOfChange_12 : decode cX0_costOfChange 12 = .ok (.ifCond .ne 7, 3) := by decide +kernel
theorem dX0_costOfChange_15 : decode cX0_costOfChange 15 = .ok (.iconst 2, 1) := by decide +kernel
theorem dX0_costOfChange_16 : decode cX0_costOfChange 16 = .ok (.goto 4, 3) := by decide +kernel
theorem dX0_costOfChange_19 : decode cX0_costOfChange 19 = .ok (.iconst 3, 1) := by decide +kernel
theorem dX0_costOfChange_20 : decode cX0_costOfChange 20 = .ok (.ireturn, 1) := by decide +kernel
theorem dX1_init_0 : decode cX1_init 0 = .ok (.aload_n 0, 1) := by decide +kernel
theorem dX1_init_1 : decode cX1_init 1 = .ok (.invokespecial 3, 3) := by decide +kernel
theorem dX1_init_4 : decode cX1_init 4 = .ok (.aload_n 0, 1) := by decide +kernel
theorem dX1_init_5 : decode cX1_init 5 = .ok (.bipush 40, 2) := by decide +kernel
theorem dX1_init_7 : decode cX1_init 7 = .ok (.bipush 40, 2) := by decide +kernel
theorem dX1_init_9 : decode cX1_init 9 = .ok (.multianewarray 9 2, 4) := by decide +kernel
theorem dX1_init_13 : decode cX1_init 13 = .ok (.putfield 11, 3) := by decide +kernel
theorem dX1_init_16 : decode cX1_init 16 = .ok (.aload_n 0, 1) := by decide +kernel
theorem dX1_init_17 : decode cX1_init 17 = .ok (.bipush 40, 2) := by decide +kernel
theorem dX1_init_19 : decode cX1_init 19 = .ok (.newarray .int, 2) := by decide +kernel
theorem dX1_init_21 : decode cX1_init 21 = .ok (.putfield 16, 3) := by decide +kernel
theorem dX1_init_24 : decode cX1_init 24 = .ok (.aload_n 0, 1) := by decide +kernel
theorem dX1_init_25 : decode cX1_init 25 = .ok (.bipush 40, 2) := by decide +kernel
theorem dX1_init_27 : decode cX1_init 27 = .ok (.newarray .int, 2) := by decide +kernel
theorem dX1_init_29 : decode cX1_init 29 = .ok (.putfield 20, 3) := by decide +kernel
theorem dX1_init_32 : decode cX1_init 32 = .ok (.aload_n 0, 1) := by decide +kernel
theorem dX1_init_33 : decode cX1_init 33 = .ok (.bipush 40, 2) := by decide +kernel
theorem dX1_init_35 : decode cX1_init 35 = .ok (.newarray .int, 2) := by decide +kernel
theorem dX1_init_37 : decode cX1_init 37 = .ok (.putfield 23, 3) := by decide +kernel
theorem dX1_init_40 : decode cX1_init 40 = .ok (.aload_n 0, 1) := by decide +kernel
theorem dX1_init_41 : decode cX1_init 41 = .ok (.bipush 41, 2) := by decide +kernel
theorem dX1_init_43 : decode cX1_init 43 = .ok (.newarray .int, 2) := by decide +kernel
theorem dX1_init_45 : decode cX1_init 45 = .ok (.putfield 26, 3) := by decide +kernel
theorem dX1_init_48 : decode cX1_init 48 = .ok (.aload_n 0, 1) := by decide +kernel
theorem dX1_init_49 : decode cX1_init 49 = .ok (.bipush 40, 2) := by decide +kernel
theorem dX1_init_51 : decode cX1_init 51 = .ok (.bipush 40, 2) := by decide +kernel
theorem dX1_init_53 : decode cX1_init 53 = .ok (.multianewarray 9 2, 4) := by decide +kernel
theorem dX1_init_57 : decode cX1_init 57 = .ok (.putfield 29, 3) := by decide +kernel
theorem dX1_init_60 : decode cX1_init 60 = .ok (.aload_n 0, 1) := by decide +kernel
theorem dX1_init_61 : decode cX1_init 61 = .ok (.bipush 40, 2) := by decide +kernel
theorem dX1_init_63 : decode cX1_init 63 = .ok (.bipush 40, 2) := by decide +kernel
theorem dX1_init_65 : decode cX1_init 65 = .ok (.multianewarray 9 2, 4) := by decide +kernel
theorem dX1_init_69 : decode cX1_init 69 = .ok (.putfield 32, 3) := by decide +kernel
theorem dX1_init_72 : decode cX1_init 72 = .ok (.aload_n 0, 1) := by decide +kernel
theorem dX1_init_73 : decode cX1_init 73 = .ok (.iconst 0, 1) := by decide +kernel
theorem dX1_init_74 : decode cX1_init 74 = .ok (.putfield 35, 3) := by decide +kernel
theorem dX1_init_77 : decode cX1_init 77 = .ok (.aload_n 0, 1) := by decide +kernel
theorem dX1_init_78 : decode cX1_init 78 = .ok (.iconst 0, 1) := by decide +kernel
theorem dX1_init_79 : decode cX1_init 79 = .ok (.putfield 39, 3) := by decide +kernel
theorem dX1_init_82 : decode cX1_init 82 = .ok (.aload_n 0, 1) := by decide +kernel
theorem dX1_init_83 : decode cX1_init 83 = .ok (.bipush 6, 2) := by decide +kernel
theorem dX1_init_85 : decode cX1_init 85 = .ok (.putfield 42, 3) := by decide +kernel
theorem dX1_init_88 : decode cX1_init 88 = .ok (.aload_n 0, 1) := by decide +kernel
theorem dX1_init_89 : decode cX1_init 89 = .ok (.iconst 0, 1) := by decide +kernel
theorem dX1_init_90 : decode cX1_init 90 = .ok (.putfield 45, 3) := by decide +kernel
theorem dX1_init_93 : decode cX1_init 93 = .ok (.aload_n 0, 1) := by decide +kernel
theorem dX1_init_94 : decode cX1_init 94 = .ok (.iconst 0, 1) := by decide +kernel
theorem dX1_init_95 : decode cX1_init 95 = .ok (.putfield 48, 3) := by decide +kernel
theorem dX1_init_98 : decode cX1_init 98 = .ok (.aload_n 0, 1) := by decide +kernel
theorem dX1_init_99 : decode cX1_init 99 = .ok (.iconst (-1), 1) := by decide +kernel
theorem dX1_init_100 : decode cX1_init 100 = .ok (.putfield 51, 3) := by decide +kernel
theorem dX1_init_103 : decode cX1_init 103 = .ok (.aload_n 0, 1) := by decide +kernel
theorem dX1_init_104 : decode cX1_init 104 = .ok (.iconst (-1), 1) := by decide +kernel
theorem dX1_init_105 : decode cX1_init 105 = .ok (.putfield 54, 3) := by decide +kernel
theorem dX1_init_108 : decode cX1_init 108 = .ok (.aload_n 0, 1) := by decide +kernel
theorem dX1_init_109 : decode cX1_init 109 = .ok (.iconst (-1), 1) := by decide +kernel
theorem dX1_init_110 : decode cX1_init 110 = .ok (.putfield 57, 3) := by decide +kernel
theorem dX1_init_113 : decode cX1_init 113 = .ok (.return_, 1) := by decide +kernel
theorem dX1_howMany_0 : decode cX1_howMany 0 = .ok (.aload_n 0, 1) := by decide +kernel
theorem dX1_howMany_1 : decode cX1_howMany 1 = .ok (.getfield 39, 3) := by decide +kernel
theorem dX1_howMany_4 : decode cX1_howMany 4 = .ok (.ireturn, 1) := by decide +kernel
theorem dX1_getT_0 : decode cX1_getT 0 = .ok (.aload_n 0, 1) := by decide +kernel
theorem dX1_getT_1 : decode cX1_getT 1 = .ok (.getfield 42, 3) := by decide +kernel
theorem dX1_getT_4 : decode cX1_getT 4 = .ok (.ireturn, 1) := by decide +kernel
theorem dX1_changesDone_0 : decode cX1_changesDone 0 = .ok (.aload_n 0, 1) := by decide +kernel
theorem dX1_changesDone_1 : decode cX1_changesDone 1 = .ok (.getfield 45, 3) := by decide +kernel
theorem dX1_changesDone_4 : decode cX1_changesDone 4 = .ok (.ireturn, 1) := by decide +kernel
theorem dX1_setT_0 : decode cX1_setT 0 = .ok (.iload_n 1, 1) := by decide +kernel
theorem dX1_setT_1 : decode cX1_setT 1 = .ok (.ifCond .lt 9, 3) := by decide +kernel
theorem dX1_setT_4 : decode cX1_setT 4 = .ok (.iload_n 1, 1) := by decide +kernel
theorem dX1_setT_5 : decode cX1_setT 5 = .ok (.bipush 40, 2) := by decide +kernel
theorem dX1_setT_7 : decode cX1_setT 7 = .ok (.if_icmp .le 5, 3) := by decide +kernel
theorem dX1_setT_10 : decode cX1_setT 10 = .ok (.iconst 0, 1) := by decide +kernel
theorem dX1_setT_11 : decode cX1_setT 11 = .ok (.ireturn, 1) := by decide +kernel
theorem dX1_setT_12 : decode cX1_setT 12 = .ok (.aload_n 0, 1) := by decide +kernel
theorem dX1_setT_13 : decode cX1_setT 13 = .ok (.iload_n 1, 1) := by decide +kernel
theorem dX1_setT_14 : decode cX1_setT 14 = .ok (.putfield 42, 3) := by decide +kernel
theorem dX1_setT_17 : decode cX1_setT 17 = .ok (.iconst 1, 1) := by decide +kernel
theorem dX1_setT_18 : decode cX1_setT 18 = .ok (.ireturn, 1) := by decide +kernel
theorem dX1_hasWish_0 : decode cX1_hasWish 0 = .ok (.aload_n 0, 1) := by decide +kernel
theorem dX1_hasWish_1 : decode cX1_hasWish 1 = .ok (.getfield 11, 3) := by decide +kernel
theorem dX1_hasWish_4 : decode cX1_hasWish 4 = .ok (.iload_n 1, 1) := by decide +kernel
theorem dX1_hasWish_5 : decode cX1_hasWish 5 = .ok (.aaload, 1) := by decide +kernel
theorem dX1_hasWish_6 : decode cX1_hasWish 6 = .ok (.iload_n 2, 1) := by decide +kernel
theorem dX1_hasWish_7 : decode cX1_hasWish 7 = .ok (.iaload, 1) := by decide +kernel
theorem dX1_hasWish_8 : decode cX1_hasWish 8 = .ok (.ifCond .eq 7, 3) := by decide +kernel
theorem dX1_hasWish_11 : decode cX1_hasWish 11 = .ok (.iconst 1, 1) := by decide +kernel
theorem dX1_hasWish_12 : decode cX1_hasWish 12 = .ok (.goto 4, 3) := by decide +kernel
theorem dX1_hasWish_15 : decode cX1_hasWish 15 = .ok (.iconst 0, 1) := by decide +kernel
theorem dX1_hasWish_16 : decode cX1_hasWish 16 = .ok (.ireturn, 1) := by decide +kernel
theorem dX1_wish_0 : decode cX1_wish 0 = .ok (.aload_n 0, 1) := by decide +kernel
theorem dX1_wish_1 : decode cX1_wish 1 = .ok (.getfield 11, 3) := by decide +kernel
theorem dX1_wish_4 : decode cX1_wish 4 = .ok (.iload_n 1, 1) := by decide +kernel
theorem dX1_wish_5 : decode cX1_wish 5 = .ok (.aaload, 1) := by decide +kernel
theorem dX1_wish_6 : decode cX1_wish 6 = .ok (.iload_n 2, 1) := by decide +kernel
theorem dX1_wish_7 : decode cX1_wish 7 = .ok (.iload_n 3, 1) := by decide +kernel
theorem dX1_wish_8 : decode cX1_wish 8 = .ok (.iastore, 1) := by decide +kernel
theorem dX1_wish_9 : decode cX1_wish 9 = .ok (.aload_n 0, 1) := by decide +kernel
theorem dX1_wish_10 : decode cX1_wish 10 = .ok (.getfield 11, 3) := by decide +kernel
theorem dX1_wish_13 : decode cX1_wish 13 = .ok (.iload_n 2, 1) := by decide +kernel
theorem dX1_wish_14 : decode cX1_wish 14 = .ok (.aaload, 1) := by decide +kernel
theorem dX1_wish_15 : decode cX1_wish 15 = .ok (.iload_n 1, 1) := by decide +kernel
theorem dX1_wish_16 : decode cX1_wish 16 = .ok (.iload_n 3, 1) := by decide +kernel
theorem dX1_wish_17 : decode cX1_wish 17 = .ok (.iastore, 1) := by decide +kernel
theorem dX1_wish_18 : decode cX1_wish 18 = .ok (.return_, 1) := by decide +kernel
theorem dX1_areTogether_0 : decode cX1_areTogether 0 = .ok (.aload_n 0, 1) := by decide +kernel
theorem dX1_areTogether_1 : decode cX1_areTogether 1 = .ok (.getfield 16, 3) := by decide +kernel
theorem dX1_areTogether_4 : decode cX1_areTogether 4 = .ok (.iload_n 1, 1) := by decide +kernel
theorem dX1_areTogether_5 : decode cX1_areTogether 5 = .ok (.iaload, 1) := by decide +kernel
theorem dX1_areTogether_6 : decode cX1_areTogether 6 = .ok (.aload_n 0, 1) := by decide +kernel
theorem dX1_areTogether_7 : decode cX1_areTogether 7 = .ok (.getfield 16, 3) := by decide +kernel
theorem dX1_areTogether_10 : decode cX1_areTogether 10 = .ok (.iload_n 2, 1) := by decide +kernel
theorem dX1_areTogether_11 : decode cX1_areTogether 11 = .ok (.iaload, 1) := by decide +kernel
theorem dX1_areTogether_12 : decode cX1_areTogether 12 = .ok (.if_icmp .ne 7, 3) := by decide +kernel
theorem dX1_areTogether_15 : decode cX1_areTogether 15 = .ok (.iconst 1, 1) := by decide +kernel
theorem dX1_areTogether_16 : decode cX1_areTogether 16 = .ok (.goto 4, 3) := by decide +kernel
theorem dX1_areTogether_19 : decode cX1_areTogether 19 = .ok (.iconst 0, 1) := by decide +kernel
theorem dX1_areTogether_20 : decode cX1_areTogether 20 = .ok (.ireturn, 1) := by decide +kernel
theorem dX1_leastBeside_0 : decode cX1_leastBeside 0 = .ok (.aload_n 0, 1) := by decide +kernel
theorem dX1_leastBeside_1 : decode cX1_leastBeside 1 = .ok (.getfield 20, 3) := by decide +kernel
theorem dX1_leastBeside_4 : decode cX1_leastBeside 4 = .ok (.aload_n 0, 1) := by decide +kernel
theorem dX1_leastBeside_5 : decode cX1_leastBeside 5 = .ok (.getfield 16, 3) := by decide +kernel
theorem dX1_leastBeside_8 : decode cX1_leastBeside 8 = .ok (.iload_n 1, 1) := by decide +kernel
theorem dX1_leastBeside_9 : decode cX1_leastBeside 9 = .ok (.iaload, 1) := by decide +kernel
theorem dX1_leastBeside_10 : decode cX1_leastBeside 10 = .ok (.iaload, 1) := by decide +kernel
theorem dX1_leastBeside_11 : decode cX1_leastBeside 11 = .ok (.ireturn, 1) := by decide +kernel
theorem dX1_sizeBeside_0 : decode cX1_sizeBeside 0 = .ok (.aload_n 0, 1) := by decide +kernel
theorem dX1_sizeBeside_1 : decode cX1_sizeBeside 1 = .ok (.getfield 23, 3) := by decide +kernel
theorem dX1_sizeBeside_4 : decode cX1_sizeBeside 4 = .ok (.aload_n 0, 1) := by decide +kernel
theorem dX1_sizeBeside_5 : decode cX1_sizeBeside 5 = .ok (.getfield 16, 3) := by decide +kernel
theorem dX1_sizeBeside_8 : decode cX1_sizeBeside 8 = .ok (.iload_n 1, 1) := by decide +kernel
theorem dX1_sizeBeside_9 : decode cX1_sizeBeside 9 = .ok (.iaload, 1) := by decide +kernel
theorem dX1_sizeBeside_10 : decode cX1_sizeBeside 10 = .ok (.iaload, 1) := by decide +kernel
theorem dX1_sizeBeside_11 : decode cX1_sizeBeside 11 = .ok (.ireturn, 1) := by decide +kernel
set_option maxRecDepth 20000 in
theorem ggX1_setBeside_X1_areTogether : GoodIn wsX1_setBeside wsX1_areTogether := goodIn_r _ [6, 7, 8, 9, 10, 11, 12, 13, 14, 15, 16, 17, 18, 19, 20, 21, 22] (by decide +kernel) (by decide +kernel)
set_option maxRecDepth 20000 in
theorem gX1_setBeside_X1_areTogether : GoodIn wsX1_setBeside (wsV RX1 60 RX1 yX1_areTogether wsX1_areTogether) := goodIn_app (goodIn_of _ (by decide +kernel)) ggX1_setBeside_X1_areTogether
theorem dX1_setBeside_0 : decode cX1_setBeside 0 = .ok (.lconst 0, 1) := by decide +kernel
theorem dX1_setBeside_1 : decode cX1_setBeside 1 = .ok (.lstore_n 2, 1) := by decide +kernel
theorem dX1_setBeside_2 : decode cX1_setBeside 2 = .ok (.iconst 0, 1) := by decide +kernel
theorem dX1_setBeside_3 : decode cX1_setBeside 3 = .ok (.istore 4, 2) := by decide +kernel
theorem dX1_setBeside_5 : decode cX1_setBeside 5 = .ok (.iload 4, 2) := by decide +kernel
theorem dX1_setBeside_7 : decode cX1_setBeside 7 = .ok (.aload_n 0, 1) := by decide +kernel
theorem dX1_setBeside_8 : decode cX1_setBeside 8 = .ok (.getfield 35, 3) := by decide +kernel
theorem dX1_setBeside_11 : decode cX1_setBeside 11 = .ok (.if_icmp .ge 26, 3) := by decide +kernel
theorem dX1_setBeside_14 : decode cX1_setBeside 14 = .ok (.aload_n 0, 1) := by decide +kernel
theorem dX1_setBeside_15 : decode cX1_setBeside 15 = .ok (.iload 4, 2) := by decide +kernel
theorem dX1_setBeside_17 : decode cX1_setBeside 17 = .ok (.iload_n 1, 1) := by decide +kernel
theorem dX1_setBeside_18 : decode cX1_setBeside 18 = .ok (.invokevirtual 60, 3) := by decide +kernel
theorem dX1_setBeside_21 : decode cX1_setBeside 21 = .ok (.ifCond .eq 10, 3) := by decide +kernel
theorem dX1_setBeside_24 : decode cX1_setBeside 24 = .ok (.lload_n 2, 1) := by decide +kernel
theorem dX1_setBeside_25 : decode cX1_setBeside 25 = .ok (.lconst 1, 1) := by decide +kernel
theorem dX1_setBeside_26 : decode cX1_setBeside 26 = .ok (.iload 4, 2) := by decide +kernel
theorem dX1_setBeside_28 : decode cX1_setBeside 28 = .ok (.lshl, 1) := by decide +kernel
theorem dX1_setBeside_29 : decode cX1_setBeside 29 = .ok (.lor, 1) := by decide +kernel
theorem dX1_setBeside_30 : decode cX1_setBeside 30 = .ok (.lstore_n 2, 1) := by decide +kernel
theorem dX1_setBeside_31 : decode cX1_setBeside 31 = .ok (.iinc 4 1, 3) := by decide +kernel
theorem dX1_setBeside_34 : decode cX1_setBeside 34 = .ok (.goto (-29), 3) := by decide +kernel
theorem dX1_setBeside_37 : decode cX1_setBeside 37 = .ok (.lload_n 2, 1) := by decide +kernel
theorem dX1_setBeside_38 : decode cX1_setBeside 38 = .ok (.lreturn, 1) := by decide +kernel
set_option maxRecDepth 20000 in
theorem ggX1_costOfPair_X0_between : GoodIn wsX1_costOfPair wsX0_between := goodIn_r _ [11, 12, 34, 35, 36, 37, 38] (by decide +kernel) (by decide +kernel)
set_option maxRecDepth 20000 in
theorem gX1_costOfPair_X0_between : GoodIn wsX1_costOfPair (wsV RX1 64 RX0 yX0_between wsX0_between) := goodIn_app (goodIn_of _ (by decide +kernel)) ggX1_costOfPair_X0_between
set_option maxRecDepth 20000 in
theorem ggX1_costOfPair_X1_areTogether : GoodIn wsX1_costOfPair wsX1_areTogether := goodIn_r _ [17, 18, 19, 20, 21, 22, 23, 24, 25, 26, 27, 28, 29, 30, 31, 32, 33] (by decide +kernel) (by decide +kernel)
set_option maxRecDepth 20000 in
theorem gX1_costOfPair_X1_areTogether : GoodIn wsX1_costOfPair (wsV RX1 60 RX1 yX1_areTogether wsX1_areTogether) := goodIn_app (goodIn_of _ (by decide +kernel)) ggX1_costOfPair_X1_areTogether
theorem dX1_costOfPair_0 : decode cX1_costOfPair 0 = .ok (.aload_n 3, 1) := by decide +kernel
theorem dX1_costOfPair_1 : decode cX1_costOfPair 1 = .ok (.iload_n 1, 1) := by decide +kernel
theorem dX1_costOfPair_2 : decode cX1_costOfPair 2 = .ok (.iload_n 2, 1) := by decide +kernel
theorem dX1_costOfPair_3 : decode cX1_costOfPair 3 = .ok (.invokevirtual 64, 3) := by decide +kernel
theorem dX1_costOfPair_6 : decode cX1_costOfPair 6 = .ok (.aload_n 0, 1) := by decide +kernel
theorem dX1_costOfPair_7 : decode cX1_costOfPair 7 = .ok (.getfield 42, 3) := by decide +kernel
theorem dX1_costOfPair_10 : decode cX1_costOfPair 10 = .ok (.isub, 1) := by decide +kernel
theorem dX1_costOfPair_11 : decode cX1_costOfPair 11 = .ok (.istore 4, 2) := by decide +kernel
theorem dX1_costOfPair_13 : decode cX1_costOfPair 13 = .ok (.aload_n 0, 1) := by decide +kernel
theorem dX1_costOfPair_14 : decode cX1_costOfPair 14 = .ok (.getfield 11, 3) := by decide +kernel
theorem dX1_costOfPair_17 : decode cX1_costOfPair 17 = .ok (.iload_n 1, 1) := by decide +kernel
theorem dX1_costOfPair_18 : decode cX1_costOfPair 18 = .ok (.aaload, 1) := by decide +kernel
theorem dX1_costOfPair_19 : decode cX1_costOfPair 19 = .ok (.iload_n 2, 1) := by decide +kernel
theorem dX1_costOfPair_20 : decode cX1_costOfPair 20 = .ok (.iaload, 1) := by decide +kernel
theorem dX1_costOfPair_21 : decode cX1_costOfPair 21 = .ok (.istore 5, 2) := by decide +kernel
theorem dX1_costOfPair_23 : decode cX1_costOfPair 23 = .ok (.aload_n 0, 1) := by decide +kernel
theorem dX1_costOfPair_24 : decode cX1_costOfPair 24 = .ok (.iload_n 1, 1) := by decide +kernel
theorem dX1_costOfPair_25 : decode cX1_costOfPair 25 = .ok (.iload_n 2, 1) := by decide +kernel
theorem dX1_costOfPair_26 : decode cX1_costOfPair 26 = .ok (.invokevirtual 60, 3) := by decide +kernel
theorem dX1_costOfPair_29 : decode cX1_costOfPair 29 = .ok (.ifCond .eq 17, 3) := by decide +kernel
theorem dX1_costOfPair_32 : decode cX1_costOfPair 32 = .ok (.iload 4, 2) := by decide +kernel
theorem dX1_costOfPair_34 : decode cX1_costOfPair 34 = .ok (.iconst 0, 1) := by decide +kernel
theorem dX1_costOfPair_35 : decode cX1_costOfPair 35 = .ok (.invokestatic 70, 3) := by decide +kernel
theorem dX1_costOfPair_38 : decode cX1_costOfPair 38 = .ok (.iload 5, 2) := by decide +kernel
theorem dX1_costOfPair_40 : decode cX1_costOfPair 40 = .ok (.iconst 0, 1) := by decide +kernel
theorem dX1_costOfPair_41 : decode cX1_costOfPair 41 = .ok (.invokestatic 70, 3) := by decide +kernel
theorem dX1_costOfPair_44 : decode cX1_costOfPair 44 = .ok (.iadd, 1) := by decide +kernel
theorem dX1_costOfPair_45 : decode cX1_costOfPair 45 = .ok (.ireturn, 1) := by decide +kernel
theorem dX1_costOfPair_46 : decode cX1_costOfPair 46 = .ok (.iload 4, 2) := by decide +kernel
theorem dX1_costOfPair_48 : decode cX1_costOfPair 48 = .ok (.ineg, 1) := by decide +kernel
theorem dX1_costOfPair_49 : decode cX1_costOfPair 49 = .ok (.iconst 0, 1) := by decide +kernel
theorem dX1_costOfPair_50 : decode cX1_costOfPair 50 = .ok (.invokestatic 70, 3) := by decide +kernel
theorem dX1_costOfPair_53 : decode cX1_costOfPair 53 = .ok (.iload 5, 2) := by decide +kernel
theorem dX1_costOfPair_55 : decode cX1_costOfPair 55 = .ok (.ineg, 1) := by decide +kernel
theorem dX1_costOfPair_56 : decode cX1_costOfPair 56 = .ok (.iconst 0, 1) := by decide +kernel
theorem dX1_costOfPair_57 : decode cX1_costOfPair 57 = .ok (.invokestatic 70, 3) := by decide +kernel
theorem dX1_costOfPair_60 : decode cX1_costOfPair 60 = .ok (.iadd, 1) := by decide +kernel
theorem dX1_costOfPair_61 : decode cX1_costOfPair 61 = .ok (.ireturn, 1) := by decide +kernel
set_option maxRecDepth 20000 in
theorem ggX1_costOfAll_X1_costOfPair : GoodIn wsX1_costOfAll wsX1_costOfPair := goodIn_r _ [6, 7, 8, 9, 10, 11, 12, 13, 14, 15, 16, 17, 18, 19, 20, 21, 5, 22, 23, 24, 25, 26, 27, 28, 29, 30, 31, 32, 33, 34, 35, 36, 37, 38, 39, 40, 41, 42, 43] (by decide +kernel) (by decide +kernel)
set_option maxRecDepth 20000 in
theorem gX1_costOfAll_X1_costOfPair : GoodIn wsX1_costOfAll (wsV RX1 75 RX1 yX1_costOfPair wsX1_costOfPair) := goodIn_app (goodIn_of _ (by decide +kernel)) ggX1_costOfAll_X1_costOfPair
theorem dX1_costOfAll_0 : decode cX1_costOfAll 0 = .ok (.iconst 0, 1) := by decide +kernel
theorem dX1_costOfAll_1 : decode cX1_costOfAll 1 = .ok (.istore_n 2, 1) := by decide +kernel
theorem dX1_costOfAll_2 : decode cX1_costOfAll 2 = .ok (.iconst 0, 1) := by decide +kernel
theorem dX1_costOfAll_3 : decode cX1_costOfAll 3 = .ok (.istore_n 3, 1) := by decide +kernel
theorem dX1_costOfAll_4 : decode cX1_costOfAll 4 = .ok (.iload_n 3, 1) := by decide +kernel
theorem dX1_costOfAll_5 : decode cX1_costOfAll 5 = .ok (.aload_n 0, 1) := by decide +kernel
theorem dX1_costOfAll_6 : decode cX1_costOfAll 6 = .ok (.getfield 35, 3) := by decide +kernel
theorem dX1_costOfAll_9 : decode cX1_costOfAll 9 = .ok (.if_icmp .ge 35, 3) := by decide +kernel
theorem dX1_costOfAll_12 : decode cX1_costOfAll 12 = .ok (.iconst 0, 1) := by decide +kernel
theorem dX1_costOfAll_13 : decode cX1_costOfAll 13 = .ok (.istore 4, 2) := by decide +kernel
theorem dX1_costOfAll_15 : decode cX1_costOfAll 15 = .ok (.iload 4, 2) := by decide +kernel
theorem dX1_costOfAll_17 : decode cX1_costOfAll 17 = .ok (.iload_n 3, 1) := by decide +kernel
theorem dX1_costOfAll_18 : decode cX1_costOfAll 18 = .ok (.if_icmp .ge 20, 3) := by decide +kernel
theorem dX1_costOfAll_21 : decode cX1_costOfAll 21 = .ok (.iload_n 2, 1) := by decide +kernel
theorem dX1_costOfAll_22 : decode cX1_costOfAll 22 = .ok (.aload_n 0, 1) := by decide +kernel
theorem dX1_costOfAll_23 : decode cX1_costOfAll 23 = .ok (.iload_n 3, 1) := by decide +kernel
theorem dX1_costOfAll_24 : decode cX1_costOfAll 24 = .ok (.iload 4, 2) := by decide +kernel
theorem dX1_costOfAll_26 : decode cX1_costOfAll 26 = .ok (.aload_n 1, 1) := by decide +kernel
theorem dX1_costOfAll_27 : decode cX1_costOfAll 27 = .ok (.invokevirtual 75, 3) := by decide +kernel
theorem dX1_costOfAll_30 : decode cX1_costOfAll 30 = .ok (.iadd, 1) := by decide +kernel
theorem dX1_costOfAll_31 : decode cX1_costOfAll 31 = .ok (.istore_n 2, 1) := by decide +kernel
theorem dX1_costOfAll_32 : decode cX1_costOfAll 32 = .ok (.iinc 4 1, 3) := by decide +kernel
theorem dX1_costOfAll_35 : decode cX1_costOfAll 35 = .ok (.goto (-20), 3) := by decide +kernel
theorem dX1_costOfAll_38 : decode cX1_costOfAll 38 = .ok (.iinc 3 1, 3) := by decide +kernel
theorem dX1_costOfAll_41 : decode cX1_costOfAll 41 = .ok (.goto (-37), 3) := by decide +kernel
theorem dX1_costOfAll_44 : decode cX1_costOfAll 44 = .ok (.iload_n 2, 1) := by decide +kernel
theorem dX1_costOfAll_45 : decode cX1_costOfAll 45 = .ok (.ireturn, 1) := by decide +kernel
set_option maxRecDepth 20000 in
theorem ggX1_addAlone_X1_numberAnew : GoodIn wsX1_addAlone wsX1_numberAnew := goodIn_r _ [8, 9, 3, 1, 2, 10, 11, 12, 13, 14, 15, 16, 17, 18, 19, 20, 21, 22, 23, 24, 25, 26, 27, 28, 29, 30] (by decide +kernel) (by decide +kernel)
set_option maxRecDepth 20000 in
theorem gX1_addAlone_X1_numberAnew : GoodIn wsX1_addAlone (wsV RX1 79 RX1 yX1_numberAnew wsX1_numberAnew) := goodIn_app (goodIn_of _ (by decide +kernel)) ggX1_addAlone_X1_numberAnew
theorem dX1_addAlone_0 : decode cX1_addAlone 0 = .ok (.aload_n 0, 1) := by decide +kernel
theorem dX1_addAlone_1 : decode cX1_addAlone 1 = .ok (.getfield 35, 3) := by decide +kernel
theorem dX1_addAlone_4 : decode cX1_addAlone 4 = .ok (.bipush 40, 2) := by decide +kernel
theorem dX1_addAlone_6 : decode cX1_addAlone 6 = .ok (.if_icmp .ge 30, 3) := by decide +kernel
theorem dX1_addAlone_9 : decode cX1_addAlone 9 = .ok (.aload_n 0, 1) := by decide +kernel
theorem dX1_addAlone_10 : decode cX1_addAlone 10 = .ok (.getfield 16, 3) := by decide +kernel
theorem dX1_addAlone_13 : decode cX1_addAlone 13 = .ok (.aload_n 0, 1) := by decide +kernel
theorem dX1_addAlone_14 : decode cX1_addAlone 14 = .ok (.getfield 35, 3) := by decide +kernel
theorem dX1_addAlone_17 : decode cX1_addAlone 17 = .ok (.aload_n 0, 1) := by decide +kernel
theorem dX1_addAlone_18 : decode cX1_addAlone 18 = .ok (.getfield 39, 3) := by decide +kernel
theorem dX1_addAlone_21 : decode cX1_addAlone 21 = .ok (.iastore, 1) := by decide +kernel
theorem dX1_addAlone_22 : decode cX1_addAlone 22 = .ok (.aload_n 0, 1) := by decide +kernel
theorem dX1_addAlone_23 : decode cX1_addAlone 23 = .ok (.dup, 1) := by decide +kernel
theorem dX1_addAlone_24 : decode cX1_addAlone 24 = .ok (.getfield 35, 3) := by decide +kernel
theorem dX1_addAlone_27 : decode cX1_addAlone 27 = .ok (.iconst 1, 1) := by decide +kernel
theorem dX1_addAlone_28 : decode cX1_addAlone 28 = .ok (.iadd, 1) := by decide +kernel
theorem dX1_addAlone_29 : decode cX1_addAlone 29 = .ok (.putfield 35, 3) := by decide +kernel
theorem dX1_addAlone_32 : decode cX1_addAlone 32 = .ok (.aload_n 0, 1) := by decide +kernel
theorem dX1_addAlone_33 : decode cX1_addAlone 33 = .ok (.invokevirtual 79, 3) := by decide +kernel
theorem dX1_addAlone_36 : decode cX1_addAlone 36 = .ok (.return_, 1) := by decide +kernel
set_option maxRecDepth 20000 in
theorem ggX1_partAll_X1_numberAnew : GoodIn wsX1_partAll wsX1_numberAnew := goodIn_r _ [7, 8, 9, 1, 2, 10, 11, 12, 13, 14, 15, 16, 17, 18, 19, 20, 21, 22, 23, 24, 25, 26, 27, 28, 29, 30] (by decide +kernel) (by decide +kernel)
set_option maxRecDepth 20000 in
theorem gX1_partAll_X1_numberAnew : GoodIn wsX1_partAll (wsV RX1 79 RX1 yX1_numberAnew wsX1_numberAnew) := goodIn_app (goodIn_of _ (by decide +kernel)) ggX1_partAll_X1_numberAnew
theorem dX1_partAll_0 : decode cX1_partAll 0 = .ok (.iconst 0, 1) := by decide +kernel
theorem dX1_partAll_1 : decode cX1_partAll 1 = .ok (.istore_n 1, 1) := by decide +kernel
theorem dX1_partAll_2 : decode cX1_partAll 2 = .ok (.iload_n 1, 1) := by decide +kernel
theorem dX1_partAll_3 : decode cX1_partAll 3 = .ok (.aload_n 0, 1) := by decide +kernel
theorem dX1_partAll_4 : decode cX1_partAll 4 = .ok (.getfield 35, 3) := by decide +kernel
theorem dX1_partAll_7 : decode cX1_partAll 7 = .ok (.if_icmp .ge 16, 3) := by decide +kernel
theorem dX1_partAll_10 : decode cX1_partAll 10 = .ok (.aload_n 0, 1) := by decide +kernel
theorem dX1_partAll_11 : decode cX1_partAll 11 = .ok (.getfield 16, 3) := by decide +kernel
theorem dX1_partAll_14 : decode cX1_partAll 14 = .ok (.iload_n 1, 1) := by decide +kernel
theorem dX1_partAll_15 : decode cX1_partAll 15 = .ok (.iload_n 1, 1) := by decide +kernel
theorem dX1_partAll_16 : decode cX1_partAll 16 = .ok (.iastore, 1) := by decide +kernel
theorem dX1_partAll_17 : decode cX1_partAll 17 = .ok (.iinc 1 1, 3) := by decide +kernel
theorem dX1_partAll_20 : decode cX1_partAll 20 = .ok (.goto (-18), 3) := by decide +kernel
theorem dX1_partAll_23 : decode cX1_partAll 23 = .ok (.aload_n 0, 1) := by decide +kernel
theorem dX1_partAll_24 : decode cX1_partAll 24 = .ok (.invokevirtual 79, 3) := by decide +kernel
theorem dX1_partAll_27 : decode cX1_partAll 27 = .ok (.return_, 1) := by decide +kernel
set_option maxRecDepth 20000 in
theorem ggX1_settle_X1_weighJoining : GoodIn wsX1_settle wsX1_weighJoining := goodIn_r _ [8, 9, 10, 11, 12, 13, 14, 15, 16, 17, 18, 19, 20, 21, 22, 23, 56, 57, 58, 59, 60, 61, 62, 63, 64, 65, 66, 67, 68, 69, 70, 71, 72, 73, 74, 75] (by decide +kernel) (by decide +kernel)
set_option maxRecDepth 20000 in
theorem gX1_settle_X1_weighJoining : GoodIn wsX1_settle (wsV RX1 83 RX1 yX1_weighJoining wsX1_weighJoining) := goodIn_app (goodIn_of _ (by decide +kernel)) ggX1_settle_X1_weighJoining
set_option maxRecDepth 20000 in
theorem ggX1_settle_X1_weighMelting : GoodIn wsX1_settle wsX1_weighMelting := goodIn_r _ [27, 28, 29, 9, 11, 10, 14, 15, 16, 17, 56, 57, 58, 59, 60, 61, 62, 63, 64, 65, 66, 67, 68, 69, 70] (by decide +kernel) (by decide +kernel)
set_option maxRecDepth 20000 in
theorem gX1_settle_X1_weighMelting : GoodIn wsX1_settle (wsV RX1 87 RX1 yX1_weighMelting wsX1_weighMelting) := goodIn_app (goodIn_of _ (by decide +kernel)) ggX1_settle_X1_weighMelting
set_option maxRecDepth 20000 in
theorem ggX1_settle_X1_findBest : GoodIn wsX1_settle wsX1_findBest := goodIn_r _ [33, 2, 9, 28, 29, 34, 35, 36, 37, 38, 39, 7, 40, 11, 10, 41, 42, 43, 44, 45, 56, 57, 58, 59, 60, 61, 62, 63, 64, 65, 66, 67, 68, 69, 70] (by decide +kernel) (by decide +kernel)
set_option maxRecDepth 20000 in
theorem gX1_settle_X1_findBest : GoodIn wsX1_settle (wsV RX1 90 RX1 yX1_findBest wsX1_findBest) := goodIn_app (goodIn_of _ (by decide +kernel)) ggX1_settle_X1_findBest
set_option maxRecDepth 20000 in
theorem ggX1_settle_X1_doBest : GoodIn wsX1_settle wsX1_doBest := goodIn_r _ [49, 34, 11, 36, 9, 35, 50, 51, 52, 7, 53, 54, 28, 55, 41, 14, 15, 16, 17, 56, 57, 58, 59, 60, 61, 62, 63, 64, 65, 66, 67, 68, 69, 70] (by decide +kernel) (by decide +kernel)
set_option maxRecDepth 20000 in
theorem gX1_settle_X1_doBest : GoodIn wsX1_settle (wsV RX1 93 RX1 yX1_doBest wsX1_doBest) := goodIn_app (goodIn_of _ (by decide +kernel)) ggX1_settle_X1_doBest
theorem dX1_settle_0 : decode cX1_settle 0 = .ok (.iconst 0, 1) := by decide +kernel
theorem dX1_settle_1 : decode cX1_settle 1 = .ok (.istore_n 2, 1) := by decide +kernel
theorem dX1_settle_2 : decode cX1_settle 2 = .ok (.iload_n 2, 1) := by decide +kernel
theorem dX1_settle_3 : decode cX1_settle 3 = .ok (.ldc 82, 2) := by decide +kernel
theorem dX1_settle_5 : decode cX1_settle 5 = .ok (.if_icmp .ge 44, 3) := by decide +kernel
theorem dX1_settle_8 : decode cX1_settle 8 = .ok (.aload_n 0, 1) := by decide +kernel
theorem dX1_settle_9 : decode cX1_settle 9 = .ok (.aload_n 1, 1) := by decide +kernel
theorem dX1_settle_10 : decode cX1_settle 10 = .ok (.invokevirtual 83, 3) := by decide +kernel
theorem dX1_settle_13 : decode cX1_settle 13 = .ok (.aload_n 0, 1) := by decide +kernel
theorem dX1_settle_14 : decode cX1_settle 14 = .ok (.invokevirtual 87, 3) := by decide +kernel
theorem dX1_settle_17 : decode cX1_settle 17 = .ok (.aload_n 0, 1) := by decide +kernel
theorem dX1_settle_18 : decode cX1_settle 18 = .ok (.invokevirtual 90, 3) := by decide +kernel
theorem dX1_settle_21 : decode cX1_settle 21 = .ok (.aload_n 0, 1) := by decide +kernel
theorem dX1_settle_22 : decode cX1_settle 22 = .ok (.getfield 48, 3) := by decide +kernel
theorem dX1_settle_25 : decode cX1_settle 25 = .ok (.ifCond .lt 4, 3) := by decide +kernel
theorem dX1_settle_28 : decode cX1_settle 28 = .ok (.return_, 1) := by decide +kernel
theorem dX1_settle_29 : decode cX1_settle 29 = .ok (.aload_n 0, 1) := by decide +kernel
theorem dX1_settle_30 : decode cX1_settle 30 = .ok (.invokevirtual 93, 3) := by decide +kernel
theorem dX1_settle_33 : decode cX1_settle 33 = .ok (.aload_n 0, 1) := by decide +kernel
theorem dX1_settle_34 : decode cX1_settle 34 = .ok (.dup, 1) := by decide +kernel
theorem dX1_settle_35 : decode cX1_settle 35 = .ok (.getfield 45, 3) := by decide +kernel
theorem dX1_settle_38 : decode cX1_settle 38 = .ok (.iconst 1, 1) := by decide +kernel
theorem dX1_settle_39 : decode cX1_settle 39 = .ok (.iadd, 1) := by decide +kernel
theorem dX1_settle_40 : decode cX1_settle 40 = .ok (.putfield 45, 3) := by decide +kernel
theorem dX1_settle_43 : decode cX1_settle 43 = .ok (.iinc 2 1, 3) := by decide +kernel
theorem dX1_settle_46 : decode cX1_settle 46 = .ok (.goto (-44), 3) := by decide +kernel
theorem dX1_settle_49 : decode cX1_settle 49 = .ok (.return_, 1) := by decide +kernel
set_option maxRecDepth 20000 in
theorem ggX1_weighJoining_J7_fill_53178 : GoodIn wsX1_weighJoining wsJ7_fill_53178 := goodIn_r _ [9] (by decide +kernel) (by decide +kernel)
set_option maxRecDepth 20000 in
theorem gX1_weighJoining_J7_fill_53178 : GoodIn wsX1_weighJoining (va_wsS RX1 96 yJ7_fill_53178 wsJ7_fill_53178) := goodIn_app (goodIn_of _ (by decide +kernel)) ggX1_weighJoining_J7_fill_53178
set_option maxRecDepth 20000 in
theorem ggX1_weighJoining_X0_between : GoodIn wsX1_weighJoining wsX0_between := goodIn_r _ [14, 15, 31, 32, 33, 34, 35] (by decide +kernel) (by decide +kernel)
set_option maxRecDepth 20000 in
theorem gX1_weighJoining_X0_between : GoodIn wsX1_weighJoining (wsV RX1 64 RX0 yX0_between wsX0_between) := goodIn_app (goodIn_of _ (by decide +kernel)) ggX1_weighJoining_X0_between
theorem dX1_weighJoining_0 : decode cX1_weighJoining 0 = .ok (.iconst 0, 1) := by decide +kernel
theorem dX1_weighJoining_1 : decode cX1_weighJoining 1 = .ok (.istore_n 2, 1) := by decide +kernel
theorem dX1_weighJoining_2 : decode cX1_weighJoining 2 = .ok (.iload_n 2, 1) := by decide +kernel
theorem dX1_weighJoining_3 : decode cX1_weighJoining 3 = .ok (.aload_n 0, 1) := by decide +kernel
theorem dX1_weighJoining_4 : decode cX1_weighJoining 4 = .ok (.getfield 35, 3) := by decide +kernel
theorem dX1_weighJoining_7 : decode cX1_weighJoining 7 = .ok (.if_icmp .ge 76, 3) := by decide +kernel
end
section
theorem dX1_weighJoining_10 : decode cX1_weighJoining 10 = .ok (.aload_n 0, 1) := by decide +kernel
theorem dX1_weighJoining_11 : decode cX1_weighJoining 11 = .ok (.getfield 29, 3) := by decide +kernel
theorem dX1_weighJoining_14 : decode cX1_weighJoining 14 = .ok (.iload_n 2, 1) := by decide +kernel
theorem dX1_weighJoining_15 : decode cX1_weighJoining 15 = .ok (.aaload, 1) := by decide +kernel
theorem dX1_weighJoining_16 : decode cX1_weighJoining 16 = .ok (.iconst 0, 1) := by decide +kernel
theorem dX1_weighJoining_17 : decode cX1_weighJoining 17 = .ok (.invokestatic 96, 3) := by decide +kernel
theorem dX1_weighJoining_20 : decode cX1_weighJoining 20 = .ok (.iconst 0, 1) := by decide +kernel
theorem dX1_weighJoining_21 : decode cX1_weighJoining 21 = .ok (.istore_n 3, 1) := by decide +kernel
theorem dX1_weighJoining_22 : decode cX1_weighJoining 22 = .ok (.iload_n 3, 1) := by decide +kernel
theorem dX1_weighJoining_23 : decode cX1_weighJoining 23 = .ok (.aload_n 0, 1) := by decide +kernel
theorem dX1_weighJoining_24 : decode cX1_weighJoining 24 = .ok (.getfield 35, 3) := by decide +kernel
theorem dX1_weighJoining_27 : decode cX1_weighJoining 27 = .ok (.if_icmp .ge 50, 3) := by decide +kernel
theorem dX1_weighJoining_30 : decode cX1_weighJoining 30 = .ok (.iload_n 3, 1) := by decide +kernel
theorem dX1_weighJoining_31 : decode cX1_weighJoining 31 = .ok (.iload_n 2, 1) := by decide +kernel
theorem dX1_weighJoining_32 : decode cX1_weighJoining 32 = .ok (.if_icmp .eq 39, 3) := by decide +kernel
theorem dX1_weighJoining_35 : decode cX1_weighJoining 35 = .ok (.aload_n 0, 1) := by decide +kernel
theorem dX1_weighJoining_36 : decode cX1_weighJoining 36 = .ok (.getfield 29, 3) := by decide +kernel
theorem dX1_weighJoining_39 : decode cX1_weighJoining 39 = .ok (.iload_n 2, 1) := by decide +kernel
theorem dX1_weighJoining_40 : decode cX1_weighJoining 40 = .ok (.aaload, 1) := by decide +kernel
theorem dX1_weighJoining_41 : decode cX1_weighJoining 41 = .ok (.aload_n 0, 1) := by decide +kernel
theorem dX1_weighJoining_42 : decode cX1_weighJoining 42 = .ok (.getfield 16, 3) := by decide +kernel
theorem dX1_weighJoining_45 : decode cX1_weighJoining 45 = .ok (.iload_n 3, 1) := by decide +kernel
theorem dX1_weighJoining_46 : decode cX1_weighJoining 46 = .ok (.iaload, 1) := by decide +kernel
theorem dX1_weighJoining_47 : decode cX1_weighJoining 47 = .ok (.dup2, 1) := by decide +kernel
theorem dX1_weighJoining_48 : decode cX1_weighJoining 48 = .ok (.iaload, 1) := by decide +kernel
theorem dX1_weighJoining_49 : decode cX1_weighJoining 49 = .ok (.aload_n 1, 1) := by decide +kernel
theorem dX1_weighJoining_50 : decode cX1_weighJoining 50 = .ok (.iload_n 2, 1) := by decide +kernel
theorem dX1_weighJoining_51 : decode cX1_weighJoining 51 = .ok (.iload_n 3, 1) := by decide +kernel
theorem dX1_weighJoining_52 : decode cX1_weighJoining 52 = .ok (.invokevirtual 64, 3) := by decide +kernel
theorem dX1_weighJoining_55 : decode cX1_weighJoining 55 = .ok (.aload_n 0, 1) := by decide +kernel
theorem dX1_weighJoining_56 : decode cX1_weighJoining 56 = .ok (.getfield 42, 3) := by decide +kernel
theorem dX1_weighJoining_59 : decode cX1_weighJoining 59 = .ok (.isub, 1) := by decide +kernel
theorem dX1_weighJoining_60 : decode cX1_weighJoining 60 = .ok (.aload_n 0, 1) := by decide +kernel
theorem dX1_weighJoining_61 : decode cX1_weighJoining 61 = .ok (.getfield 11, 3) := by decide +kernel
theorem dX1_weighJoining_64 : decode cX1_weighJoining 64 = .ok (.iload_n 2, 1) := by decide +kernel
theorem dX1_weighJoining_65 : decode cX1_weighJoining 65 = .ok (.aaload, 1) := by decide +kernel
theorem dX1_weighJoining_66 : decode cX1_weighJoining 66 = .ok (.iload_n 3, 1) := by decide +kernel
theorem dX1_weighJoining_67 : decode cX1_weighJoining 67 = .ok (.iaload, 1) := by decide +kernel
theorem dX1_weighJoining_68 : decode cX1_weighJoining 68 = .ok (.iadd, 1) := by decide +kernel
theorem dX1_weighJoining_69 : decode cX1_weighJoining 69 = .ok (.iadd, 1) := by decide +kernel
theorem dX1_weighJoining_70 : decode cX1_weighJoining 70 = .ok (.iastore, 1) := by decide +kernel
theorem dX1_weighJoining_71 : decode cX1_weighJoining 71 = .ok (.iinc 3 1, 3) := by decide +kernel
theorem dX1_weighJoining_74 : decode cX1_weighJoining 74 = .ok (.goto (-52), 3) := by decide +kernel
theorem dX1_weighJoining_77 : decode cX1_weighJoining 77 = .ok (.iinc 2 1, 3) := by decide +kernel
theorem dX1_weighJoining_80 : decode cX1_weighJoining 80 = .ok (.goto (-78), 3) := by decide +kernel
theorem dX1_weighJoining_83 : decode cX1_weighJoining 83 = .ok (.return_, 1) := by decide +kernel
set_option maxRecDepth 20000 in
theorem ggX1_weighMelting_J7_fill_53178 : GoodIn wsX1_weighMelting wsJ7_fill_53178 := goodIn_r _ [9] (by decide +kernel) (by decide +kernel)
set_option maxRecDepth 20000 in
theorem gX1_weighMelting_J7_fill_53178 : GoodIn wsX1_weighMelting (va_wsS RX1 96 yJ7_fill_53178 wsJ7_fill_53178) := goodIn_app (goodIn_of _ (by decide +kernel)) ggX1_weighMelting_J7_fill_53178
theorem dX1_weighMelting_0 : decode cX1_weighMelting 0 = .ok (.iconst 0, 1) := by decide +kernel
theorem dX1_weighMelting_1 : decode cX1_weighMelting 1 = .ok (.istore_n 1, 1) := by decide +kernel
theorem dX1_weighMelting_2 : decode cX1_weighMelting 2 = .ok (.iload_n 1, 1) := by decide +kernel
theorem dX1_weighMelting_3 : decode cX1_weighMelting 3 = .ok (.aload_n 0, 1) := by decide +kernel
theorem dX1_weighMelting_4 : decode cX1_weighMelting 4 = .ok (.getfield 39, 3) := by decide +kernel
theorem dX1_weighMelting_7 : decode cX1_weighMelting 7 = .ok (.if_icmp .ge 19, 3) := by decide +kernel
theorem dX1_weighMelting_10 : decode cX1_weighMelting 10 = .ok (.aload_n 0, 1) := by decide +kernel
theorem dX1_weighMelting_11 : decode cX1_weighMelting 11 = .ok (.getfield 32, 3) := by decide +kernel
theorem dX1_weighMelting_14 : decode cX1_weighMelting 14 = .ok (.iload_n 1, 1) := by decide +kernel
theorem dX1_weighMelting_15 : decode cX1_weighMelting 15 = .ok (.aaload, 1) := by decide +kernel
theorem dX1_weighMelting_16 : decode cX1_weighMelting 16 = .ok (.iconst 0, 1) := by decide +kernel
theorem dX1_weighMelting_17 : decode cX1_weighMelting 17 = .ok (.invokestatic 96, 3) := by decide +kernel
theorem dX1_weighMelting_20 : decode cX1_weighMelting 20 = .ok (.iinc 1 1, 3) := by decide +kernel
theorem dX1_weighMelting_23 : decode cX1_weighMelting 23 = .ok (.goto (-21), 3) := by decide +kernel
theorem dX1_weighMelting_26 : decode cX1_weighMelting 26 = .ok (.iconst 0, 1) := by decide +kernel
theorem dX1_weighMelting_27 : decode cX1_weighMelting 27 = .ok (.istore_n 1, 1) := by decide +kernel
theorem dX1_weighMelting_28 : decode cX1_weighMelting 28 = .ok (.iload_n 1, 1) := by decide +kernel
theorem dX1_weighMelting_29 : decode cX1_weighMelting 29 = .ok (.aload_n 0, 1) := by decide +kernel
theorem dX1_weighMelting_30 : decode cX1_weighMelting 30 = .ok (.getfield 35, 3) := by decide +kernel
theorem dX1_weighMelting_33 : decode cX1_weighMelting 33 = .ok (.if_icmp .ge 49, 3) := by decide +kernel
theorem dX1_weighMelting_36 : decode cX1_weighMelting 36 = .ok (.iconst 0, 1) := by decide +kernel
theorem dX1_weighMelting_37 : decode cX1_weighMelting 37 = .ok (.istore_n 2, 1) := by decide +kernel
theorem dX1_weighMelting_38 : decode cX1_weighMelting 38 = .ok (.iload_n 2, 1) := by decide +kernel
theorem dX1_weighMelting_39 : decode cX1_weighMelting 39 = .ok (.aload_n 0, 1) := by decide +kernel
theorem dX1_weighMelting_40 : decode cX1_weighMelting 40 = .ok (.getfield 39, 3) := by decide +kernel
theorem dX1_weighMelting_43 : decode cX1_weighMelting 43 = .ok (.if_icmp .ge 33, 3) := by decide +kernel
theorem dX1_weighMelting_46 : decode cX1_weighMelting 46 = .ok (.aload_n 0, 1) := by decide +kernel
theorem dX1_weighMelting_47 : decode cX1_weighMelting 47 = .ok (.getfield 32, 3) := by decide +kernel
theorem dX1_weighMelting_50 : decode cX1_weighMelting 50 = .ok (.aload_n 0, 1) := by decide +kernel
theorem dX1_weighMelting_51 : decode cX1_weighMelting 51 = .ok (.getfield 16, 3) := by decide +kernel
theorem dX1_weighMelting_54 : decode cX1_weighMelting 54 = .ok (.iload_n 1, 1) := by decide +kernel
theorem dX1_weighMelting_55 : decode cX1_weighMelting 55 = .ok (.iaload, 1) := by decide +kernel
theorem dX1_weighMelting_56 : decode cX1_weighMelting 56 = .ok (.aaload, 1) := by decide +kernel
theorem dX1_weighMelting_57 : decode cX1_weighMelting 57 = .ok (.iload_n 2, 1) := by decide +kernel
theorem dX1_weighMelting_58 : decode cX1_weighMelting 58 = .ok (.dup2, 1) := by decide +kernel
theorem dX1_weighMelting_59 : decode cX1_weighMelting 59 = .ok (.iaload, 1) := by decide +kernel
theorem dX1_weighMelting_60 : decode cX1_weighMelting 60 = .ok (.aload_n 0, 1) := by decide +kernel
theorem dX1_weighMelting_61 : decode cX1_weighMelting 61 = .ok (.getfield 29, 3) := by decide +kernel
theorem dX1_weighMelting_64 : decode cX1_weighMelting 64 = .ok (.iload_n 1, 1) := by decide +kernel
theorem dX1_weighMelting_65 : decode cX1_weighMelting 65 = .ok (.aaload, 1) := by decide +kernel
theorem dX1_weighMelting_66 : decode cX1_weighMelting 66 = .ok (.iload_n 2, 1) := by decide +kernel
theorem dX1_weighMelting_67 : decode cX1_weighMelting 67 = .ok (.iaload, 1) := by decide +kernel
theorem dX1_weighMelting_68 : decode cX1_weighMelting 68 = .ok (.iadd, 1) := by decide +kernel
theorem dX1_weighMelting_69 : decode cX1_weighMelting 69 = .ok (.iastore, 1) := by decide +kernel
theorem dX1_weighMelting_70 : decode cX1_weighMelting 70 = .ok (.iinc 2 1, 3) := by decide +kernel
theorem dX1_weighMelting_73 : decode cX1_weighMelting 73 = .ok (.goto (-35), 3) := by decide +kernel
theorem dX1_weighMelting_76 : decode cX1_weighMelting 76 = .ok (.iinc 1 1, 3) := by decide +kernel
theorem dX1_weighMelting_79 : decode cX1_weighMelting 79 = .ok (.goto (-51), 3) := by decide +kernel
theorem dX1_weighMelting_82 : decode cX1_weighMelting 82 = .ok (.return_, 1) := by decide +kernel
set_option maxRecDepth 20000 in
theorem ggX1_findBest_X1_findBestMove : GoodIn wsX1_findBest wsX1_findBestMove := goodIn_r _ [12, 13, 14, 3, 15, 16, 17, 18, 11, 19, 1, 5, 7, 20, 21, 22, 23, 24, 25, 26, 27, 28, 29, 30, 31, 32, 33, 34] (by decide +kernel) (by decide +kernel)
set_option maxRecDepth 20000 in
theorem gX1_findBest_X1_findBestMove : GoodIn wsX1_findBest (wsV RX1 102 RX1 yX1_findBestMove wsX1_findBestMove) := goodIn_app (goodIn_of _ (by decide +kernel)) ggX1_findBest_X1_findBestMove
theorem dX1_findBest_0 : decode cX1_findBest 0 = .ok (.aload_n 0, 1) := by decide +kernel
theorem dX1_findBest_1 : decode cX1_findBest 1 = .ok (.iconst 0, 1) := by decide +kernel
theorem dX1_findBest_2 : decode cX1_findBest 2 = .ok (.putfield 48, 3) := by decide +kernel
theorem dX1_findBest_5 : decode cX1_findBest 5 = .ok (.iconst 0, 1) := by decide +kernel
theorem dX1_findBest_6 : decode cX1_findBest 6 = .ok (.istore_n 1, 1) := by decide +kernel
theorem dX1_findBest_7 : decode cX1_findBest 7 = .ok (.iload_n 1, 1) := by decide +kernel
theorem dX1_findBest_8 : decode cX1_findBest 8 = .ok (.aload_n 0, 1) := by decide +kernel
theorem dX1_findBest_9 : decode cX1_findBest 9 = .ok (.getfield 35, 3) := by decide +kernel
theorem dX1_findBest_12 : decode cX1_findBest 12 = .ok (.if_icmp .ge 14, 3) := by decide +kernel
theorem dX1_findBest_15 : decode cX1_findBest 15 = .ok (.aload_n 0, 1) := by decide +kernel
theorem dX1_findBest_16 : decode cX1_findBest 16 = .ok (.iload_n 1, 1) := by decide +kernel
theorem dX1_findBest_17 : decode cX1_findBest 17 = .ok (.invokevirtual 102, 3) := by decide +kernel
theorem dX1_findBest_20 : decode cX1_findBest 20 = .ok (.iinc 1 1, 3) := by decide +kernel
theorem dX1_findBest_23 : decode cX1_findBest 23 = .ok (.goto (-16), 3) := by decide +kernel
theorem dX1_findBest_26 : decode cX1_findBest 26 = .ok (.iconst 0, 1) := by decide +kernel
theorem dX1_findBest_27 : decode cX1_findBest 27 = .ok (.istore_n 1, 1) := by decide +kernel
theorem dX1_findBest_28 : decode cX1_findBest 28 = .ok (.iload_n 1, 1) := by decide +kernel
theorem dX1_findBest_29 : decode cX1_findBest 29 = .ok (.aload_n 0, 1) := by decide +kernel
theorem dX1_findBest_30 : decode cX1_findBest 30 = .ok (.getfield 39, 3) := by decide +kernel
theorem dX1_findBest_33 : decode cX1_findBest 33 = .ok (.if_icmp .ge 69, 3) := by decide +kernel
theorem dX1_findBest_36 : decode cX1_findBest 36 = .ok (.iload_n 1, 1) := by decide +kernel
theorem dX1_findBest_37 : decode cX1_findBest 37 = .ok (.iconst 1, 1) := by decide +kernel
theorem dX1_findBest_38 : decode cX1_findBest 38 = .ok (.iadd, 1) := by decide +kernel
theorem dX1_findBest_39 : decode cX1_findBest 39 = .ok (.istore_n 2, 1) := by decide +kernel
theorem dX1_findBest_40 : decode cX1_findBest 40 = .ok (.iload_n 2, 1) := by decide +kernel
theorem dX1_findBest_41 : decode cX1_findBest 41 = .ok (.aload_n 0, 1) := by decide +kernel
theorem dX1_findBest_42 : decode cX1_findBest 42 = .ok (.getfield 39, 3) := by decide +kernel
theorem dX1_findBest_45 : decode cX1_findBest 45 = .ok (.if_icmp .ge 51, 3) := by decide +kernel
theorem dX1_findBest_48 : decode cX1_findBest 48 = .ok (.aload_n 0, 1) := by decide +kernel
theorem dX1_findBest_49 : decode cX1_findBest 49 = .ok (.getfield 32, 3) := by decide +kernel
theorem dX1_findBest_52 : decode cX1_findBest 52 = .ok (.iload_n 1, 1) := by decide +kernel
theorem dX1_findBest_53 : decode cX1_findBest 53 = .ok (.aaload, 1) := by decide +kernel
theorem dX1_findBest_54 : decode cX1_findBest 54 = .ok (.iload_n 2, 1) := by decide +kernel
theorem dX1_findBest_55 : decode cX1_findBest 55 = .ok (.iaload, 1) := by decide +kernel
theorem dX1_findBest_56 : decode cX1_findBest 56 = .ok (.aload_n 0, 1) := by decide +kernel
theorem dX1_findBest_57 : decode cX1_findBest 57 = .ok (.getfield 48, 3) := by decide +kernel
theorem dX1_findBest_60 : decode cX1_findBest 60 = .ok (.if_icmp .ge 30, 3) := by decide +kernel
theorem dX1_findBest_63 : decode cX1_findBest 63 = .ok (.aload_n 0, 1) := by decide +kernel
theorem dX1_findBest_64 : decode cX1_findBest 64 = .ok (.aload_n 0, 1) := by decide +kernel
theorem dX1_findBest_65 : decode cX1_findBest 65 = .ok (.getfield 32, 3) := by decide +kernel
theorem dX1_findBest_68 : decode cX1_findBest 68 = .ok (.iload_n 1, 1) := by decide +kernel
theorem dX1_findBest_69 : decode cX1_findBest 69 = .ok (.aaload, 1) := by decide +kernel
theorem dX1_findBest_70 : decode cX1_findBest 70 = .ok (.iload_n 2, 1) := by decide +kernel
theorem dX1_findBest_71 : decode cX1_findBest 71 = .ok (.iaload, 1) := by decide +kernel
theorem dX1_findBest_72 : decode cX1_findBest 72 = .ok (.putfield 48, 3) := by decide +kernel
theorem dX1_findBest_75 : decode cX1_findBest 75 = .ok (.aload_n 0, 1) := by decide +kernel
theorem dX1_findBest_76 : decode cX1_findBest 76 = .ok (.iconst (-1), 1) := by decide +kernel
theorem dX1_findBest_77 : decode cX1_findBest 77 = .ok (.putfield 51, 3) := by decide +kernel
theorem dX1_findBest_80 : decode cX1_findBest 80 = .ok (.aload_n 0, 1) := by decide +kernel
theorem dX1_findBest_81 : decode cX1_findBest 81 = .ok (.iload_n 2, 1) := by decide +kernel
theorem dX1_findBest_82 : decode cX1_findBest 82 = .ok (.putfield 54, 3) := by decide +kernel
theorem dX1_findBest_85 : decode cX1_findBest 85 = .ok (.aload_n 0, 1) := by decide +kernel
theorem dX1_findBest_86 : decode cX1_findBest 86 = .ok (.iload_n 1, 1) := by decide +kernel
theorem dX1_findBest_87 : decode cX1_findBest 87 = .ok (.putfield 57, 3) := by decide +kernel
theorem dX1_findBest_90 : decode cX1_findBest 90 = .ok (.iinc 2 1, 3) := by decide +kernel
theorem dX1_findBest_93 : decode cX1_findBest 93 = .ok (.goto (-53), 3) := by decide +kernel
theorem dX1_findBest_96 : decode cX1_findBest 96 = .ok (.iinc 1 1, 3) := by decide +kernel
theorem dX1_findBest_99 : decode cX1_findBest 99 = .ok (.goto (-71), 3) := by decide +kernel
theorem dX1_findBest_102 : decode cX1_findBest 102 = .ok (.return_, 1) := by decide +kernel
set_option maxRecDepth 20000 in
theorem ggX1_findBestMove_X1_weighMove : GoodIn wsX1_findBestMove wsX1_weighMove := goodIn_r _ [9, 10, 11, 12, 13, 14, 15, 16, 17, 18, 19, 20, 21, 22, 23, 24, 25, 26, 27] (by decide +kernel) (by decide +kernel)
set_option maxRecDepth 20000 in
theorem gX1_findBestMove_X1_weighMove : GoodIn wsX1_findBestMove (wsV RX1 106 RX1 yX1_weighMove wsX1_weighMove) := goodIn_app (goodIn_of _ (by decide +kernel)) ggX1_findBestMove_X1_weighMove
theorem dX1_findBestMove_0 : decode cX1_findBestMove 0 = .ok (.aload_n 0, 1) := by decide +kernel
theorem dX1_findBestMove_1 : decode cX1_findBestMove 1 = .ok (.getfield 16, 3) := by decide +kernel
theorem dX1_findBestMove_4 : decode cX1_findBestMove 4 = .ok (.iload_n 1, 1) := by decide +kernel
theorem dX1_findBestMove_5 : decode cX1_findBestMove 5 = .ok (.iaload, 1) := by decide +kernel
theorem dX1_findBestMove_6 : decode cX1_findBestMove 6 = .ok (.istore_n 2, 1) := by decide +kernel
theorem dX1_findBestMove_7 : decode cX1_findBestMove 7 = .ok (.aload_n 0, 1) := by decide +kernel
theorem dX1_findBestMove_8 : decode cX1_findBestMove 8 = .ok (.getfield 29, 3) := by decide +kernel
theorem dX1_findBestMove_11 : decode cX1_findBestMove 11 = .ok (.iload_n 1, 1) := by decide +kernel
theorem dX1_findBestMove_12 : decode cX1_findBestMove 12 = .ok (.aaload, 1) := by decide +kernel
theorem dX1_findBestMove_13 : decode cX1_findBestMove 13 = .ok (.iload_n 2, 1) := by decide +kernel
theorem dX1_findBestMove_14 : decode cX1_findBestMove 14 = .ok (.iaload, 1) := by decide +kernel
theorem dX1_findBestMove_15 : decode cX1_findBestMove 15 = .ok (.ineg, 1) := by decide +kernel
theorem dX1_findBestMove_16 : decode cX1_findBestMove 16 = .ok (.istore_n 3, 1) := by decide +kernel
theorem dX1_findBestMove_17 : decode cX1_findBestMove 17 = .ok (.iconst 0, 1) := by decide +kernel
theorem dX1_findBestMove_18 : decode cX1_findBestMove 18 = .ok (.istore 4, 2) := by decide +kernel
theorem dX1_findBestMove_20 : decode cX1_findBestMove 20 = .ok (.iload 4, 2) := by decide +kernel
theorem dX1_findBestMove_22 : decode cX1_findBestMove 22 = .ok (.aload_n 0, 1) := by decide +kernel
theorem dX1_findBestMove_23 : decode cX1_findBestMove 23 = .ok (.getfield 39, 3) := by decide +kernel
theorem dX1_findBestMove_26 : decode cX1_findBestMove 26 = .ok (.if_icmp .ge 33, 3) := by decide +kernel
theorem dX1_findBestMove_29 : decode cX1_findBestMove 29 = .ok (.iload 4, 2) := by decide +kernel
theorem dX1_findBestMove_31 : decode cX1_findBestMove 31 = .ok (.iload_n 2, 1) := by decide +kernel
theorem dX1_findBestMove_32 : decode cX1_findBestMove 32 = .ok (.if_icmp .eq 21, 3) := by decide +kernel
theorem dX1_findBestMove_35 : decode cX1_findBestMove 35 = .ok (.aload_n 0, 1) := by decide +kernel
theorem dX1_findBestMove_36 : decode cX1_findBestMove 36 = .ok (.iload_n 1, 1) := by decide +kernel
theorem dX1_findBestMove_37 : decode cX1_findBestMove 37 = .ok (.iload 4, 2) := by decide +kernel
theorem dX1_findBestMove_39 : decode cX1_findBestMove 39 = .ok (.iload_n 3, 1) := by decide +kernel
theorem dX1_findBestMove_40 : decode cX1_findBestMove 40 = .ok (.aload_n 0, 1) := by decide +kernel
theorem dX1_findBestMove_41 : decode cX1_findBestMove 41 = .ok (.getfield 29, 3) := by decide +kernel
theorem dX1_findBestMove_44 : decode cX1_findBestMove 44 = .ok (.iload_n 1, 1) := by decide +kernel
theorem dX1_findBestMove_45 : decode cX1_findBestMove 45 = .ok (.aaload, 1) := by decide +kernel
theorem dX1_findBestMove_46 : decode cX1_findBestMove 46 = .ok (.iload 4, 2) := by decide +kernel
theorem dX1_findBestMove_48 : decode cX1_findBestMove 48 = .ok (.iaload, 1) := by decide +kernel
theorem dX1_findBestMove_49 : decode cX1_findBestMove 49 = .ok (.iadd, 1) := by decide +kernel
theorem dX1_findBestMove_50 : decode cX1_findBestMove 50 = .ok (.invokevirtual 106, 3) := by decide +kernel
theorem dX1_findBestMove_53 : decode cX1_findBestMove 53 = .ok (.iinc 4 1, 3) := by decide +kernel
theorem dX1_findBestMove_56 : decode cX1_findBestMove 56 = .ok (.goto (-36), 3) := by decide +kernel
theorem dX1_findBestMove_59 : decode cX1_findBestMove 59 = .ok (.aload_n 0, 1) := by decide +kernel
theorem dX1_findBestMove_60 : decode cX1_findBestMove 60 = .ok (.getfield 23, 3) := by decide +kernel
theorem dX1_findBestMove_63 : decode cX1_findBestMove 63 = .ok (.iload_n 2, 1) := by decide +kernel
theorem dX1_findBestMove_64 : decode cX1_findBestMove 64 = .ok (.iaload, 1) := by decide +kernel
theorem dX1_findBestMove_65 : decode cX1_findBestMove 65 = .ok (.iconst 1, 1) := by decide +kernel
theorem dX1_findBestMove_66 : decode cX1_findBestMove 66 = .ok (.if_icmp .le 13, 3) := by decide +kernel
theorem dX1_findBestMove_69 : decode cX1_findBestMove 69 = .ok (.aload_n 0, 1) := by decide +kernel
theorem dX1_findBestMove_70 : decode cX1_findBestMove 70 = .ok (.iload_n 1, 1) := by decide +kernel
theorem dX1_findBestMove_71 : decode cX1_findBestMove 71 = .ok (.aload_n 0, 1) := by decide +kernel
theorem dX1_findBestMove_72 : decode cX1_findBestMove 72 = .ok (.getfield 39, 3) := by decide +kernel
theorem dX1_findBestMove_75 : decode cX1_findBestMove 75 = .ok (.iload_n 3, 1) := by decide +kernel
theorem dX1_findBestMove_76 : decode cX1_findBestMove 76 = .ok (.invokevirtual 106, 3) := by decide +kernel
theorem dX1_findBestMove_79 : decode cX1_findBestMove 79 = .ok (.return_, 1) := by decide +kernel
theorem dX1_weighMove_0 : decode cX1_weighMove 0 = .ok (.iload_n 3, 1) := by decide +kernel
theorem dX1_weighMove_1 : decode cX1_weighMove 1 = .ok (.aload_n 0, 1) := by decide +kernel
theorem dX1_weighMove_2 : decode cX1_weighMove 2 = .ok (.getfield 48, 3) := by decide +kernel
theorem dX1_weighMove_5 : decode cX1_weighMove 5 = .ok (.if_icmp .ge 18, 3) := by decide +kernel
theorem dX1_weighMove_8 : decode cX1_weighMove 8 = .ok (.aload_n 0, 1) := by decide +kernel
theorem dX1_weighMove_9 : decode cX1_weighMove 9 = .ok (.iload_n 3, 1) := by decide +kernel
theorem dX1_weighMove_10 : decode cX1_weighMove 10 = .ok (.putfield 48, 3) := by decide +kernel
theorem dX1_weighMove_13 : decode cX1_weighMove 13 = .ok (.aload_n 0, 1) := by decide +kernel
theorem dX1_weighMove_14 : decode cX1_weighMove 14 = .ok (.iload_n 1, 1) := by decide +kernel
theorem dX1_weighMove_15 : decode cX1_weighMove 15 = .ok (.putfield 51, 3) := by decide +kernel
theorem dX1_weighMove_18 : decode cX1_weighMove 18 = .ok (.aload_n 0, 1) := by decide +kernel
theorem dX1_weighMove_19 : decode cX1_weighMove 19 = .ok (.iload_n 2, 1) := by decide +kernel
theorem dX1_weighMove_20 : decode cX1_weighMove 20 = .ok (.putfield 57, 3) := by decide +kernel
theorem dX1_weighMove_23 : decode cX1_weighMove 23 = .ok (.return_, 1) := by decide +kernel
set_option maxRecDepth 20000 in
theorem ggX1_doBest_X1_numberAnew : GoodIn wsX1_doBest wsX1_numberAnew := goodIn_r _ [10, 11, 12, 4, 2, 13, 14, 15, 16, 17, 18, 19, 20, 21, 22, 23, 24, 25, 26, 27, 28, 29, 30, 31, 32, 33] (by decide +kernel) (by decide +kernel)
set_option maxRecDepth 20000 in
theorem gX1_doBest_X1_numberAnew : GoodIn wsX1_doBest (wsV RX1 79 RX1 yX1_numberAnew wsX1_numberAnew) := goodIn_app (goodIn_of _ (by decide +kernel)) ggX1_doBest_X1_numberAnew
theorem dX1_doBest_0 : decode cX1_doBest 0 = .ok (.aload_n 0, 1) := by decide +kernel
theorem dX1_doBest_1 : decode cX1_doBest 1 = .ok (.getfield 51, 3) := by decide +kernel
theorem dX1_doBest_4 : decode cX1_doBest 4 = .ok (.iconst (-1), 1) := by decide +kernel
theorem dX1_doBest_5 : decode cX1_doBest 5 = .ok (.if_icmp .eq 19, 3) := by decide +kernel
theorem dX1_doBest_8 : decode cX1_doBest 8 = .ok (.aload_n 0, 1) := by decide +kernel
theorem dX1_doBest_9 : decode cX1_doBest 9 = .ok (.getfield 16, 3) := by decide +kernel
theorem dX1_doBest_12 : decode cX1_doBest 12 = .ok (.aload_n 0, 1) := by decide +kernel
theorem dX1_doBest_13 : decode cX1_doBest 13 = .ok (.getfield 51, 3) := by decide +kernel
theorem dX1_doBest_16 : decode cX1_doBest 16 = .ok (.aload_n 0, 1) := by decide +kernel
theorem dX1_doBest_17 : decode cX1_doBest 17 = .ok (.getfield 57, 3) := by decide +kernel
theorem dX1_doBest_20 : decode cX1_doBest 20 = .ok (.iastore, 1) := by decide +kernel
theorem dX1_doBest_21 : decode cX1_doBest 21 = .ok (.goto 42, 3) := by decide +kernel
theorem dX1_doBest_24 : decode cX1_doBest 24 = .ok (.iconst 0, 1) := by decide +kernel
theorem dX1_doBest_25 : decode cX1_doBest 25 = .ok (.istore_n 1, 1) := by decide +kernel
theorem dX1_doBest_26 : decode cX1_doBest 26 = .ok (.iload_n 1, 1) := by decide +kernel
theorem dX1_doBest_27 : decode cX1_doBest 27 = .ok (.aload_n 0, 1) := by decide +kernel
theorem dX1_doBest_28 : decode cX1_doBest 28 = .ok (.getfield 35, 3) := by decide +kernel
theorem dX1_doBest_31 : decode cX1_doBest 31 = .ok (.if_icmp .ge 32, 3) := by decide +kernel
theorem dX1_doBest_34 : decode cX1_doBest 34 = .ok (.aload_n 0, 1) := by decide +kernel
theorem dX1_doBest_35 : decode cX1_doBest 35 = .ok (.getfield 16, 3) := by decide +kernel
theorem dX1_doBest_38 : decode cX1_doBest 38 = .ok (.iload_n 1, 1) := by decide +kernel
theorem dX1_doBest_39 : decode cX1_doBest 39 = .ok (.iaload, 1) := by decide +kernel
theorem dX1_doBest_40 : decode cX1_doBest 40 = .ok (.aload_n 0, 1) := by decide +kernel
theorem dX1_doBest_41 : decode cX1_doBest 41 = .ok (.getfield 54, 3) := by decide +kernel
theorem dX1_doBest_44 : decode cX1_doBest 44 = .ok (.if_icmp .ne 13, 3) := by decide +kernel
theorem dX1_doBest_47 : decode cX1_doBest 47 = .ok (.aload_n 0, 1) := by decide +kernel
theorem dX1_doBest_48 : decode cX1_doBest 48 = .ok (.getfield 16, 3) := by decide +kernel
theorem dX1_doBest_51 : decode cX1_doBest 51 = .ok (.iload_n 1, 1) := by decide +kernel
theorem dX1_doBest_52 : decode cX1_doBest 52 = .ok (.aload_n 0, 1) := by decide +kernel
theorem dX1_doBest_53 : decode cX1_doBest 53 = .ok (.getfield 57, 3) := by decide +kernel
theorem dX1_doBest_56 : decode cX1_doBest 56 = .ok (.iastore, 1) := by decide +kernel
theorem dX1_doBest_57 : decode cX1_doBest 57 = .ok (.iinc 1 1, 3) := by decide +kernel
theorem dX1_doBest_60 : decode cX1_doBest 60 = .ok (.goto (-34), 3) := by decide +kernel
theorem dX1_doBest_63 : decode cX1_doBest 63 = .ok (.aload_n 0, 1) := by decide +kernel
theorem dX1_doBest_64 : decode cX1_doBest 64 = .ok (.invokevirtual 79, 3) := by decide +kernel
theorem dX1_doBest_67 : decode cX1_doBest 67 = .ok (.return_, 1) := by decide +kernel
set_option maxRecDepth 20000 in
theorem ggX1_numberAnew_J7_fill_53178 : GoodIn wsX1_numberAnew wsJ7_fill_53178 := goodIn_r _ [10] (by decide +kernel) (by decide +kernel)
set_option maxRecDepth 20000 in
theorem gX1_numberAnew_J7_fill_53178 : GoodIn wsX1_numberAnew (va_wsS RX1 96 yJ7_fill_53178 wsJ7_fill_53178) := goodIn_app (goodIn_of _ (by decide +kernel)) ggX1_numberAnew_J7_fill_53178
theorem dX1_numberAnew_0 : decode cX1_numberAnew 0 = .ok (.aload_n 0, 1) := by decide +kernel
theorem dX1_numberAnew_1 : decode cX1_numberAnew 1 = .ok (.getfield 26, 3) := by decide +kernel
theorem dX1_numberAnew_4 : decode cX1_numberAnew 4 = .ok (.iconst (-1), 1) := by decide +kernel
theorem dX1_numberAnew_5 : decode cX1_numberAnew 5 = .ok (.invokestatic 96, 3) := by decide +kernel
theorem dX1_numberAnew_8 : decode cX1_numberAnew 8 = .ok (.aload_n 0, 1) := by decide +kernel
theorem dX1_numberAnew_9 : decode cX1_numberAnew 9 = .ok (.iconst 0, 1) := by decide +kernel
theorem dX1_numberAnew_10 : decode cX1_numberAnew 10 = .ok (.putfield 39, 3) := by decide +kernel
theorem dX1_numberAnew_13 : decode cX1_numberAnew 13 = .ok (.iconst 0, 1) := by decide +kernel
theorem dX1_numberAnew_14 : decode cX1_numberAnew 14 = .ok (.istore_n 1, 1) := by decide +kernel
theorem dX1_numberAnew_15 : decode cX1_numberAnew 15 = .ok (.iload_n 1, 1) := by decide +kernel
theorem dX1_numberAnew_16 : decode cX1_numberAnew 16 = .ok (.aload_n 0, 1) := by decide +kernel
theorem dX1_numberAnew_17 : decode cX1_numberAnew 17 = .ok (.getfield 35, 3) := by decide +kernel
theorem dX1_numberAnew_20 : decode cX1_numberAnew 20 = .ok (.if_icmp .ge 93, 3) := by decide +kernel
theorem dX1_numberAnew_23 : decode cX1_numberAnew 23 = .ok (.aload_n 0, 1) := by decide +kernel
theorem dX1_numberAnew_24 : decode cX1_numberAnew 24 = .ok (.getfield 16, 3) := by decide +kernel
theorem dX1_numberAnew_27 : decode cX1_numberAnew 27 = .ok (.iload_n 1, 1) := by decide +kernel
theorem dX1_numberAnew_28 : decode cX1_numberAnew 28 = .ok (.iaload, 1) := by decide +kernel
theorem dX1_numberAnew_29 : decode cX1_numberAnew 29 = .ok (.istore_n 2, 1) := by decide +kernel
theorem dX1_numberAnew_30 : decode cX1_numberAnew 30 = .ok (.aload_n 0, 1) := by decide +kernel
theorem dX1_numberAnew_31 : decode cX1_numberAnew 31 = .ok (.getfield 26, 3) := by decide +kernel
theorem dX1_numberAnew_34 : decode cX1_numberAnew 34 = .ok (.iload_n 2, 1) := by decide +kernel
theorem dX1_numberAnew_35 : decode cX1_numberAnew 35 = .ok (.iaload, 1) := by decide +kernel
theorem dX1_numberAnew_36 : decode cX1_numberAnew 36 = .ok (.iconst (-1), 1) := by decide +kernel
theorem dX1_numberAnew_37 : decode cX1_numberAnew 37 = .ok (.if_icmp .ne 43, 3) := by decide +kernel
theorem dX1_numberAnew_40 : decode cX1_numberAnew 40 = .ok (.aload_n 0, 1) := by decide +kernel
theorem dX1_numberAnew_41 : decode cX1_numberAnew 41 = .ok (.getfield 26, 3) := by decide +kernel
theorem dX1_numberAnew_44 : decode cX1_numberAnew 44 = .ok (.iload_n 2, 1) := by decide +kernel
theorem dX1_numberAnew_45 : decode cX1_numberAnew 45 = .ok (.aload_n 0, 1) := by decide +kernel
theorem dX1_numberAnew_46 : decode cX1_numberAnew 46 = .ok (.getfield 39, 3) := by decide +kernel
theorem dX1_numberAnew_49 : decode cX1_numberAnew 49 = .ok (.iastore, 1) := by decide +kernel
theorem dX1_numberAnew_50 : decode cX1_numberAnew 50 = .ok (.aload_n 0, 1) := by decide +kernel
theorem dX1_numberAnew_51 : decode cX1_numberAnew 51 = .ok (.getfield 20, 3) := by decide +kernel
theorem dX1_numberAnew_54 : decode cX1_numberAnew 54 = .ok (.aload_n 0, 1) := by decide +kernel
theorem dX1_numberAnew_55 : decode cX1_numberAnew 55 = .ok (.getfield 39, 3) := by decide +kernel
theorem dX1_numberAnew_58 : decode cX1_numberAnew 58 = .ok (.iload_n 1, 1) := by decide +kernel
theorem dX1_numberAnew_59 : decode cX1_numberAnew 59 = .ok (.iastore, 1) := by decide +kernel
theorem dX1_numberAnew_60 : decode cX1_numberAnew 60 = .ok (.aload_n 0, 1) := by decide +kernel
theorem dX1_numberAnew_61 : decode cX1_numberAnew 61 = .ok (.getfield 23, 3) := by decide +kernel
theorem dX1_numberAnew_64 : decode cX1_numberAnew 64 = .ok (.aload_n 0, 1) := by decide +kernel
theorem dX1_numberAnew_65 : decode cX1_numberAnew 65 = .ok (.getfield 39, 3) := by decide +kernel
theorem dX1_numberAnew_68 : decode cX1_numberAnew 68 = .ok (.iconst 0, 1) := by decide +kernel
theorem dX1_numberAnew_69 : decode cX1_numberAnew 69 = .ok (.iastore, 1) := by decide +kernel
theorem dX1_numberAnew_70 : decode cX1_numberAnew 70 = .ok (.aload_n 0, 1) := by decide +kernel
theorem dX1_numberAnew_71 : decode cX1_numberAnew 71 = .ok (.dup, 1) := by decide +kernel
theorem dX1_numberAnew_72 : decode cX1_numberAnew 72 = .ok (.getfield 39, 3) := by decide +kernel
theorem dX1_numberAnew_75 : decode cX1_numberAnew 75 = .ok (.iconst 1, 1) := by decide +kernel
theorem dX1_numberAnew_76 : decode cX1_numberAnew 76 = .ok (.iadd, 1) := by decide +kernel
theorem dX1_numberAnew_77 : decode cX1_numberAnew 77 = .ok (.putfield 39, 3) := by decide +kernel
theorem dX1_numberAnew_80 : decode cX1_numberAnew 80 = .ok (.aload_n 0, 1) := by decide +kernel
theorem dX1_numberAnew_81 : decode cX1_numberAnew 81 = .ok (.getfield 16, 3) := by decide +kernel
theorem dX1_numberAnew_84 : decode cX1_numberAnew 84 = .ok (.iload_n 1, 1) := by decide +kernel
theorem dX1_numberAnew_85 : decode cX1_numberAnew 85 = .ok (.aload_n 0, 1) := by decide +kernel
theorem dX1_numberAnew_86 : decode cX1_numberAnew 86 = .ok (.getfield 26, 3) := by decide +kernel
theorem dX1_numberAnew_89 : decode cX1_numberAnew 89 = .ok (.iload_n 2, 1) := by decide +kernel
theorem dX1_numberAnew_90 : decode cX1_numberAnew 90 = .ok (.iaload, 1) := by decide +kernel
theorem dX1_numberAnew_91 : decode cX1_numberAnew 91 = .ok (.iastore, 1) := by decide +kernel
theorem dX1_numberAnew_92 : decode cX1_numberAnew 92 = .ok (.aload_n 0, 1) := by decide +kernel
theorem dX1_numberAnew_93 : decode cX1_numberAnew 93 = .ok (.getfield 23, 3) := by decide +kernel
theorem dX1_numberAnew_96 : decode cX1_numberAnew 96 = .ok (.aload_n 0, 1) := by decide +kernel
theorem dX1_numberAnew_97 : decode cX1_numberAnew 97 = .ok (.getfield 16, 3) := by decide +kernel
theorem dX1_numberAnew_100 : decode cX1_numberAnew 100 = .ok (.iload_n 1, 1) := by decide +kernel
theorem dX1_numberAnew_101 : decode cX1_numberAnew 101 = .ok (.iaload, 1) := by decide +kernel
theorem dX1_numberAnew_102 : decode cX1_numberAnew 102 = .ok (.dup2, 1) := by decide +kernel
theorem dX1_numberAnew_103 : decode cX1_numberAnew 103 = .ok (.iaload, 1) := by decide +kernel
theorem dX1_numberAnew_104 : decode cX1_numberAnew 104 = .ok (.iconst 1, 1) := by decide +kernel
theorem dX1_numberAnew_105 : decode cX1_numberAnew 105 = .ok (.iadd, 1) := by decide +kernel
theorem dX1_numberAnew_106 : decode cX1_numberAnew 106 = .ok (.iastore, 1) := by decide +kernel
theorem dX1_numberAnew_107 : decode cX1_numberAnew 107 = .ok (.iinc 1 1, 3) := by decide +kernel
theorem dX1_numberAnew_110 : decode cX1_numberAnew 110 = .ok (.goto (-95), 3) := by decide +kernel
theorem dX1_numberAnew_113 : decode cX1_numberAnew 113 = .ok (.return_, 1) := by decide +kernel
theorem dX2_init_0 : decode cX2_init 0 = .ok (.aload_n 0, 1) := by decide +kernel
theorem dX2_init_1 : decode cX2_init 1 = .ok (.invokespecial 3, 3) := by decide +kernel
theorem dX2_init_4 : decode cX2_init 4 = .ok (.aload_n 0, 1) := by decide +kernel
theorem dX2_init_5 : decode cX2_init 5 = .ok (.bipush 12, 2) := by decide +kernel
theorem dX2_init_7 : decode cX2_init 7 = .ok (.newarray .int, 2) := by decide +kernel
theorem dX2_init_9 : decode cX2_init 9 = .ok (.putfield 9, 3) := by decide +kernel
theorem dX2_init_12 : decode cX2_init 12 = .ok (.aload_n 0, 1) := by decide +kernel
theorem dX2_init_13 : decode cX2_init 13 = .ok (.bipush 12, 2) := by decide +kernel
theorem dX2_init_15 : decode cX2_init 15 = .ok (.newarray .long, 2) := by decide +kernel
theorem dX2_init_17 : decode cX2_init 17 = .ok (.putfield 15, 3) := by decide +kernel
theorem dX2_init_20 : decode cX2_init 20 = .ok (.aload_n 0, 1) := by decide +kernel
theorem dX2_init_21 : decode cX2_init 21 = .ok (.iconst 0, 1) := by decide +kernel
theorem dX2_init_22 : decode cX2_init 22 = .ok (.putfield 19, 3) := by decide +kernel
theorem dX2_init_25 : decode cX2_init 25 = .ok (.aload_n 0, 1) := by decide +kernel
theorem dX2_init_26 : decode cX2_init 26 = .ok (.iconst 3, 1) := by decide +kernel
theorem dX2_init_27 : decode cX2_init 27 = .ok (.newarray .int, 2) := by decide +kernel
theorem dX2_init_29 : decode cX2_init 29 = .ok (.putfield 23, 3) := by decide +kernel
theorem dX2_init_32 : decode cX2_init 32 = .ok (.aload_n 0, 1) := by decide +kernel
theorem dX2_init_33 : decode cX2_init 33 = .ok (.iconst 0, 1) := by decide +kernel
theorem dX2_init_34 : decode cX2_init 34 = .ok (.putfield 26, 3) := by decide +kernel
theorem dX2_init_37 : decode cX2_init 37 = .ok (.return_, 1) := by decide +kernel
theorem dX2_latestAt_0 : decode cX2_latestAt 0 = .ok (.iload_n 1, 1) := by decide +kernel
theorem dX2_latestAt_1 : decode cX2_latestAt 1 = .ok (.ifCond .lt 20, 3) := by decide +kernel
theorem dX2_latestAt_4 : decode cX2_latestAt 4 = .ok (.iload_n 1, 1) := by decide +kernel
theorem dX2_latestAt_5 : decode cX2_latestAt 5 = .ok (.aload_n 0, 1) := by decide +kernel
theorem dX2_latestAt_6 : decode cX2_latestAt 6 = .ok (.getfield 26, 3) := by decide +kernel
theorem dX2_latestAt_9 : decode cX2_latestAt 9 = .ok (.if_icmp .ge 12, 3) := by decide +kernel
theorem dX2_latestAt_12 : decode cX2_latestAt 12 = .ok (.aload_n 0, 1) := by decide +kernel
theorem dX2_latestAt_13 : decode cX2_latestAt 13 = .ok (.getfield 23, 3) := by decide +kernel
theorem dX2_latestAt_16 : decode cX2_latestAt 16 = .ok (.iload_n 1, 1) := by decide +kernel
theorem dX2_latestAt_17 : decode cX2_latestAt 17 = .ok (.iaload, 1) := by decide +kernel
theorem dX2_latestAt_18 : decode cX2_latestAt 18 = .ok (.goto 4, 3) := by decide +kernel
theorem dX2_latestAt_21 : decode cX2_latestAt 21 = .ok (.iconst (-1), 1) := by decide +kernel
theorem dX2_latestAt_22 : decode cX2_latestAt 22 = .ok (.ireturn, 1) := by decide +kernel
set_option maxRecDepth 20000 in
theorem ggX2_tell_X3_howMany : GoodIn wsX2_tell wsX3_howMany := goodIn_r _ [6, 7, 39, 40, 41, 42, 43, 44] (by decide +kernel) (by decide +kernel)
set_option maxRecDepth 20000 in
theorem gX2_tell_X3_howMany : GoodIn wsX2_tell (wsV RX2 29 RX3 yX3_howMany wsX3_howMany) := goodIn_app (goodIn_of _ (by decide +kernel)) ggX2_tell_X3_howMany
set_option maxRecDepth 20000 in
theorem ggX2_tell_X2_gatherShared : GoodIn wsX2_tell wsX2_gatherShared := goodIn_r _ [12, 13, 14, 15, 16, 17, 18, 5, 19, 20, 34, 35, 36, 37, 38, 39, 40, 41, 42, 43, 44] (by decide +kernel) (by decide +kernel)
set_option maxRecDepth 20000 in
theorem gX2_tell_X2_gatherShared : GoodIn wsX2_tell (wsV RX2 35 RX2 yX2_gatherShared wsX2_gatherShared) := goodIn_app (goodIn_of _ (by decide +kernel)) ggX2_tell_X2_gatherShared
set_option maxRecDepth 20000 in
theorem ggX2_tell_X2_findOne : GoodIn wsX2_tell wsX2_findOne := goodIn_r _ [24, 13, 15, 25, 14, 1, 34, 35, 36, 37, 38] (by decide +kernel) (by decide +kernel)
set_option maxRecDepth 20000 in
theorem gX2_tell_X2_findOne : GoodIn wsX2_tell (wsV RX2 39 RX2 yX2_findOne wsX2_findOne) := goodIn_app (goodIn_of _ (by decide +kernel)) ggX2_tell_X2_findOne
set_option maxRecDepth 20000 in
theorem ggX2_tell_X2_findTwo : GoodIn wsX2_tell wsX2_findTwo := goodIn_r _ [29, 13, 15, 25, 14, 1, 34, 35, 36, 37, 38] (by decide +kernel) (by decide +kernel)
set_option maxRecDepth 20000 in
theorem gX2_tell_X2_findTwo : GoodIn wsX2_tell (wsV RX2 43 RX2 yX2_findTwo wsX2_findTwo) := goodIn_app (goodIn_of _ (by decide +kernel)) ggX2_tell_X2_findTwo
set_option maxRecDepth 20000 in
theorem ggX2_tell_X2_findThree : GoodIn wsX2_tell wsX2_findThree := goodIn_r _ [33, 13, 15, 25, 14, 1, 34, 35, 36, 37, 38] (by decide +kernel) (by decide +kernel)
set_option maxRecDepth 20000 in
theorem gX2_tell_X2_findThree : GoodIn wsX2_tell (wsV RX2 46 RX2 yX2_findThree wsX2_findThree) := goodIn_app (goodIn_of _ (by decide +kernel)) ggX2_tell_X2_findThree
theorem dX2_tell_0 : decode cX2_tell 0 = .ok (.lconst 1, 1) := by decide +kernel
theorem dX2_tell_1 : decode cX2_tell 1 = .ok (.aload_n 1, 1) := by decide +kernel
theorem dX2_tell_2 : decode cX2_tell 2 = .ok (.invokevirtual 29, 3) := by decide +kernel
theorem dX2_tell_5 : decode cX2_tell 5 = .ok (.lshl, 1) := by decide +kernel
theorem dX2_tell_6 : decode cX2_tell 6 = .ok (.lconst 1, 1) := by decide +kernel
theorem dX2_tell_7 : decode cX2_tell 7 = .ok (.lsub, 1) := by decide +kernel
theorem dX2_tell_8 : decode cX2_tell 8 = .ok (.lstore 4, 2) := by decide +kernel
theorem dX2_tell_10 : decode cX2_tell 10 = .ok (.lload_n 2, 1) := by decide +kernel
theorem dX2_tell_11 : decode cX2_tell 11 = .ok (.lload 4, 2) := by decide +kernel
theorem dX2_tell_13 : decode cX2_tell 13 = .ok (.lcmp, 1) := by decide +kernel
theorem dX2_tell_14 : decode cX2_tell 14 = .ok (.ifCond .ne 13, 3) := by decide +kernel
theorem dX2_tell_17 : decode cX2_tell 17 = .ok (.aload_n 0, 1) := by decide +kernel
theorem dX2_tell_18 : decode cX2_tell 18 = .ok (.iconst 0, 1) := by decide +kernel
theorem dX2_tell_19 : decode cX2_tell 19 = .ok (.putfield 26, 3) := by decide +kernel
theorem dX2_tell_22 : decode cX2_tell 22 = .ok (.aload_n 0, 1) := by decide +kernel
theorem dX2_tell_23 : decode cX2_tell 23 = .ok (.getfield 26, 3) := by decide +kernel
theorem dX2_tell_26 : decode cX2_tell 26 = .ok (.ireturn, 1) := by decide +kernel
theorem dX2_tell_27 : decode cX2_tell 27 = .ok (.aload_n 0, 1) := by decide +kernel
theorem dX2_tell_28 : decode cX2_tell 28 = .ok (.aload_n 1, 1) := by decide +kernel
theorem dX2_tell_29 : decode cX2_tell 29 = .ok (.lload_n 2, 1) := by decide +kernel
theorem dX2_tell_30 : decode cX2_tell 30 = .ok (.invokevirtual 35, 3) := by decide +kernel
theorem dX2_tell_33 : decode cX2_tell 33 = .ok (.aload_n 0, 1) := by decide +kernel
theorem dX2_tell_34 : decode cX2_tell 34 = .ok (.lload_n 2, 1) := by decide +kernel
theorem dX2_tell_35 : decode cX2_tell 35 = .ok (.invokevirtual 39, 3) := by decide +kernel
theorem dX2_tell_38 : decode cX2_tell 38 = .ok (.ifCond .ne 19, 3) := by decide +kernel
theorem dX2_tell_41 : decode cX2_tell 41 = .ok (.aload_n 0, 1) := by decide +kernel
theorem dX2_tell_42 : decode cX2_tell 42 = .ok (.lload_n 2, 1) := by decide +kernel
theorem dX2_tell_43 : decode cX2_tell 43 = .ok (.invokevirtual 43, 3) := by decide +kernel
theorem dX2_tell_46 : decode cX2_tell 46 = .ok (.ifCond .ne 11, 3) := by decide +kernel
theorem dX2_tell_49 : decode cX2_tell 49 = .ok (.aload_n 0, 1) := by decide +kernel
theorem dX2_tell_50 : decode cX2_tell 50 = .ok (.lload_n 2, 1) := by decide +kernel
theorem dX2_tell_51 : decode cX2_tell 51 = .ok (.invokevirtual 46, 3) := by decide +kernel
theorem dX2_tell_54 : decode cX2_tell 54 = .ok (.ifCond .eq 10, 3) := by decide +kernel
theorem dX2_tell_57 : decode cX2_tell 57 = .ok (.aload_n 0, 1) := by decide +kernel
theorem dX2_tell_58 : decode cX2_tell 58 = .ok (.getfield 26, 3) := by decide +kernel
theorem dX2_tell_61 : decode cX2_tell 61 = .ok (.goto 4, 3) := by decide +kernel
theorem dX2_tell_64 : decode cX2_tell 64 = .ok (.iconst (-1), 1) := by decide +kernel
theorem dX2_tell_65 : decode cX2_tell 65 = .ok (.ireturn, 1) := by decide +kernel
set_option maxRecDepth 20000 in
theorem ggX2_gatherShared_X3_holdersOf : GoodIn wsX2_gatherShared wsX3_holdersOf := goodIn_r _ [8, 9, 15, 16, 17, 18, 19, 20] (by decide +kernel) (by decide +kernel)
set_option maxRecDepth 20000 in
theorem gX2_gatherShared_X3_holdersOf : GoodIn wsX2_gatherShared (wsV RX2 49 RX3 yX3_holdersOf wsX3_holdersOf) := goodIn_app (goodIn_of _ (by decide +kernel)) ggX2_gatherShared_X3_holdersOf
theorem dX2_gatherShared_0 : decode cX2_gatherShared 0 = .ok (.aload_n 0, 1) := by decide +kernel
theorem dX2_gatherShared_1 : decode cX2_gatherShared 1 = .ok (.iconst 0, 1) := by decide +kernel
theorem dX2_gatherShared_2 : decode cX2_gatherShared 2 = .ok (.putfield 19, 3) := by decide +kernel
theorem dX2_gatherShared_5 : decode cX2_gatherShared 5 = .ok (.iconst 1, 1) := by decide +kernel
theorem dX2_gatherShared_6 : decode cX2_gatherShared 6 = .ok (.istore 4, 2) := by decide +kernel
theorem dX2_gatherShared_8 : decode cX2_gatherShared 8 = .ok (.iload 4, 2) := by decide +kernel
theorem dX2_gatherShared_10 : decode cX2_gatherShared 10 = .ok (.sipush 500, 3) := by decide +kernel
theorem dX2_gatherShared_13 : decode cX2_gatherShared 13 = .ok (.if_icmp .gt 67, 3) := by decide +kernel
theorem dX2_gatherShared_16 : decode cX2_gatherShared 16 = .ok (.aload_n 0, 1) := by decide +kernel
theorem dX2_gatherShared_17 : decode cX2_gatherShared 17 = .ok (.getfield 19, 3) := by decide +kernel
theorem dX2_gatherShared_20 : decode cX2_gatherShared 20 = .ok (.bipush 12, 2) := by decide +kernel
theorem dX2_gatherShared_22 : decode cX2_gatherShared 22 = .ok (.if_icmp .ge 58, 3) := by decide +kernel
theorem dX2_gatherShared_25 : decode cX2_gatherShared 25 = .ok (.aload_n 1, 1) := by decide +kernel
theorem dX2_gatherShared_26 : decode cX2_gatherShared 26 = .ok (.iload 4, 2) := by decide +kernel
theorem dX2_gatherShared_28 : decode cX2_gatherShared 28 = .ok (.invokevirtual 49, 3) := by decide +kernel
theorem dX2_gatherShared_31 : decode cX2_gatherShared 31 = .ok (.lstore 5, 2) := by decide +kernel
theorem dX2_gatherShared_33 : decode cX2_gatherShared 33 = .ok (.lload 5, 2) := by decide +kernel
theorem dX2_gatherShared_35 : decode cX2_gatherShared 35 = .ok (.lload_n 2, 1) := by decide +kernel
theorem dX2_gatherShared_36 : decode cX2_gatherShared 36 = .ok (.land, 1) := by decide +kernel
theorem dX2_gatherShared_37 : decode cX2_gatherShared 37 = .ok (.lload_n 2, 1) := by decide +kernel
theorem dX2_gatherShared_38 : decode cX2_gatherShared 38 = .ok (.lcmp, 1) := by decide +kernel
theorem dX2_gatherShared_39 : decode cX2_gatherShared 39 = .ok (.ifCond .ne 35, 3) := by decide +kernel
theorem dX2_gatherShared_42 : decode cX2_gatherShared 42 = .ok (.aload_n 0, 1) := by decide +kernel
theorem dX2_gatherShared_43 : decode cX2_gatherShared 43 = .ok (.getfield 9, 3) := by decide +kernel
theorem dX2_gatherShared_46 : decode cX2_gatherShared 46 = .ok (.aload_n 0, 1) := by decide +kernel
theorem dX2_gatherShared_47 : decode cX2_gatherShared 47 = .ok (.getfield 19, 3) := by decide +kernel
theorem dX2_gatherShared_50 : decode cX2_gatherShared 50 = .ok (.iload 4, 2) := by decide +kernel
theorem dX2_gatherShared_52 : decode cX2_gatherShared 52 = .ok (.iastore, 1) := by decide +kernel
theorem dX2_gatherShared_53 : decode cX2_gatherShared 53 = .ok (.aload_n 0, 1) := by decide +kernel
theorem dX2_gatherShared_54 : decode cX2_gatherShared 54 = .ok (.getfield 15, 3) := by decide +kernel
theorem dX2_gatherShared_57 : decode cX2_gatherShared 57 = .ok (.aload_n 0, 1) := by decide +kernel
theorem dX2_gatherShared_58 : decode cX2_gatherShared 58 = .ok (.getfield 19, 3) := by decide +kernel
theorem dX2_gatherShared_61 : decode cX2_gatherShared 61 = .ok (.lload 5, 2) := by decide +kernel
theorem dX2_gatherShared_63 : decode cX2_gatherShared 63 = .ok (.lastore, 1) := by decide +kernel
theorem dX2_gatherShared_64 : decode cX2_gatherShared 64 = .ok (.aload_n 0, 1) := by decide +kernel
theorem dX2_gatherShared_65 : decode cX2_gatherShared 65 = .ok (.dup, 1) := by decide +kernel
theorem dX2_gatherShared_66 : decode cX2_gatherShared 66 = .ok (.getfield 19, 3) := by decide +kernel
theorem dX2_gatherShared_69 : decode cX2_gatherShared 69 = .ok (.iconst 1, 1) := by decide +kernel
theorem dX2_gatherShared_70 : decode cX2_gatherShared 70 = .ok (.iadd, 1) := by decide +kernel
theorem dX2_gatherShared_71 : decode cX2_gatherShared 71 = .ok (.putfield 19, 3) := by decide +kernel
theorem dX2_gatherShared_74 : decode cX2_gatherShared 74 = .ok (.iinc 4 1, 3) := by decide +kernel
theorem dX2_gatherShared_77 : decode cX2_gatherShared 77 = .ok (.goto (-69), 3) := by decide +kernel
theorem dX2_gatherShared_80 : decode cX2_gatherShared 80 = .ok (.return_, 1) := by decide +kernel
theorem dX2_findOne_0 : decode cX2_findOne 0 = .ok (.iconst 0, 1) := by decide +kernel
theorem dX2_findOne_1 : decode cX2_findOne 1 = .ok (.istore_n 3, 1) := by decide +kernel
theorem dX2_findOne_2 : decode cX2_findOne 2 = .ok (.iload_n 3, 1) := by decide +kernel
theorem dX2_findOne_3 : decode cX2_findOne 3 = .ok (.aload_n 0, 1) := by decide +kernel
theorem dX2_findOne_4 : decode cX2_findOne 4 = .ok (.getfield 19, 3) := by decide +kernel
theorem dX2_findOne_7 : decode cX2_findOne 7 = .ok (.if_icmp .ge 39, 3) := by decide +kernel
theorem dX2_findOne_10 : decode cX2_findOne 10 = .ok (.aload_n 0, 1) := by decide +kernel
theorem dX2_findOne_11 : decode cX2_findOne 11 = .ok (.getfield 15, 3) := by decide +kernel
theorem dX2_findOne_14 : decode cX2_findOne 14 = .ok (.iload_n 3, 1) := by decide +kernel
theorem dX2_findOne_15 : decode cX2_findOne 15 = .ok (.laload, 1) := by decide +kernel
theorem dX2_findOne_16 : decode cX2_findOne 16 = .ok (.lload_n 1, 1) := by decide +kernel
theorem dX2_findOne_17 : decode cX2_findOne 17 = .ok (.lcmp, 1) := by decide +kernel
theorem dX2_findOne_18 : decode cX2_findOne 18 = .ok (.ifCond .ne 22, 3) := by decide +kernel
theorem dX2_findOne_21 : decode cX2_findOne 21 = .ok (.aload_n 0, 1) := by decide +kernel
theorem dX2_findOne_22 : decode cX2_findOne 22 = .ok (.getfield 23, 3) := by decide +kernel
theorem dX2_findOne_25 : decode cX2_findOne 25 = .ok (.iconst 0, 1) := by decide +kernel
theorem dX2_findOne_26 : decode cX2_findOne 26 = .ok (.aload_n 0, 1) := by decide +kernel
theorem dX2_findOne_27 : decode cX2_findOne 27 = .ok (.getfield 9, 3) := by decide +kernel
theorem dX2_findOne_30 : decode cX2_findOne 30 = .ok (.iload_n 3, 1) := by decide +kernel
theorem dX2_findOne_31 : decode cX2_findOne 31 = .ok (.iaload, 1) := by decide +kernel
theorem dX2_findOne_32 : decode cX2_findOne 32 = .ok (.iastore, 1) := by decide +kernel
theorem dX2_findOne_33 : decode cX2_findOne 33 = .ok (.aload_n 0, 1) := by decide +kernel
theorem dX2_findOne_34 : decode cX2_findOne 34 = .ok (.iconst 1, 1) := by decide +kernel
theorem dX2_findOne_35 : decode cX2_findOne 35 = .ok (.putfield 26, 3) := by decide +kernel
theorem dX2_findOne_38 : decode cX2_findOne 38 = .ok (.iconst 1, 1) := by decide +kernel
theorem dX2_findOne_39 : decode cX2_findOne 39 = .ok (.ireturn, 1) := by decide +kernel
theorem dX2_findOne_40 : decode cX2_findOne 40 = .ok (.iinc 3 1, 3) := by decide +kernel
theorem dX2_findOne_43 : decode cX2_findOne 43 = .ok (.goto (-41), 3) := by decide +kernel
theorem dX2_findOne_46 : decode cX2_findOne 46 = .ok (.iconst 0, 1) := by decide +kernel
theorem dX2_findOne_47 : decode cX2_findOne 47 = .ok (.ireturn, 1) := by decide +kernel
theorem dX2_findTwo_0 : decode cX2_findTwo 0 = .ok (.iconst 0, 1) := by decide +kernel
theorem dX2_findTwo_1 : decode cX2_findTwo 1 = .ok (.istore_n 3, 1) := by decide +kernel
theorem dX2_findTwo_2 : decode cX2_findTwo 2 = .ok (.iload_n 3, 1) := by decide +kernel
theorem dX2_findTwo_3 : decode cX2_findTwo 3 = .ok (.aload_n 0, 1) := by decide +kernel
theorem dX2_findTwo_4 : decode cX2_findTwo 4 = .ok (.getfield 19, 3) := by decide +kernel
theorem dX2_findTwo_7 : decode cX2_findTwo 7 = .ok (.if_icmp .ge 80, 3) := by decide +kernel
theorem dX2_findTwo_10 : decode cX2_findTwo 10 = .ok (.iload_n 3, 1) := by decide +kernel
theorem dX2_findTwo_11 : decode cX2_findTwo 11 = .ok (.iconst 1, 1) := by decide +kernel
theorem dX2_findTwo_12 : decode cX2_findTwo 12 = .ok (.iadd, 1) := by decide +kernel
theorem dX2_findTwo_13 : decode cX2_findTwo 13 = .ok (.istore 4, 2) := by decide +kernel
theorem dX2_findTwo_15 : decode cX2_findTwo 15 = .ok (.iload 4, 2) := by decide +kernel
theorem dX2_findTwo_17 : decode cX2_findTwo 17 = .ok (.aload_n 0, 1) := by decide +kernel
theorem dX2_findTwo_18 : decode cX2_findTwo 18 = .ok (.getfield 19, 3) := by decide +kernel
theorem dX2_findTwo_21 : decode cX2_findTwo 21 = .ok (.if_icmp .ge 60, 3) := by decide +kernel
theorem dX2_findTwo_24 : decode cX2_findTwo 24 = .ok (.aload_n 0, 1) := by decide +kernel
theorem dX2_findTwo_25 : decode cX2_findTwo 25 = .ok (.getfield 15, 3) := by decide +kernel
theorem dX2_findTwo_28 : decode cX2_findTwo 28 = .ok (.iload_n 3, 1) := by decide +kernel
theorem dX2_findTwo_29 : decode cX2_findTwo 29 = .ok (.laload, 1) := by decide +kernel
theorem dX2_findTwo_30 : decode cX2_findTwo 30 = .ok (.aload_n 0, 1) := by decide +kernel
theorem dX2_findTwo_31 : decode cX2_findTwo 31 = .ok (.getfield 15, 3) := by decide +kernel
theorem dX2_findTwo_34 : decode cX2_findTwo 34 = .ok (.iload 4, 2) := by decide +kernel
theorem dX2_findTwo_36 : decode cX2_findTwo 36 = .ok (.laload, 1) := by decide +kernel
theorem dX2_findTwo_37 : decode cX2_findTwo 37 = .ok (.land, 1) := by decide +kernel
theorem dX2_findTwo_38 : decode cX2_findTwo 38 = .ok (.lload_n 1, 1) := by decide +kernel
theorem dX2_findTwo_39 : decode cX2_findTwo 39 = .ok (.lcmp, 1) := by decide +kernel
theorem dX2_findTwo_40 : decode cX2_findTwo 40 = .ok (.ifCond .ne 35, 3) := by decide +kernel
theorem dX2_findTwo_43 : decode cX2_findTwo 43 = .ok (.aload_n 0, 1) := by decide +kernel
theorem dX2_findTwo_44 : decode cX2_findTwo 44 = .ok (.getfield 23, 3) := by decide +kernel
theorem dX2_findTwo_47 : decode cX2_findTwo 47 = .ok (.iconst 0, 1) := by decide +kernel
theorem dX2_findTwo_48 : decode cX2_findTwo 48 = .ok (.aload_n 0, 1) := by decide +kernel
theorem dX2_findTwo_49 : decode cX2_findTwo 49 = .ok (.getfield 9, 3) := by decide +kernel
theorem dX2_findTwo_52 : decode cX2_findTwo 52 = .ok (.iload_n 3, 1) := by decide +kernel
theorem dX2_findTwo_53 : decode cX2_findTwo 53 = .ok (.iaload, 1) := by decide +kernel
theorem dX2_findTwo_54 : decode cX2_findTwo 54 = .ok (.iastore, 1) := by decide +kernel
theorem dX2_findTwo_55 : decode cX2_findTwo 55 = .ok (.aload_n 0, 1) := by decide +kernel
theorem dX2_findTwo_56 : decode cX2_findTwo 56 = .ok (.getfield 23, 3) := by decide +kernel
theorem dX2_findTwo_59 : decode cX2_findTwo 59 = .ok (.iconst 1, 1) := by decide +kernel
theorem dX2_findTwo_60 : decode cX2_findTwo 60 = .ok (.aload_n 0, 1) := by decide +kernel
theorem dX2_findTwo_61 : decode cX2_findTwo 61 = .ok (.getfield 9, 3) := by decide +kernel
theorem dX2_findTwo_64 : decode cX2_findTwo 64 = .ok (.iload 4, 2) := by decide +kernel
theorem dX2_findTwo_66 : decode cX2_findTwo 66 = .ok (.iaload, 1) := by decide +kernel
theorem dX2_findTwo_67 : decode cX2_findTwo 67 = .ok (.iastore, 1) := by decide +kernel
theorem dX2_findTwo_68 : decode cX2_findTwo 68 = .ok (.aload_n 0, 1) := by decide +kernel
theorem dX2_findTwo_69 : decode cX2_findTwo 69 = .ok (.iconst 2, 1) := by decide +kernel
theorem dX2_findTwo_70 : decode cX2_findTwo 70 = .ok (.putfield 26, 3) := by decide +kernel
theorem dX2_findTwo_73 : decode cX2_findTwo 73 = .ok (.iconst 1, 1) := by decide +kernel
theorem dX2_findTwo_74 : decode cX2_findTwo 74 = .ok (.ireturn, 1) := by decide +kernel
theorem dX2_findTwo_75 : decode cX2_findTwo 75 = .ok (.iinc 4 1, 3) := by decide +kernel
theorem dX2_findTwo_78 : decode cX2_findTwo 78 = .ok (.goto (-63), 3) := by decide +kernel
theorem dX2_findTwo_81 : decode cX2_findTwo 81 = .ok (.iinc 3 1, 3) := by decide +kernel
theorem dX2_findTwo_84 : decode cX2_findTwo 84 = .ok (.goto (-82), 3) := by decide +kernel
theorem dX2_findTwo_87 : decode cX2_findTwo 87 = .ok (.iconst 0, 1) := by decide +kernel
theorem dX2_findTwo_88 : decode cX2_findTwo 88 = .ok (.ireturn, 1) := by decide +kernel
theorem dX2_findThree_0 : decode cX2_findThree 0 = .ok (.iconst 0, 1) := by decide +kernel
theorem dX2_findThree_1 : decode cX2_findThree 1 = .ok (.istore_n 3, 1) := by decide +kernel
theorem dX2_findThree_2 : decode cX2_findThree 2 = .ok (.iload_n 3, 1) := by decide +kernel
theorem dX2_findThree_3 : decode cX2_findThree 3 = .ok (.aload_n 0, 1) := by decide +kernel
theorem dX2_findThree_4 : decode cX2_findThree 4 = .ok (.getfield 19, 3) := by decide +kernel
theorem dX2_findThree_7 : decode cX2_findThree 7 = .ok (.if_icmp .ge 122, 3) := by decide +kernel
theorem dX2_findThree_10 : decode cX2_findThree 10 = .ok (.iload_n 3, 1) := by decide +kernel
theorem dX2_findThree_11 : decode cX2_findThree 11 = .ok (.iconst 1, 1) := by decide +kernel
theorem dX2_findThree_12 : decode cX2_findThree 12 = .ok (.iadd, 1) := by decide +kernel
theorem dX2_findThree_13 : decode cX2_findThree 13 = .ok (.istore 4, 2) := by decide +kernel
theorem dX2_findThree_15 : decode cX2_findThree 15 = .ok (.iload 4, 2) := by decide +kernel
theorem dX2_findThree_17 : decode cX2_findThree 17 = .ok (.aload_n 0, 1) := by decide +kernel
theorem dX2_findThree_18 : decode cX2_findThree 18 = .ok (.getfield 19, 3) := by decide +kernel
theorem dX2_findThree_21 : decode cX2_findThree 21 = .ok (.if_icmp .ge 102, 3) := by decide +kernel
theorem dX2_findThree_24 : decode cX2_findThree 24 = .ok (.iload 4, 2) := by decide +kernel
theorem dX2_findThree_26 : decode cX2_findThree 26 = .ok (.iconst 1, 1) := by decide +kernel
theorem dX2_findThree_27 : decode cX2_findThree 27 = .ok (.iadd, 1) := by decide +kernel
theorem dX2_findThree_28 : decode cX2_findThree 28 = .ok (.istore 5, 2) := by decide +kernel
theorem dX2_findThree_30 : decode cX2_findThree 30 = .ok (.iload 5, 2) := by decide +kernel
theorem dX2_findThree_32 : decode cX2_findThree 32 = .ok (.aload_n 0, 1) := by decide +kernel
theorem dX2_findThree_33 : decode cX2_findThree 33 = .ok (.getfield 19, 3) := by decide +kernel
theorem dX2_findThree_36 : decode cX2_findThree 36 = .ok (.if_icmp .ge 81, 3) := by decide +kernel
theorem dX2_findThree_39 : decode cX2_findThree 39 = .ok (.aload_n 0, 1) := by decide +kernel
theorem dX2_findThree_40 : decode cX2_findThree 40 = .ok (.getfield 15, 3) := by decide +kernel
theorem dX2_findThree_43 : decode cX2_findThree 43 = .ok (.iload_n 3, 1) := by decide +kernel
theorem dX2_findThree_44 : decode cX2_findThree 44 = .ok (.laload, 1) := by decide +kernel
theorem dX2_findThree_45 : decode cX2_findThree 45 = .ok (.aload_n 0, 1) := by decide +kernel
theorem dX2_findThree_46 : decode cX2_findThree 46 = .ok (.getfield 15, 3) := by decide +kernel
theorem dX2_findThree_49 : decode cX2_findThree 49 = .ok (.iload 4, 2) := by decide +kernel
theorem dX2_findThree_51 : decode cX2_findThree 51 = .ok (.laload, 1) := by decide +kernel
theorem dX2_findThree_52 : decode cX2_findThree 52 = .ok (.land, 1) := by decide +kernel
theorem dX2_findThree_53 : decode cX2_findThree 53 = .ok (.aload_n 0, 1) := by decide +kernel
theorem dX2_findThree_54 : decode cX2_findThree 54 = .ok (.getfield 15, 3) := by decide +kernel
theorem dX2_findThree_57 : decode cX2_findThree 57 = .ok (.iload 5, 2) := by decide +kernel
theorem dX2_findThree_59 : decode cX2_findThree 59 = .ok (.laload, 1) := by decide +kernel
theorem dX2_findThree_60 : decode cX2_findThree 60 = .ok (.land, 1) := by decide +kernel
theorem dX2_findThree_61 : decode cX2_findThree 61 = .ok (.lload_n 1, 1) := by decide +kernel
theorem dX2_findThree_62 : decode cX2_findThree 62 = .ok (.lcmp, 1) := by decide +kernel
theorem dX2_findThree_63 : decode cX2_findThree 63 = .ok (.ifCond .ne 48, 3) := by decide +kernel
theorem dX2_findThree_66 : decode cX2_findThree 66 = .ok (.aload_n 0, 1) := by decide +kernel
theorem dX2_findThree_67 : decode cX2_findThree 67 = .ok (.getfield 23, 3) := by decide +kernel
theorem dX2_findThree_70 : decode cX2_findThree 70 = .ok (.iconst 0, 1) := by decide +kernel
theorem dX2_findThree_71 : decode cX2_findThree 71 = .ok (.aload_n 0, 1) := by decide +kernel
theorem dX2_findThree_72 : decode cX2_findThree 72 = .ok (.getfield 9, 3) := by decide +kernel
theorem dX2_findThree_75 : decode cX2_findThree 75 = .ok (.iload_n 3, 1) := by decide +kernel
theorem dX2_findThree_76 : decode cX2_findThree 76 = .ok (.iaload, 1) := by decide +kernel
theorem dX2_findThree_77 : decode cX2_findThree 77 = .ok (.iastore, 1) := by decide +kernel
theorem dX2_findThree_78 : decode cX2_findThree 78 = .ok (.aload_n 0, 1) := by decide +kernel
theorem dX2_findThree_79 : decode cX2_findThree 79 = .ok (.getfield 23, 3) := by decide +kernel
theorem dX2_findThree_82 : decode cX2_findThree 82 = .ok (.iconst 1, 1) := by decide +kernel
theorem dX2_findThree_83 : decode cX2_findThree 83 = .ok (.aload_n 0, 1) := by decide +kernel
theorem dX2_findThree_84 : decode cX2_findThree 84 = .ok (.getfield 9, 3) := by decide +kernel
theorem dX2_findThree_87 : decode cX2_findThree 87 = .ok (.iload 4, 2) := by decide +kernel
theorem dX2_findThree_89 : decode cX2_findThree 89 = .ok (.iaload, 1) := by decide +kernel
theorem dX2_findThree_90 : decode cX2_findThree 90 = .ok (.iastore, 1) := by decide +kernel
theorem dX2_findThree_91 : decode cX2_findThree 91 = .ok (.aload_n 0, 1) := by decide +kernel
theorem dX2_findThree_92 : decode cX2_findThree 92 = .ok (.getfield 23, 3) := by decide +kernel
theorem dX2_findThree_95 : decode cX2_findThree 95 = .ok (.iconst 2, 1) := by decide +kernel
theorem dX2_findThree_96 : decode cX2_findThree 96 = .ok (.aload_n 0, 1) := by decide +kernel
theorem dX2_findThree_97 : decode cX2_findThree 97 = .ok (.getfield 9, 3) := by decide +kernel
theorem dX2_findThree_100 : decode cX2_findThree 100 = .ok (.iload 5, 2) := by decide +kernel
theorem dX2_findThree_102 : decode cX2_findThree 102 = .ok (.iaload, 1) := by decide +kernel
theorem dX2_findThree_103 : decode cX2_findThree 103 = .ok (.iastore, 1) := by decide +kernel
theorem dX2_findThree_104 : decode cX2_findThree 104 = .ok (.aload_n 0, 1) := by decide +kernel
theorem dX2_findThree_105 : decode cX2_findThree 105 = .ok (.iconst 3, 1) := by decide +kernel
theorem dX2_findThree_106 : decode cX2_findThree 106 = .ok (.putfield 26, 3) := by decide +kernel
theorem dX2_findThree_109 : decode cX2_findThree 109 = .ok (.iconst 1, 1) := by decide +kernel
theorem dX2_findThree_110 : decode cX2_findThree 110 = .ok (.ireturn, 1) := by decide +kernel
theorem dX2_findThree_111 : decode cX2_findThree 111 = .ok (.iinc 5 1, 3) := by decide +kernel
theorem dX2_findThree_114 : decode cX2_findThree 114 = .ok (.goto (-84), 3) := by decide +kernel
theorem dX2_findThree_117 : decode cX2_findThree 117 = .ok (.iinc 4 1, 3) := by decide +kernel
theorem dX2_findThree_120 : decode cX2_findThree 120 = .ok (.goto (-105), 3) := by decide +kernel
theorem dX2_findThree_123 : decode cX2_findThree 123 = .ok (.iinc 3 1, 3) := by decide +kernel
theorem dX2_findThree_126 : decode cX2_findThree 126 = .ok (.goto (-124), 3) := by decide +kernel
theorem dX2_findThree_129 : decode cX2_findThree 129 = .ok (.iconst 0, 1) := by decide +kernel
theorem dX2_findThree_130 : decode cX2_findThree 130 = .ok (.ireturn, 1) := by decide +kernel
theorem dX3_init_0 : decode cX3_init 0 = .ok (.aload_n 0, 1) := by decide +kernel
theorem dX3_init_1 : decode cX3_init 1 = .ok (.invokespecial 3, 3) := by decide +kernel
theorem dX3_init_4 : decode cX3_init 4 = .ok (.aload_n 0, 1) := by decide +kernel
theorem dX3_init_5 : decode cX3_init 5 = .ok (.bipush 40, 2) := by decide +kernel
theorem dX3_init_7 : decode cX3_init 7 = .ok (.bipush 12, 2) := by decide +kernel
theorem dX3_init_9 : decode cX3_init 9 = .ok (.multianewarray 9 2, 4) := by decide +kernel
theorem dX3_init_13 : decode cX3_init 13 = .ok (.putfield 11, 3) := by decide +kernel
theorem dX3_init_16 : decode cX3_init 16 = .ok (.aload_n 0, 1) := by decide +kernel
theorem dX3_init_17 : decode cX3_init 17 = .ok (.bipush 40, 2) := by decide +kernel
theorem dX3_init_19 : decode cX3_init 19 = .ok (.newarray .int, 2) := by decide +kernel
theorem dX3_init_21 : decode cX3_init 21 = .ok (.putfield 16, 3) := by decide +kernel
theorem dX3_init_24 : decode cX3_init 24 = .ok (.aload_n 0, 1) := by decide +kernel
theorem dX3_init_25 : decode cX3_init 25 = .ok (.bipush 40, 2) := by decide +kernel
theorem dX3_init_27 : decode cX3_init 27 = .ok (.newarray .int, 2) := by decide +kernel
theorem dX3_init_29 : decode cX3_init 29 = .ok (.putfield 20, 3) := by decide +kernel
theorem dX3_init_32 : decode cX3_init 32 = .ok (.aload_n 0, 1) := by decide +kernel
theorem dX3_init_33 : decode cX3_init 33 = .ok (.bipush 40, 2) := by decide +kernel
theorem dX3_init_35 : decode cX3_init 35 = .ok (.newarray .int, 2) := by decide +kernel
theorem dX3_init_37 : decode cX3_init 37 = .ok (.putfield 23, 3) := by decide +kernel
theorem dX3_init_40 : decode cX3_init 40 = .ok (.aload_n 0, 1) := by decide +kernel
theorem dX3_init_41 : decode cX3_init 41 = .ok (.sipush 501, 3) := by decide +kernel
theorem dX3_init_44 : decode cX3_init 44 = .ok (.newarray .long, 2) := by decide +kernel
theorem dX3_init_46 : decode cX3_init 46 = .ok (.putfield 26, 3) := by decide +kernel
theorem dX3_init_49 : decode cX3_init 49 = .ok (.aload_n 0, 1) := by decide +kernel
theorem dX3_init_50 : decode cX3_init 50 = .ok (.iconst 0, 1) := by decide +kernel
theorem dX3_init_51 : decode cX3_init 51 = .ok (.putfield 30, 3) := by decide +kernel
theorem dX3_init_54 : decode cX3_init 54 = .ok (.return_, 1) := by decide +kernel
theorem dX3_has_0 : decode cX3_has 0 = .ok (.iload_n 1, 1) := by decide +kernel
theorem dX3_has_1 : decode cX3_has 1 = .ok (.ifCond .lt 15, 3) := by decide +kernel
theorem dX3_has_4 : decode cX3_has 4 = .ok (.iload_n 1, 1) := by decide +kernel
theorem dX3_has_5 : decode cX3_has 5 = .ok (.aload_n 0, 1) := by decide +kernel
theorem dX3_has_6 : decode cX3_has 6 = .ok (.getfield 30, 3) := by decide +kernel
theorem dX3_has_9 : decode cX3_has 9 = .ok (.if_icmp .ge 7, 3) := by decide +kernel
theorem dX3_has_12 : decode cX3_has 12 = .ok (.iconst 1, 1) := by decide +kernel
theorem dX3_has_13 : decode cX3_has 13 = .ok (.goto 4, 3) := by decide +kernel
theorem dX3_has_16 : decode cX3_has 16 = .ok (.iconst 0, 1) := by decide +kernel
theorem dX3_has_17 : decode cX3_has 17 = .ok (.ireturn, 1) := by decide +kernel
set_option maxRecDepth 20000 in
theorem ggX3_hasTwo_X3_has : GoodIn wsX3_hasTwo wsX3_has := goodIn_r _ [5, 6, 7, 8, 9, 10, 11, 12] (by decide +kernel) (by decide +kernel)
set_option maxRecDepth 20000 in
theorem gX3_hasTwo_X3_has : GoodIn wsX3_hasTwo (wsV RX3 34 RX3 yX3_has wsX3_has) := goodIn_app (goodIn_of _ (by decide +kernel)) ggX3_hasTwo_X3_has
theorem dX3_hasTwo_0 : decode cX3_hasTwo 0 = .ok (.aload_n 0, 1) := by decide +kernel
theorem dX3_hasTwo_1 : decode cX3_hasTwo 1 = .ok (.iload_n 1, 1) := by decide +kernel
theorem dX3_hasTwo_2 : decode cX3_hasTwo 2 = .ok (.invokevirtual 34, 3) := by decide +kernel
theorem dX3_hasTwo_5 : decode cX3_hasTwo 5 = .ok (.ifCond .eq 20, 3) := by decide +kernel
theorem dX3_hasTwo_8 : decode cX3_hasTwo 8 = .ok (.aload_n 0, 1) := by decide +kernel
theorem dX3_hasTwo_9 : decode cX3_hasTwo 9 = .ok (.iload_n 2, 1) := by decide +kernel
theorem dX3_hasTwo_10 : decode cX3_hasTwo 10 = .ok (.invokevirtual 34, 3) := by decide +kernel
theorem dX3_hasTwo_13 : decode cX3_hasTwo 13 = .ok (.ifCond .eq 12, 3) := by decide +kernel
theorem dX3_hasTwo_16 : decode cX3_hasTwo 16 = .ok (.iload_n 1, 1) := by decide +kernel
theorem dX3_hasTwo_17 : decode cX3_hasTwo 17 = .ok (.iload_n 2, 1) := by decide +kernel
theorem dX3_hasTwo_18 : decode cX3_hasTwo 18 = .ok (.if_icmp .eq 7, 3) := by decide +kernel
theorem dX3_hasTwo_21 : decode cX3_hasTwo 21 = .ok (.iconst 1, 1) := by decide +kernel
theorem dX3_hasTwo_22 : decode cX3_hasTwo 22 = .ok (.goto 4, 3) := by decide +kernel
theorem dX3_hasTwo_25 : decode cX3_hasTwo 25 = .ok (.iconst 0, 1) := by decide +kernel
theorem dX3_hasTwo_26 : decode cX3_hasTwo 26 = .ok (.ireturn, 1) := by decide +kernel
set_option maxRecDepth 20000 in
theorem ggX3_hasFrame_X3_has : GoodIn wsX3_hasFrame wsX3_has := goodIn_r _ [6, 7, 8, 9, 10, 11, 12, 13] (by decide +kernel) (by decide +kernel)
set_option maxRecDepth 20000 in
theorem gX3_hasFrame_X3_has : GoodIn wsX3_hasFrame (wsV RX3 34 RX3 yX3_has wsX3_has) := goodIn_app (goodIn_of _ (by decide +kernel)) ggX3_hasFrame_X3_has
theorem dX3_hasFrame_0 : decode cX3_hasFrame 0 = .ok (.aload_n 0, 1) := by decide +kernel
theorem dX3_hasFrame_1 : decode cX3_hasFrame 1 = .ok (.iload_n 1, 1) := by decide +kernel
theorem dX3_hasFrame_2 : decode cX3_hasFrame 2 = .ok (.invokevirtual 34, 3) := by decide +kernel
theorem dX3_hasFrame_5 : decode cX3_hasFrame 5 = .ok (.ifCond .eq 21, 3) := by decide +kernel
theorem dX3_hasFrame_8 : decode cX3_hasFrame 8 = .ok (.iload_n 2, 1) := by decide +kernel
theorem dX3_hasFrame_9 : decode cX3_hasFrame 9 = .ok (.ifCond .lt 17, 3) := by decide +kernel
theorem dX3_hasFrame_12 : decode cX3_hasFrame 12 = .ok (.iload_n 2, 1) := by decide +kernel
theorem dX3_hasFrame_13 : decode cX3_hasFrame 13 = .ok (.aload_n 0, 1) := by decide +kernel
theorem dX3_hasFrame_14 : decode cX3_hasFrame 14 = .ok (.getfield 16, 3) := by decide +kernel
theorem dX3_hasFrame_17 : decode cX3_hasFrame 17 = .ok (.iload_n 1, 1) := by decide +kernel
theorem dX3_hasFrame_18 : decode cX3_hasFrame 18 = .ok (.iaload, 1) := by decide +kernel
theorem dX3_hasFrame_19 : decode cX3_hasFrame 19 = .ok (.if_icmp .ge 7, 3) := by decide +kernel
theorem dX3_hasFrame_22 : decode cX3_hasFrame 22 = .ok (.iconst 1, 1) := by decide +kernel
theorem dX3_hasFrame_23 : decode cX3_hasFrame 23 = .ok (.goto 4, 3) := by decide +kernel
theorem dX3_hasFrame_26 : decode cX3_hasFrame 26 = .ok (.iconst 0, 1) := by decide +kernel
theorem dX3_hasFrame_27 : decode cX3_hasFrame 27 = .ok (.ireturn, 1) := by decide +kernel
theorem dX3_isFull_0 : decode cX3_isFull 0 = .ok (.aload_n 0, 1) := by decide +kernel
theorem dX3_isFull_1 : decode cX3_isFull 1 = .ok (.getfield 30, 3) := by decide +kernel
theorem dX3_isFull_4 : decode cX3_isFull 4 = .ok (.bipush 40, 2) := by decide +kernel
theorem dX3_isFull_6 : decode cX3_isFull 6 = .ok (.if_icmp .lt 7, 3) := by decide +kernel
theorem dX3_isFull_9 : decode cX3_isFull 9 = .ok (.iconst 1, 1) := by decide +kernel
theorem dX3_isFull_10 : decode cX3_isFull 10 = .ok (.goto 4, 3) := by decide +kernel
theorem dX3_isFull_13 : decode cX3_isFull 13 = .ok (.iconst 0, 1) := by decide +kernel
theorem dX3_isFull_14 : decode cX3_isFull 14 = .ok (.ireturn, 1) := by decide +kernel
theorem dX3_howMany_0 : decode cX3_howMany 0 = .ok (.aload_n 0, 1) := by decide +kernel
theorem dX3_howMany_1 : decode cX3_howMany 1 = .ok (.getfield 30, 3) := by decide +kernel
theorem dX3_howMany_4 : decode cX3_howMany 4 = .ok (.ireturn, 1) := by decide +kernel
set_option maxRecDepth 20000 in
theorem ggX3_add_X4_howMany : GoodIn wsX3_add wsX4_howMany := goodIn_r _ [11, 12, 24, 25] (by decide +kernel) (by decide +kernel)
set_option maxRecDepth 20000 in
theorem gX3_add_X4_howMany : GoodIn wsX3_add (wsV RX3 38 RX4 yX4_howMany wsX4_howMany) := goodIn_app (goodIn_of _ (by decide +kernel)) ggX3_add_X4_howMany
set_option maxRecDepth 20000 in
theorem ggX3_add_X4_at : GoodIn wsX3_add wsX4_at := goodIn_r _ [16, 17, 24, 25] (by decide +kernel) (by decide +kernel)
set_option maxRecDepth 20000 in
theorem gX3_add_X4_at : GoodIn wsX3_add (wsV RX3 44 RX4 yX4_at wsX4_at) := goodIn_app (goodIn_of _ (by decide +kernel)) ggX3_add_X4_at
theorem dX3_add_0 : decode cX3_add 0 = .ok (.aload_n 0, 1) := by decide +kernel
theorem dX3_add_1 : decode cX3_add 1 = .ok (.getfield 30, 3) := by decide +kernel
theorem dX3_add_4 : decode cX3_add 4 = .ok (.istore_n 3, 1) := by decide +kernel
theorem dX3_add_5 : decode cX3_add 5 = .ok (.aload_n 0, 1) := by decide +kernel
theorem dX3_add_6 : decode cX3_add 6 = .ok (.getfield 16, 3) := by decide +kernel
theorem dX3_add_9 : decode cX3_add 9 = .ok (.iload_n 3, 1) := by decide +kernel
theorem dX3_add_10 : decode cX3_add 10 = .ok (.aload_n 1, 1) := by decide +kernel
theorem dX3_add_11 : decode cX3_add 11 = .ok (.invokevirtual 38, 3) := by decide +kernel
theorem dX3_add_14 : decode cX3_add 14 = .ok (.iastore, 1) := by decide +kernel
theorem dX3_add_15 : decode cX3_add 15 = .ok (.iconst 0, 1) := by decide +kernel
theorem dX3_add_16 : decode cX3_add 16 = .ok (.istore 4, 2) := by decide +kernel
theorem dX3_add_18 : decode cX3_add 18 = .ok (.iload 4, 2) := by decide +kernel
theorem dX3_add_20 : decode cX3_add 20 = .ok (.aload_n 1, 1) := by decide +kernel
theorem dX3_add_21 : decode cX3_add 21 = .ok (.invokevirtual 38, 3) := by decide +kernel
theorem dX3_add_24 : decode cX3_add 24 = .ok (.if_icmp .ge 41, 3) := by decide +kernel
theorem dX3_add_27 : decode cX3_add 27 = .ok (.aload_n 1, 1) := by decide +kernel
theorem dX3_add_28 : decode cX3_add 28 = .ok (.iload 4, 2) := by decide +kernel
theorem dX3_add_30 : decode cX3_add 30 = .ok (.invokevirtual 44, 3) := by decide +kernel
theorem dX3_add_33 : decode cX3_add 33 = .ok (.istore 5, 2) := by decide +kernel
theorem dX3_add_35 : decode cX3_add 35 = .ok (.aload_n 0, 1) := by decide +kernel
theorem dX3_add_36 : decode cX3_add 36 = .ok (.getfield 11, 3) := by decide +kernel
theorem dX3_add_39 : decode cX3_add 39 = .ok (.iload_n 3, 1) := by decide +kernel
theorem dX3_add_40 : decode cX3_add 40 = .ok (.aaload, 1) := by decide +kernel
theorem dX3_add_41 : decode cX3_add 41 = .ok (.iload 4, 2) := by decide +kernel
theorem dX3_add_43 : decode cX3_add 43 = .ok (.iload 5, 2) := by decide +kernel
theorem dX3_add_45 : decode cX3_add 45 = .ok (.iastore, 1) := by decide +kernel
theorem dX3_add_46 : decode cX3_add 46 = .ok (.aload_n 0, 1) := by decide +kernel
theorem dX3_add_47 : decode cX3_add 47 = .ok (.getfield 26, 3) := by decide +kernel
theorem dX3_add_50 : decode cX3_add 50 = .ok (.iload 5, 2) := by decide +kernel
theorem dX3_add_52 : decode cX3_add 52 = .ok (.dup2, 1) := by decide +kernel
theorem dX3_add_53 : decode cX3_add 53 = .ok (.laload, 1) := by decide +kernel
theorem dX3_add_54 : decode cX3_add 54 = .ok (.lconst 1, 1) := by decide +kernel
theorem dX3_add_55 : decode cX3_add 55 = .ok (.iload_n 3, 1) := by decide +kernel
theorem dX3_add_56 : decode cX3_add 56 = .ok (.lshl, 1) := by decide +kernel
theorem dX3_add_57 : decode cX3_add 57 = .ok (.lor, 1) := by decide +kernel
theorem dX3_add_58 : decode cX3_add 58 = .ok (.lastore, 1) := by decide +kernel
theorem dX3_add_59 : decode cX3_add 59 = .ok (.iinc 4 1, 3) := by decide +kernel
theorem dX3_add_62 : decode cX3_add 62 = .ok (.goto (-44), 3) := by decide +kernel
theorem dX3_add_65 : decode cX3_add 65 = .ok (.aload_n 0, 1) := by decide +kernel
theorem dX3_add_66 : decode cX3_add 66 = .ok (.getfield 20, 3) := by decide +kernel
theorem dX3_add_69 : decode cX3_add 69 = .ok (.iload_n 3, 1) := by decide +kernel
theorem dX3_add_70 : decode cX3_add 70 = .ok (.iload_n 2, 1) := by decide +kernel
theorem dX3_add_71 : decode cX3_add 71 = .ok (.iastore, 1) := by decide +kernel
theorem dX3_add_72 : decode cX3_add 72 = .ok (.aload_n 0, 1) := by decide +kernel
theorem dX3_add_73 : decode cX3_add 73 = .ok (.getfield 23, 3) := by decide +kernel
theorem dX3_add_76 : decode cX3_add 76 = .ok (.iload_n 3, 1) := by decide +kernel
theorem dX3_add_77 : decode cX3_add 77 = .ok (.iconst (-1), 1) := by decide +kernel
theorem dX3_add_78 : decode cX3_add 78 = .ok (.iastore, 1) := by decide +kernel
theorem dX3_add_79 : decode cX3_add 79 = .ok (.aload_n 0, 1) := by decide +kernel
theorem dX3_add_80 : decode cX3_add 80 = .ok (.dup, 1) := by decide +kernel
theorem dX3_add_81 : decode cX3_add 81 = .ok (.getfield 30, 3) := by decide +kernel
theorem dX3_add_84 : decode cX3_add 84 = .ok (.iconst 1, 1) := by decide +kernel
theorem dX3_add_85 : decode cX3_add 85 = .ok (.iadd, 1) := by decide +kernel
theorem dX3_add_86 : decode cX3_add 86 = .ok (.putfield 30, 3) := by decide +kernel
theorem dX3_add_89 : decode cX3_add 89 = .ok (.iload_n 3, 1) := by decide +kernel
theorem dX3_add_90 : decode cX3_add 90 = .ok (.ireturn, 1) := by decide +kernel
theorem dX3_frameAt_0 : decode cX3_frameAt 0 = .ok (.aload_n 0, 1) := by decide +kernel
theorem dX3_frameAt_1 : decode cX3_frameAt 1 = .ok (.getfield 11, 3) := by decide +kernel
theorem dX3_frameAt_4 : decode cX3_frameAt 4 = .ok (.iload_n 1, 1) := by decide +kernel
theorem dX3_frameAt_5 : decode cX3_frameAt 5 = .ok (.aaload, 1) := by decide +kernel
theorem dX3_frameAt_6 : decode cX3_frameAt 6 = .ok (.iload_n 2, 1) := by decide +kernel
theorem dX3_frameAt_7 : decode cX3_frameAt 7 = .ok (.iaload, 1) := by decide +kernel
theorem dX3_frameAt_8 : decode cX3_frameAt 8 = .ok (.ireturn, 1) := by decide +kernel
theorem dX3_lengthOf_0 : decode cX3_lengthOf 0 = .ok (.aload_n 0, 1) := by decide +kernel
theorem dX3_lengthOf_1 : decode cX3_lengthOf 1 = .ok (.getfield 16, 3) := by decide +kernel
theorem dX3_lengthOf_4 : decode cX3_lengthOf 4 = .ok (.iload_n 1, 1) := by decide +kernel
theorem dX3_lengthOf_5 : decode cX3_lengthOf 5 = .ok (.iaload, 1) := by decide +kernel
theorem dX3_lengthOf_6 : decode cX3_lengthOf 6 = .ok (.ireturn, 1) := by decide +kernel
theorem dX3_versionOf_0 : decode cX3_versionOf 0 = .ok (.aload_n 0, 1) := by decide +kernel
theorem dX3_versionOf_1 : decode cX3_versionOf 1 = .ok (.getfield 20, 3) := by decide +kernel
theorem dX3_versionOf_4 : decode cX3_versionOf 4 = .ok (.iload_n 1, 1) := by decide +kernel
theorem dX3_versionOf_5 : decode cX3_versionOf 5 = .ok (.iaload, 1) := by decide +kernel
theorem dX3_versionOf_6 : decode cX3_versionOf 6 = .ok (.ireturn, 1) := by decide +kernel
theorem dX3_fixedAt_0 : decode cX3_fixedAt 0 = .ok (.aload_n 0, 1) := by decide +kernel
theorem dX3_fixedAt_1 : decode cX3_fixedAt 1 = .ok (.getfield 23, 3) := by decide +kernel
theorem dX3_fixedAt_4 : decode cX3_fixedAt 4 = .ok (.iload_n 1, 1) := by decide +kernel
theorem dX3_fixedAt_5 : decode cX3_fixedAt 5 = .ok (.iaload, 1) := by decide +kernel
theorem dX3_fixedAt_6 : decode cX3_fixedAt 6 = .ok (.ireturn, 1) := by decide +kernel
theorem dX3_setFixedAt_0 : decode cX3_setFixedAt 0 = .ok (.aload_n 0, 1) := by decide +kernel
theorem dX3_setFixedAt_1 : decode cX3_setFixedAt 1 = .ok (.getfield 23, 3) := by decide +kernel
theorem dX3_setFixedAt_4 : decode cX3_setFixedAt 4 = .ok (.iload_n 1, 1) := by decide +kernel
theorem dX3_setFixedAt_5 : decode cX3_setFixedAt 5 = .ok (.iload_n 2, 1) := by decide +kernel
theorem dX3_setFixedAt_6 : decode cX3_setFixedAt 6 = .ok (.iastore, 1) := by decide +kernel
theorem dX3_setFixedAt_7 : decode cX3_setFixedAt 7 = .ok (.return_, 1) := by decide +kernel
theorem dX3_holdersOf_0 : decode cX3_holdersOf 0 = .ok (.aload_n 0, 1) := by decide +kernel
theorem dX3_holdersOf_1 : decode cX3_holdersOf 1 = .ok (.getfield 26, 3) := by decide +kernel
theorem dX3_holdersOf_4 : decode cX3_holdersOf 4 = .ok (.iload_n 1, 1) := by decide +kernel
theorem dX3_holdersOf_5 : decode cX3_holdersOf 5 = .ok (.laload, 1) := by decide +kernel
theorem dX3_holdersOf_6 : decode cX3_holdersOf 6 = .ok (.lreturn, 1) := by decide +kernel
set_option maxRecDepth 20000 in
theorem ggX3_isCommon_J13_bitCount_95d88 : GoodIn wsX3_isCommon wsJ13_bitCount_95d88 := goodIn_r _ [6, 7, 8, 9] (by decide +kernel) (by decide +kernel)
set_option maxRecDepth 20000 in
theorem gX3_isCommon_J13_bitCount_95d88 : GoodIn wsX3_isCommon (va_wsS RX3 48 yJ13_bitCount_95d88 wsJ13_bitCount_95d88) := goodIn_app (goodIn_of _ (by decide +kernel)) ggX3_isCommon_J13_bitCount_95d88
theorem dX3_isCommon_0 : decode cX3_isCommon 0 = .ok (.iload_n 1, 1) := by decide +kernel
theorem dX3_isCommon_1 : decode cX3_isCommon 1 = .ok (.ifCond .le 18, 3) := by decide +kernel
theorem dX3_isCommon_4 : decode cX3_isCommon 4 = .ok (.iload_n 1, 1) := by decide +kernel
theorem dX3_isCommon_5 : decode cX3_isCommon 5 = .ok (.sipush 500, 3) := by decide +kernel
theorem dX3_isCommon_8 : decode cX3_isCommon 8 = .ok (.if_icmp .gt 11, 3) := by decide +kernel
theorem dX3_isCommon_11 : decode cX3_isCommon 11 = .ok (.aload_n 0, 1) := by decide +kernel
theorem dX3_isCommon_12 : decode cX3_isCommon 12 = .ok (.getfield 30, 3) := by decide +kernel
theorem dX3_isCommon_15 : decode cX3_isCommon 15 = .ok (.iconst 5, 1) := by decide +kernel
theorem dX3_isCommon_16 : decode cX3_isCommon 16 = .ok (.if_icmp .ge 5, 3) := by decide +kernel
theorem dX3_isCommon_19 : decode cX3_isCommon 19 = .ok (.iconst 0, 1) := by decide +kernel
theorem dX3_isCommon_20 : decode cX3_isCommon 20 = .ok (.ireturn, 1) := by decide +kernel
theorem dX3_isCommon_21 : decode cX3_isCommon 21 = .ok (.iconst 5, 1) := by decide +kernel
theorem dX3_isCommon_22 : decode cX3_isCommon 22 = .ok (.aload_n 0, 1) := by decide +kernel
theorem dX3_isCommon_23 : decode cX3_isCommon 23 = .ok (.getfield 26, 3) := by decide +kernel
theorem dX3_isCommon_26 : decode cX3_isCommon 26 = .ok (.iload_n 1, 1) := by decide +kernel
theorem dX3_isCommon_27 : decode cX3_isCommon 27 = .ok (.laload, 1) := by decide +kernel
theorem dX3_isCommon_28 : decode cX3_isCommon 28 = .ok (.invokestatic 48, 3) := by decide +kernel
theorem dX3_isCommon_31 : decode cX3_isCommon 31 = .ok (.imul, 1) := by decide +kernel
theorem dX3_isCommon_32 : decode cX3_isCommon 32 = .ok (.iconst 4, 1) := by decide +kernel
theorem dX3_isCommon_33 : decode cX3_isCommon 33 = .ok (.aload_n 0, 1) := by decide +kernel
theorem dX3_isCommon_34 : decode cX3_isCommon 34 = .ok (.getfield 30, 3) := by decide +kernel
theorem dX3_isCommon_37 : decode cX3_isCommon 37 = .ok (.imul, 1) := by decide +kernel
theorem dX3_isCommon_38 : decode cX3_isCommon 38 = .ok (.if_icmp .lt 7, 3) := by decide +kernel
theorem dX3_isCommon_41 : decode cX3_isCommon 41 = .ok (.iconst 1, 1) := by decide +kernel
theorem dX3_isCommon_42 : decode cX3_isCommon 42 = .ok (.goto 4, 3) := by decide +kernel
theorem dX3_isCommon_45 : decode cX3_isCommon 45 = .ok (.iconst 0, 1) := by decide +kernel
theorem dX3_isCommon_46 : decode cX3_isCommon 46 = .ok (.ireturn, 1) := by decide +kernel
set_option maxRecDepth 20000 in
theorem ggX3_howManyCommon_X3_isCommon : GoodIn wsX3_howManyCommon wsX3_isCommon := goodIn_r _ [5, 6, 7, 8, 9, 10, 11, 12, 13, 14, 15, 16, 17, 18, 19, 20] (by decide +kernel) (by decide +kernel)
set_option maxRecDepth 20000 in
theorem gX3_howManyCommon_X3_isCommon : GoodIn wsX3_howManyCommon (wsV RX3 54 RX3 yX3_isCommon wsX3_isCommon) := goodIn_app (goodIn_of _ (by decide +kernel)) ggX3_howManyCommon_X3_isCommon
theorem dX3_howManyCommon_0 : decode cX3_howManyCommon 0 = .ok (.iconst 0, 1) := by decide +kernel
theorem dX3_howManyCommon_1 : decode cX3_howManyCommon 1 = .ok (.istore_n 1, 1) := by decide +kernel
theorem dX3_howManyCommon_2 : decode cX3_howManyCommon 2 = .ok (.iconst 1, 1) := by decide +kernel
theorem dX3_howManyCommon_3 : decode cX3_howManyCommon 3 = .ok (.istore_n 2, 1) := by decide +kernel
theorem dX3_howManyCommon_4 : decode cX3_howManyCommon 4 = .ok (.iload_n 2, 1) := by decide +kernel
theorem dX3_howManyCommon_5 : decode cX3_howManyCommon 5 = .ok (.sipush 500, 3) := by decide +kernel
theorem dX3_howManyCommon_8 : decode cX3_howManyCommon 8 = .ok (.if_icmp .gt 20, 3) := by decide +kernel
theorem dX3_howManyCommon_11 : decode cX3_howManyCommon 11 = .ok (.aload_n 0, 1) := by decide +kernel
theorem dX3_howManyCommon_12 : decode cX3_howManyCommon 12 = .ok (.iload_n 2, 1) := by decide +kernel
theorem dX3_howManyCommon_13 : decode cX3_howManyCommon 13 = .ok (.invokevirtual 54, 3) := by decide +kernel
theorem dX3_howManyCommon_16 : decode cX3_howManyCommon 16 = .ok (.ifCond .eq 6, 3) := by decide +kernel
theorem dX3_howManyCommon_19 : decode cX3_howManyCommon 19 = .ok (.iinc 1 1, 3) := by decide +kernel
theorem dX3_howManyCommon_22 : decode cX3_howManyCommon 22 = .ok (.iinc 2 1, 3) := by decide +kernel
theorem dX3_howManyCommon_25 : decode cX3_howManyCommon 25 = .ok (.goto (-21), 3) := by decide +kernel
theorem dX3_howManyCommon_28 : decode cX3_howManyCommon 28 = .ok (.iload_n 1, 1) := by decide +kernel
theorem dX3_howManyCommon_29 : decode cX3_howManyCommon 29 = .ok (.ireturn, 1) := by decide +kernel
theorem dX4_init_0 : decode cX4_init 0 = .ok (.aload_n 0, 1) := by decide +kernel
theorem dX4_init_1 : decode cX4_init 1 = .ok (.invokespecial 3, 3) := by decide +kernel
theorem dX4_init_4 : decode cX4_init 4 = .ok (.aload_n 0, 1) := by decide +kernel
theorem dX4_init_5 : decode cX4_init 5 = .ok (.bipush 12, 2) := by decide +kernel
theorem dX4_init_7 : decode cX4_init 7 = .ok (.newarray .int, 2) := by decide +kernel
theorem dX4_init_9 : decode cX4_init 9 = .ok (.putfield 9, 3) := by decide +kernel
theorem dX4_init_12 : decode cX4_init 12 = .ok (.aload_n 0, 1) := by decide +kernel
theorem dX4_init_13 : decode cX4_init 13 = .ok (.iconst 0, 1) := by decide +kernel
theorem dX4_init_14 : decode cX4_init 14 = .ok (.putfield 15, 3) := by decide +kernel
theorem dX4_init_17 : decode cX4_init 17 = .ok (.return_, 1) := by decide +kernel
theorem dX4_put_0 : decode cX4_put 0 = .ok (.iload_n 1, 1) := by decide +kernel
theorem dX4_put_1 : decode cX4_put 1 = .ok (.ifCond .lt 19, 3) := by decide +kernel
theorem dX4_put_4 : decode cX4_put 4 = .ok (.iload_n 1, 1) := by decide +kernel
theorem dX4_put_5 : decode cX4_put 5 = .ok (.sipush 500, 3) := by decide +kernel
theorem dX4_put_8 : decode cX4_put 8 = .ok (.if_icmp .gt 12, 3) := by decide +kernel
theorem dX4_put_11 : decode cX4_put 11 = .ok (.aload_n 0, 1) := by decide +kernel
theorem dX4_put_12 : decode cX4_put 12 = .ok (.getfield 15, 3) := by decide +kernel
theorem dX4_put_15 : decode cX4_put 15 = .ok (.bipush 12, 2) := by decide +kernel
theorem dX4_put_17 : decode cX4_put 17 = .ok (.if_icmp .lt 5, 3) := by decide +kernel
theorem dX4_put_20 : decode cX4_put 20 = .ok (.iconst (-1), 1) := by decide +kernel
theorem dX4_put_21 : decode cX4_put 21 = .ok (.ireturn, 1) := by decide +kernel
theorem dX4_put_22 : decode cX4_put 22 = .ok (.aload_n 0, 1) := by decide +kernel
theorem dX4_put_23 : decode cX4_put 23 = .ok (.getfield 9, 3) := by decide +kernel
theorem dX4_put_26 : decode cX4_put 26 = .ok (.aload_n 0, 1) := by decide +kernel
theorem dX4_put_27 : decode cX4_put 27 = .ok (.getfield 15, 3) := by decide +kernel
theorem dX4_put_30 : decode cX4_put 30 = .ok (.iload_n 1, 1) := by decide +kernel
theorem dX4_put_31 : decode cX4_put 31 = .ok (.iastore, 1) := by decide +kernel
theorem dX4_put_32 : decode cX4_put 32 = .ok (.aload_n 0, 1) := by decide +kernel
theorem dX4_put_33 : decode cX4_put 33 = .ok (.dup, 1) := by decide +kernel
theorem dX4_put_34 : decode cX4_put 34 = .ok (.getfield 15, 3) := by decide +kernel
theorem dX4_put_37 : decode cX4_put 37 = .ok (.iconst 1, 1) := by decide +kernel
theorem dX4_put_38 : decode cX4_put 38 = .ok (.iadd, 1) := by decide +kernel
theorem dX4_put_39 : decode cX4_put 39 = .ok (.putfield 15, 3) := by decide +kernel
theorem dX4_put_42 : decode cX4_put 42 = .ok (.aload_n 0, 1) := by decide +kernel
theorem dX4_put_43 : decode cX4_put 43 = .ok (.getfield 15, 3) := by decide +kernel
theorem dX4_put_46 : decode cX4_put 46 = .ok (.ireturn, 1) := by decide +kernel
theorem dX4_isEmpty_0 : decode cX4_isEmpty 0 = .ok (.aload_n 0, 1) := by decide +kernel
theorem dX4_isEmpty_1 : decode cX4_isEmpty 1 = .ok (.getfield 15, 3) := by decide +kernel
theorem dX4_isEmpty_4 : decode cX4_isEmpty 4 = .ok (.ifCond .ne 7, 3) := by decide +kernel
theorem dX4_isEmpty_7 : decode cX4_isEmpty 7 = .ok (.iconst 1, 1) := by decide +kernel
theorem dX4_isEmpty_8 : decode cX4_isEmpty 8 = .ok (.goto 4, 3) := by decide +kernel
theorem dX4_isEmpty_11 : decode cX4_isEmpty 11 = .ok (.iconst 0, 1) := by decide +kernel
theorem dX4_isEmpty_12 : decode cX4_isEmpty 12 = .ok (.ireturn, 1) := by decide +kernel
theorem dX4_howMany_0 : decode cX4_howMany 0 = .ok (.aload_n 0, 1) := by decide +kernel
theorem dX4_howMany_1 : decode cX4_howMany 1 = .ok (.getfield 15, 3) := by decide +kernel
theorem dX4_howMany_4 : decode cX4_howMany 4 = .ok (.ireturn, 1) := by decide +kernel
theorem dX4_at_0 : decode cX4_at 0 = .ok (.aload_n 0, 1) := by decide +kernel
theorem dX4_at_1 : decode cX4_at 1 = .ok (.getfield 9, 3) := by decide +kernel
theorem dX4_at_4 : decode cX4_at 4 = .ok (.iload_n 1, 1) := by decide +kernel
theorem dX4_at_5 : decode cX4_at 5 = .ok (.iaload, 1) := by decide +kernel
theorem dX4_at_6 : decode cX4_at 6 = .ok (.ireturn, 1) := by decide +kernel
theorem dX4_clear_0 : decode cX4_clear 0 = .ok (.aload_n 0, 1) := by decide +kernel
theorem dX4_clear_1 : decode cX4_clear 1 = .ok (.iconst 0, 1) := by decide +kernel
theorem dX4_clear_2 : decode cX4_clear 2 = .ok (.putfield 15, 3) := by decide +kernel
theorem dX4_clear_5 : decode cX4_clear 5 = .ok (.return_, 1) := by decide +kernel
set_option maxRecDepth 20000 in
theorem ggX4_fold_X4_foldOnce : GoodIn wsX4_fold wsX4_foldOnce := goodIn_r _ [5, 6, 7, 8, 9, 4, 10, 11, 12, 13, 14, 15, 16, 17] (by decide +kernel) (by decide +kernel)
set_option maxRecDepth 20000 in
theorem gX4_fold_X4_foldOnce : GoodIn wsX4_fold (wsV RX4 19 RX4 yX4_foldOnce wsX4_foldOnce) := goodIn_app (goodIn_of _ (by decide +kernel)) ggX4_fold_X4_foldOnce
theorem dX4_fold_0 : decode cX4_fold 0 = .ok (.iconst 0, 1) := by decide +kernel
theorem dX4_fold_1 : decode cX4_fold 1 = .ok (.istore_n 1, 1) := by decide +kernel
theorem dX4_fold_2 : decode cX4_fold 2 = .ok (.iload_n 1, 1) := by decide +kernel
theorem dX4_fold_3 : decode cX4_fold 3 = .ok (.bipush 12, 2) := by decide +kernel
theorem dX4_fold_5 : decode cX4_fold 5 = .ok (.if_icmp .ge 17, 3) := by decide +kernel
theorem dX4_fold_8 : decode cX4_fold 8 = .ok (.aload_n 0, 1) := by decide +kernel
theorem dX4_fold_9 : decode cX4_fold 9 = .ok (.invokevirtual 19, 3) := by decide +kernel
theorem dX4_fold_12 : decode cX4_fold 12 = .ok (.ifCond .ne 4, 3) := by decide +kernel
theorem dX4_fold_15 : decode cX4_fold 15 = .ok (.return_, 1) := by decide +kernel
theorem dX4_fold_16 : decode cX4_fold 16 = .ok (.iinc 1 1, 3) := by decide +kernel
theorem dX4_fold_19 : decode cX4_fold 19 = .ok (.goto (-17), 3) := by decide +kernel
theorem dX4_fold_22 : decode cX4_fold 22 = .ok (.return_, 1) := by decide +kernel
set_option maxRecDepth 20000 in
theorem ggX4_foldOnce_X4_standsTwice : GoodIn wsX4_foldOnce wsX4_standsTwice := goodIn_r _ [6, 7, 12, 13] (by decide +kernel) (by decide +kernel)
set_option maxRecDepth 20000 in
theorem gX4_foldOnce_X4_standsTwice : GoodIn wsX4_foldOnce (wsV RX4 23 RX4 yX4_standsTwice wsX4_standsTwice) := goodIn_app (goodIn_of _ (by decide +kernel)) ggX4_foldOnce_X4_standsTwice
set_option maxRecDepth 20000 in
theorem ggX4_foldOnce_X4_cut : GoodIn wsX4_foldOnce wsX4_cut := goodIn_r _ [11, 1, 7, 12, 13] (by decide +kernel) (by decide +kernel)
set_option maxRecDepth 20000 in
theorem gX4_foldOnce_X4_cut : GoodIn wsX4_foldOnce (wsV RX4 27 RX4 yX4_cut wsX4_cut) := goodIn_app (goodIn_of _ (by decide +kernel)) ggX4_foldOnce_X4_cut
theorem dX4_foldOnce_0 : decode cX4_foldOnce 0 = .ok (.iconst 1, 1) := by decide +kernel
theorem dX4_foldOnce_1 : decode cX4_foldOnce 1 = .ok (.istore_n 1, 1) := by decide +kernel
theorem dX4_foldOnce_2 : decode cX4_foldOnce 2 = .ok (.iload_n 1, 1) := by decide +kernel
theorem dX4_foldOnce_3 : decode cX4_foldOnce 3 = .ok (.iconst 3, 1) := by decide +kernel
theorem dX4_foldOnce_4 : decode cX4_foldOnce 4 = .ok (.if_icmp .gt 46, 3) := by decide +kernel
theorem dX4_foldOnce_7 : decode cX4_foldOnce 7 = .ok (.iconst 0, 1) := by decide +kernel
theorem dX4_foldOnce_8 : decode cX4_foldOnce 8 = .ok (.istore_n 2, 1) := by decide +kernel
theorem dX4_foldOnce_9 : decode cX4_foldOnce 9 = .ok (.iload_n 2, 1) := by decide +kernel
theorem dX4_foldOnce_10 : decode cX4_foldOnce 10 = .ok (.iconst 2, 1) := by decide +kernel
theorem dX4_foldOnce_11 : decode cX4_foldOnce 11 = .ok (.iload_n 1, 1) := by decide +kernel
theorem dX4_foldOnce_12 : decode cX4_foldOnce 12 = .ok (.imul, 1) := by decide +kernel
theorem dX4_foldOnce_13 : decode cX4_foldOnce 13 = .ok (.iadd, 1) := by decide +kernel
theorem dX4_foldOnce_14 : decode cX4_foldOnce 14 = .ok (.aload_n 0, 1) := by decide +kernel
theorem dX4_foldOnce_15 : decode cX4_foldOnce 15 = .ok (.getfield 15, 3) := by decide +kernel
theorem dX4_foldOnce_18 : decode cX4_foldOnce 18 = .ok (.if_icmp .gt 26, 3) := by decide +kernel
theorem dX4_foldOnce_21 : decode cX4_foldOnce 21 = .ok (.aload_n 0, 1) := by decide +kernel
theorem dX4_foldOnce_22 : decode cX4_foldOnce 22 = .ok (.iload_n 2, 1) := by decide +kernel
theorem dX4_foldOnce_23 : decode cX4_foldOnce 23 = .ok (.iload_n 1, 1) := by decide +kernel
theorem dX4_foldOnce_24 : decode cX4_foldOnce 24 = .ok (.invokevirtual 23, 3) := by decide +kernel
theorem dX4_foldOnce_27 : decode cX4_foldOnce 27 = .ok (.ifCond .eq 11, 3) := by decide +kernel
theorem dX4_foldOnce_30 : decode cX4_foldOnce 30 = .ok (.aload_n 0, 1) := by decide +kernel
theorem dX4_foldOnce_31 : decode cX4_foldOnce 31 = .ok (.iload_n 2, 1) := by decide +kernel
theorem dX4_foldOnce_32 : decode cX4_foldOnce 32 = .ok (.iload_n 1, 1) := by decide +kernel
theorem dX4_foldOnce_33 : decode cX4_foldOnce 33 = .ok (.invokevirtual 27, 3) := by decide +kernel
theorem dX4_foldOnce_36 : decode cX4_foldOnce 36 = .ok (.iconst 1, 1) := by decide +kernel
theorem dX4_foldOnce_37 : decode cX4_foldOnce 37 = .ok (.ireturn, 1) := by decide +kernel
theorem dX4_foldOnce_38 : decode cX4_foldOnce 38 = .ok (.iinc 2 1, 3) := by decide +kernel
theorem dX4_foldOnce_41 : decode cX4_foldOnce 41 = .ok (.goto (-32), 3) := by decide +kernel
theorem dX4_foldOnce_44 : decode cX4_foldOnce 44 = .ok (.iinc 1 1, 3) := by decide +kernel
theorem dX4_foldOnce_47 : decode cX4_foldOnce 47 = .ok (.goto (-45), 3) := by decide +kernel
theorem dX4_foldOnce_50 : decode cX4_foldOnce 50 = .ok (.iconst 0, 1) := by decide +kernel
theorem dX4_foldOnce_51 : decode cX4_foldOnce 51 = .ok (.ireturn, 1) := by decide +kernel
theorem dX4_standsTwice_0 : decode cX4_standsTwice 0 = .ok (.iload_n 1, 1) := by decide +kernel
theorem dX4_standsTwice_1 : decode cX4_standsTwice 1 = .ok (.istore_n 3, 1) := by decide +kernel
theorem dX4_standsTwice_2 : decode cX4_standsTwice 2 = .ok (.iload_n 3, 1) := by decide +kernel
theorem dX4_standsTwice_3 : decode cX4_standsTwice 3 = .ok (.iload_n 1, 1) := by decide +kernel
theorem dX4_standsTwice_4 : decode cX4_standsTwice 4 = .ok (.iload_n 2, 1) := by decide +kernel
theorem dX4_standsTwice_5 : decode cX4_standsTwice 5 = .ok (.iadd, 1) := by decide +kernel
theorem dX4_standsTwice_6 : decode cX4_standsTwice 6 = .ok (.if_icmp .ge 28, 3) := by decide +kernel
theorem dX4_standsTwice_9 : decode cX4_standsTwice 9 = .ok (.aload_n 0, 1) := by decide +kernel
theorem dX4_standsTwice_10 : decode cX4_standsTwice 10 = .ok (.getfield 9, 3) := by decide +kernel
theorem dX4_standsTwice_13 : decode cX4_standsTwice 13 = .ok (.iload_n 3, 1) := by decide +kernel
theorem dX4_standsTwice_14 : decode cX4_standsTwice 14 = .ok (.iaload, 1) := by decide +kernel
theorem dX4_standsTwice_15 : decode cX4_standsTwice 15 = .ok (.aload_n 0, 1) := by decide +kernel
theorem dX4_standsTwice_16 : decode cX4_standsTwice 16 = .ok (.getfield 9, 3) := by decide +kernel
theorem dX4_standsTwice_19 : decode cX4_standsTwice 19 = .ok (.iload_n 3, 1) := by decide +kernel
theorem dX4_standsTwice_20 : decode cX4_standsTwice 20 = .ok (.iload_n 2, 1) := by decide +kernel
theorem dX4_standsTwice_21 : decode cX4_standsTwice 21 = .ok (.iadd, 1) := by decide +kernel
theorem dX4_standsTwice_22 : decode cX4_standsTwice 22 = .ok (.iaload, 1) := by decide +kernel
theorem dX4_standsTwice_23 : decode cX4_standsTwice 23 = .ok (.if_icmp .eq 5, 3) := by decide +kernel
theorem dX4_standsTwice_26 : decode cX4_standsTwice 26 = .ok (.iconst 0, 1) := by decide +kernel
theorem dX4_standsTwice_27 : decode cX4_standsTwice 27 = .ok (.ireturn, 1) := by decide +kernel
theorem dX4_standsTwice_28 : decode cX4_standsTwice 28 = .ok (.iinc 3 1, 3) := by decide +kernel
theorem dX4_standsTwice_31 : decode cX4_standsTwice 31 = .ok (.goto (-29), 3) := by decide +kernel
theorem dX4_standsTwice_34 : decode cX4_standsTwice 34 = .ok (.iconst 1, 1) := by decide +kernel
theorem dX4_standsTwice_35 : decode cX4_standsTwice 35 = .ok (.ireturn, 1) := by decide +kernel
theorem dX4_cut_0 : decode cX4_cut 0 = .ok (.iload_n 1, 1) := by decide +kernel
theorem dX4_cut_1 : decode cX4_cut 1 = .ok (.istore_n 3, 1) := by decide +kernel
theorem dX4_cut_2 : decode cX4_cut 2 = .ok (.iload_n 3, 1) := by decide +kernel
theorem dX4_cut_3 : decode cX4_cut 3 = .ok (.iload_n 2, 1) := by decide +kernel
theorem dX4_cut_4 : decode cX4_cut 4 = .ok (.iadd, 1) := by decide +kernel
theorem dX4_cut_5 : decode cX4_cut 5 = .ok (.aload_n 0, 1) := by decide +kernel
theorem dX4_cut_6 : decode cX4_cut 6 = .ok (.getfield 15, 3) := by decide +kernel
theorem dX4_cut_9 : decode cX4_cut 9 = .ok (.if_icmp .ge 23, 3) := by decide +kernel
theorem dX4_cut_12 : decode cX4_cut 12 = .ok (.aload_n 0, 1) := by decide +kernel
theorem dX4_cut_13 : decode cX4_cut 13 = .ok (.getfield 9, 3) := by decide +kernel
theorem dX4_cut_16 : decode cX4_cut 16 = .ok (.iload_n 3, 1) := by decide +kernel
theorem dX4_cut_17 : decode cX4_cut 17 = .ok (.aload_n 0, 1) := by decide +kernel
theorem dX4_cut_18 : decode cX4_cut 18 = .ok (.getfield 9, 3) := by decide +kernel
theorem dX4_cut_21 : decode cX4_cut 21 = .ok (.iload_n 3, 1) := by decide +kernel
theorem dX4_cut_22 : decode cX4_cut 22 = .ok (.iload_n 2, 1) := by decide +kernel
theorem dX4_cut_23 : decode cX4_cut 23 = .ok (.iadd, 1) := by decide +kernel
theorem dX4_cut_24 : decode cX4_cut 24 = .ok (.iaload, 1) := by decide +kernel
theorem dX4_cut_25 : decode cX4_cut 25 = .ok (.iastore, 1) := by decide +kernel
theorem dX4_cut_26 : decode cX4_cut 26 = .ok (.iinc 3 1, 3) := by decide +kernel
theorem dX4_cut_29 : decode cX4_cut 29 = .ok (.goto (-27), 3) := by decide +kernel
theorem dX4_cut_32 : decode cX4_cut 32 = .ok (.aload_n 0, 1) := by decide +kernel
theorem dX4_cut_33 : decode cX4_cut 33 = .ok (.dup, 1) := by decide +kernel
theorem dX4_cut_34 : decode cX4_cut 34 = .ok (.getfield 15, 3) := by decide +kernel
theorem dX4_cut_37 : decode cX4_cut 37 = .ok (.iload_n 2, 1) := by decide +kernel
theorem dX4_cut_38 : decode cX4_cut 38 = .ok (.isub, 1) := by decide +kernel
theorem dX4_cut_39 : decode cX4_cut 39 = .ok (.putfield 15, 3) := by decide +kernel
theorem dX4_cut_42 : decode cX4_cut 42 = .ok (.return_, 1) := by decide +kernel
theorem dX5_init_0 : decode cX5_init 0 = .ok (.aload_n 0, 1) := by decide +kernel
theorem dX5_init_1 : decode cX5_init 1 = .ok (.invokespecial 3, 3) := by decide +kernel
theorem dX5_init_4 : decode cX5_init 4 = .ok (.aload_n 0, 1) := by decide +kernel
theorem dX5_init_5 : decode cX5_init 5 = .ok (.bipush 30, 2) := by decide +kernel
theorem dX5_init_7 : decode cX5_init 7 = .ok (.newarray .int, 2) := by decide +kernel
theorem dX5_init_9 : decode cX5_init 9 = .ok (.putfield 9, 3) := by decide +kernel
theorem dX5_init_12 : decode cX5_init 12 = .ok (.aload_n 0, 1) := by decide +kernel
theorem dX5_init_13 : decode cX5_init 13 = .ok (.iconst 1, 1) := by decide +kernel
theorem dX5_init_14 : decode cX5_init 14 = .ok (.putfield 15, 3) := by decide +kernel
theorem dX5_init_17 : decode cX5_init 17 = .ok (.aload_n 0, 1) := by decide +kernel
theorem dX5_init_18 : decode cX5_init 18 = .ok (.getfield 9, 3) := by decide +kernel
theorem dX5_init_21 : decode cX5_init 21 = .ok (.iconst 0, 1) := by decide +kernel
theorem dX5_init_22 : decode cX5_init 22 = .ok (.iconst 1, 1) := by decide +kernel
theorem dX5_init_23 : decode cX5_init 23 = .ok (.iastore, 1) := by decide +kernel
theorem dX5_init_24 : decode cX5_init 24 = .ok (.return_, 1) := by decide +kernel
theorem dX5_has_0 : decode cX5_has 0 = .ok (.iload_n 1, 1) := by decide +kernel
theorem dX5_has_1 : decode cX5_has 1 = .ok (.ifCond .lt 15, 3) := by decide +kernel
theorem dX5_has_4 : decode cX5_has 4 = .ok (.iload_n 1, 1) := by decide +kernel
theorem dX5_has_5 : decode cX5_has 5 = .ok (.aload_n 0, 1) := by decide +kernel
theorem dX5_has_6 : decode cX5_has 6 = .ok (.getfield 15, 3) := by decide +kernel
theorem dX5_has_9 : decode cX5_has 9 = .ok (.if_icmp .ge 7, 3) := by decide +kernel
theorem dX5_has_12 : decode cX5_has 12 = .ok (.iconst 1, 1) := by decide +kernel
theorem dX5_has_13 : decode cX5_has 13 = .ok (.goto 4, 3) := by decide +kernel
theorem dX5_has_16 : decode cX5_has 16 = .ok (.iconst 0, 1) := by decide +kernel
theorem dX5_has_17 : decode cX5_has 17 = .ok (.ireturn, 1) := by decide +kernel
theorem dX5_howMany_0 : decode cX5_howMany 0 = .ok (.aload_n 0, 1) := by decide +kernel
theorem dX5_howMany_1 : decode cX5_howMany 1 = .ok (.getfield 15, 3) := by decide +kernel
theorem dX5_howMany_4 : decode cX5_howMany 4 = .ok (.ireturn, 1) := by decide +kernel
set_option maxRecDepth 20000 in
theorem ggX5_make_X5_has : GoodIn wsX5_make wsX5_has := goodIn_r _ [7, 1, 8, 9] (by decide +kernel) (by decide +kernel)
set_option maxRecDepth 20000 in
theorem gX5_make_X5_has : GoodIn wsX5_make (wsV RX5 19 RX5 yX5_has wsX5_has) := goodIn_app (goodIn_of _ (by decide +kernel)) ggX5_make_X5_has
theorem dX5_make_0 : decode cX5_make 0 = .ok (.aload_n 0, 1) := by decide +kernel
theorem dX5_make_1 : decode cX5_make 1 = .ok (.iload_n 1, 1) := by decide +kernel
theorem dX5_make_2 : decode cX5_make 2 = .ok (.invokevirtual 19, 3) := by decide +kernel
theorem dX5_make_5 : decode cX5_make 5 = .ok (.ifCond .eq 12, 3) := by decide +kernel
theorem dX5_make_8 : decode cX5_make 8 = .ok (.aload_n 0, 1) := by decide +kernel
theorem dX5_make_9 : decode cX5_make 9 = .ok (.getfield 15, 3) := by decide +kernel
theorem dX5_make_12 : decode cX5_make 12 = .ok (.bipush 30, 2) := by decide +kernel
theorem dX5_make_14 : decode cX5_make 14 = .ok (.if_icmp .lt 5, 3) := by decide +kernel
theorem dX5_make_17 : decode cX5_make 17 = .ok (.iconst (-1), 1) := by decide +kernel
theorem dX5_make_18 : decode cX5_make 18 = .ok (.ireturn, 1) := by decide +kernel
theorem dX5_make_19 : decode cX5_make 19 = .ok (.aload_n 0, 1) := by decide +kernel
theorem dX5_make_20 : decode cX5_make 20 = .ok (.getfield 15, 3) := by decide +kernel
theorem dX5_make_23 : decode cX5_make 23 = .ok (.istore_n 2, 1) := by decide +kernel
theorem dX5_make_24 : decode cX5_make 24 = .ok (.aload_n 0, 1) := by decide +kernel
theorem dX5_make_25 : decode cX5_make 25 = .ok (.getfield 9, 3) := by decide +kernel
theorem dX5_make_28 : decode cX5_make 28 = .ok (.iload_n 2, 1) := by decide +kernel
theorem dX5_make_29 : decode cX5_make 29 = .ok (.aload_n 0, 1) := by decide +kernel
theorem dX5_make_30 : decode cX5_make 30 = .ok (.getfield 9, 3) := by decide +kernel
theorem dX5_make_33 : decode cX5_make 33 = .ok (.iload_n 1, 1) := by decide +kernel
theorem dX5_make_34 : decode cX5_make 34 = .ok (.iaload, 1) := by decide +kernel
theorem dX5_make_35 : decode cX5_make 35 = .ok (.iconst 1, 1) := by decide +kernel
theorem dX5_make_36 : decode cX5_make 36 = .ok (.iload_n 2, 1) := by decide +kernel
theorem dX5_make_37 : decode cX5_make 37 = .ok (.ishl, 1) := by decide +kernel
theorem dX5_make_38 : decode cX5_make 38 = .ok (.ior, 1) := by decide +kernel
theorem dX5_make_39 : decode cX5_make 39 = .ok (.iastore, 1) := by decide +kernel
theorem dX5_make_40 : decode cX5_make 40 = .ok (.aload_n 0, 1) := by decide +kernel
theorem dX5_make_41 : decode cX5_make 41 = .ok (.dup, 1) := by decide +kernel
theorem dX5_make_42 : decode cX5_make 42 = .ok (.getfield 15, 3) := by decide +kernel
theorem dX5_make_45 : decode cX5_make 45 = .ok (.iconst 1, 1) := by decide +kernel
theorem dX5_make_46 : decode cX5_make 46 = .ok (.iadd, 1) := by decide +kernel
theorem dX5_make_47 : decode cX5_make 47 = .ok (.putfield 15, 3) := by decide +kernel
theorem dX5_make_50 : decode cX5_make 50 = .ok (.iload_n 2, 1) := by decide +kernel
theorem dX5_make_51 : decode cX5_make 51 = .ok (.ireturn, 1) := by decide +kernel
theorem dX5_isOrIsBehind_0 : decode cX5_isOrIsBehind 0 = .ok (.aload_n 0, 1) := by decide +kernel
theorem dX5_isOrIsBehind_1 : decode cX5_isOrIsBehind 1 = .ok (.getfield 9, 3) := by decide +kernel
theorem dX5_isOrIsBehind_4 : decode cX5_isOrIsBehind 4 = .ok (.iload_n 1, 1) := by decide +kernel
theorem dX5_isOrIsBehind_5 : decode cX5_isOrIsBehind 5 = .ok (.iaload, 1) := by decide +kernel
theorem dX5_isOrIsBehind_6 : decode cX5_isOrIsBehind 6 = .ok (.iload_n 2, 1) := by decide +kernel
theorem dX5_isOrIsBehind_7 : decode cX5_isOrIsBehind 7 = .ok (.ishr, 1) := by decide +kernel
theorem dX5_isOrIsBehind_8 : decode cX5_isOrIsBehind 8 = .ok (.iconst 1, 1) := by decide +kernel
theorem dX5_isOrIsBehind_9 : decode cX5_isOrIsBehind 9 = .ok (.iand, 1) := by decide +kernel
theorem dX5_isOrIsBehind_10 : decode cX5_isOrIsBehind 10 = .ok (.iconst 1, 1) := by decide +kernel
theorem dX5_isOrIsBehind_11 : decode cX5_isOrIsBehind 11 = .ok (.if_icmp .ne 7, 3) := by decide +kernel
theorem dX5_isOrIsBehind_14 : decode cX5_isOrIsBehind 14 = .ok (.iconst 1, 1) := by decide +kernel
theorem dX5_isOrIsBehind_15 : decode cX5_isOrIsBehind 15 = .ok (.goto 4, 3) := by decide +kernel
theorem dX5_isOrIsBehind_18 : decode cX5_isOrIsBehind 18 = .ok (.iconst 0, 1) := by decide +kernel
theorem dX5_isOrIsBehind_19 : decode cX5_isOrIsBehind 19 = .ok (.ireturn, 1) := by decide +kernel
set_option maxRecDepth 20000 in
theorem ggX6_init_X4_init : GoodIn wsX6_init wsX4_init := goodIn_r _ [29, 30, 2, 3, 31, 32, 33, 93, 94] (by decide +kernel) (by decide +kernel)
set_option maxRecDepth 20000 in
theorem gX6_init_X4_init_n9 : GoodIn wsX6_init (wsX4_init) := ggX6_init_X4_init
set_option maxRecDepth 20000 in
theorem ggX6_init_X5_init : GoodIn wsX6_init wsX5_init := goodIn_r _ [36, 37, 2, 3, 31, 38, 39, 101, 102] (by decide +kernel) (by decide +kernel)
set_option maxRecDepth 20000 in
theorem gX6_init_X5_init : GoodIn wsX6_init (wsX5_init) := ggX6_init_X5_init
set_option maxRecDepth 20000 in
theorem ggX6_init_X3_init : GoodIn wsX6_init wsX3_init := goodIn_r _ [41, 42, 2, 3, 43, 31, 44, 45, 46, 47, 48, 49, 50, 103, 104, 105, 106, 107, 108] (by decide +kernel) (by decide +kernel)
set_option maxRecDepth 20000 in
theorem gX6_init_X3_init_n25 : GoodIn wsX6_init (wsX3_init) := ggX6_init_X3_init
set_option maxRecDepth 20000 in
theorem ggX6_init_X0_init : GoodIn wsX6_init wsX0_init := goodIn_r _ [53, 54, 2, 3, 55, 31, 56, 57, 58, 59, 60, 61, 62, 63, 64, 65, 109, 110, 111, 112, 113] (by decide +kernel) (by decide +kernel)
set_option maxRecDepth 20000 in
theorem gX6_init_X0_init : GoodIn wsX6_init (wsX0_init) := ggX6_init_X0_init
set_option maxRecDepth 20000 in
theorem ggX6_init_X1_init : GoodIn wsX6_init wsX1_init := goodIn_r _ [67, 68, 2, 3, 69, 31, 70, 71, 72, 73, 74, 75, 76, 77, 78, 79, 80, 81, 82, 83, 84, 114, 115, 116, 117, 118, 119, 120, 121, 122, 123, 124, 125, 126, 127, 128] (by decide +kernel) (by decide +kernel)
set_option maxRecDepth 20000 in
theorem gX6_init_X1_init_n39 : GoodIn wsX6_init (wsX1_init) := ggX6_init_X1_init
set_option maxRecDepth 20000 in
theorem ggX6_init_X2_init : GoodIn wsX6_init wsX2_init := goodIn_r _ [86, 87, 2, 3, 31, 88, 48, 89, 90, 91, 92, 129, 130, 131, 132, 133] (by decide +kernel) (by decide +kernel)
set_option maxRecDepth 20000 in
theorem gX6_init_X2_init_n46 : GoodIn wsX6_init (wsX2_init) := ggX6_init_X2_init
theorem dX6_init_0 : decode cX6_init 0 = .ok (.aload_n 0, 1) := by decide +kernel
theorem dX6_init_1 : decode cX6_init 1 = .ok (.invokespecial 1, 3) := by decide +kernel
theorem dX6_init_4 : decode cX6_init 4 = .ok (.aload_n 0, 1) := by decide +kernel
theorem dX6_init_5 : decode cX6_init 5 = .ok (.new 7, 3) := by decide +kernel
theorem dX6_init_8 : decode cX6_init 8 = .ok (.dup, 1) := by decide +kernel
theorem dX6_init_9 : decode cX6_init 9 = .ok (.invokespecial 9, 3) := by decide +kernel
theorem dX6_init_12 : decode cX6_init 12 = .ok (.putfield 10, 3) := by decide +kernel
theorem dX6_init_15 : decode cX6_init 15 = .ok (.aload_n 0, 1) := by decide +kernel
theorem dX6_init_16 : decode cX6_init 16 = .ok (.new 16, 3) := by decide +kernel
theorem dX6_init_19 : decode cX6_init 19 = .ok (.dup, 1) := by decide +kernel
theorem dX6_init_20 : decode cX6_init 20 = .ok (.invokespecial 18, 3) := by decide +kernel
theorem dX6_init_23 : decode cX6_init 23 = .ok (.putfield 19, 3) := by decide +kernel
theorem dX6_init_26 : decode cX6_init 26 = .ok (.aload_n 0, 1) := by decide +kernel
theorem dX6_init_27 : decode cX6_init 27 = .ok (.new 23, 3) := by decide +kernel
theorem dX6_init_30 : decode cX6_init 30 = .ok (.dup, 1) := by decide +kernel
theorem dX6_init_31 : decode cX6_init 31 = .ok (.invokespecial 25, 3) := by decide +kernel
theorem dX6_init_34 : decode cX6_init 34 = .ok (.putfield 26, 3) := by decide +kernel
theorem dX6_init_37 : decode cX6_init 37 = .ok (.aload_n 0, 1) := by decide +kernel
theorem dX6_init_38 : decode cX6_init 38 = .ok (.new 30, 3) := by decide +kernel
theorem dX6_init_41 : decode cX6_init 41 = .ok (.dup, 1) := by decide +kernel
theorem dX6_init_42 : decode cX6_init 42 = .ok (.invokespecial 32, 3) := by decide +kernel
theorem dX6_init_45 : decode cX6_init 45 = .ok (.putfield 33, 3) := by decide +kernel
theorem dX6_init_48 : decode cX6_init 48 = .ok (.aload_n 0, 1) := by decide +kernel
theorem dX6_init_49 : decode cX6_init 49 = .ok (.new 37, 3) := by decide +kernel
theorem dX6_init_52 : decode cX6_init 52 = .ok (.dup, 1) := by decide +kernel
theorem dX6_init_53 : decode cX6_init 53 = .ok (.invokespecial 39, 3) := by decide +kernel
theorem dX6_init_56 : decode cX6_init 56 = .ok (.putfield 40, 3) := by decide +kernel
theorem dX6_init_59 : decode cX6_init 59 = .ok (.aload_n 0, 1) := by decide +kernel
theorem dX6_init_60 : decode cX6_init 60 = .ok (.new 44, 3) := by decide +kernel
theorem dX6_init_63 : decode cX6_init 63 = .ok (.dup, 1) := by decide +kernel
theorem dX6_init_64 : decode cX6_init 64 = .ok (.invokespecial 46, 3) := by decide +kernel
theorem dX6_init_67 : decode cX6_init 67 = .ok (.putfield 47, 3) := by decide +kernel
theorem dX6_init_70 : decode cX6_init 70 = .ok (.return_, 1) := by decide +kernel
set_option maxRecDepth 20000 in
theorem ggX6_frame_X4_put : GoodIn wsX6_frame wsX4_put := goodIn_r _ [6, 7, 8, 15, 16] (by decide +kernel) (by decide +kernel)
set_option maxRecDepth 20000 in
theorem gX6_frame_X4_put : GoodIn wsX6_frame (wsV RX6 51 RX4 yX4_put wsX4_put) := goodIn_app (goodIn_of _ (by decide +kernel)) ggX6_frame_X4_put
theorem dX6_frame_0 : decode cX6_frame 0 = .ok (.aload_n 0, 1) := by decide +kernel
theorem dX6_frame_1 : decode cX6_frame 1 = .ok (.getfield 10, 3) := by decide +kernel
theorem dX6_frame_4 : decode cX6_frame 4 = .ok (.iload_n 1, 1) := by decide +kernel
theorem dX6_frame_5 : decode cX6_frame 5 = .ok (.invokevirtual 51, 3) := by decide +kernel
theorem dX6_frame_8 : decode cX6_frame 8 = .ok (.ireturn, 1) := by decide +kernel
set_option maxRecDepth 20000 in
theorem ggX6_version_X5_make : GoodIn wsX6_version wsX5_make := goodIn_r _ [6, 7, 8, 9, 10, 11, 5, 12, 19, 20] (by decide +kernel) (by decide +kernel)
set_option maxRecDepth 20000 in
theorem gX6_version_X5_make : GoodIn wsX6_version (wsV RX6 55 RX5 yX5_make wsX5_make) := goodIn_app (goodIn_of _ (by decide +kernel)) ggX6_version_X5_make
theorem dX6_version_0 : decode cX6_version 0 = .ok (.aload_n 0, 1) := by decide +kernel
theorem dX6_version_1 : decode cX6_version 1 = .ok (.getfield 19, 3) := by decide +kernel
theorem dX6_version_4 : decode cX6_version 4 = .ok (.iload_n 1, 1) := by decide +kernel
theorem dX6_version_5 : decode cX6_version 5 = .ok (.invokevirtual 55, 3) := by decide +kernel
theorem dX6_version_8 : decode cX6_version 8 = .ok (.ireturn, 1) := by decide +kernel
set_option maxRecDepth 20000 in
theorem ggX6_report_X4_isEmpty : GoodIn wsX6_report wsX4_isEmpty := goodIn_r _ [10, 11, 180, 181] (by decide +kernel) (by decide +kernel)
set_option maxRecDepth 20000 in
theorem gX6_report_X4_isEmpty : GoodIn wsX6_report (wsV RX6 58 RX4 yX4_isEmpty wsX4_isEmpty) := goodIn_app (goodIn_of _ (by decide +kernel)) ggX6_report_X4_isEmpty
set_option maxRecDepth 20000 in
theorem ggX6_report_X5_has : GoodIn wsX6_report wsX5_has := goodIn_r _ [16, 17, 182, 183] (by decide +kernel) (by decide +kernel)
set_option maxRecDepth 20000 in
theorem gX6_report_X5_has : GoodIn wsX6_report (wsV RX6 62 RX5 yX5_has wsX5_has) := goodIn_app (goodIn_of _ (by decide +kernel)) ggX6_report_X5_has
set_option maxRecDepth 20000 in
theorem ggX6_report_X3_isFull : GoodIn wsX6_report wsX3_isFull := goodIn_r _ [22, 23, 184, 185, 186, 187, 188, 189] (by decide +kernel) (by decide +kernel)
set_option maxRecDepth 20000 in
theorem gX6_report_X3_isFull : GoodIn wsX6_report (wsV RX6 66 RX3 yX3_isFull wsX3_isFull) := goodIn_app (goodIn_of _ (by decide +kernel)) ggX6_report_X3_isFull
set_option maxRecDepth 20000 in
theorem ggX6_report_X4_fold : GoodIn wsX6_report wsX4_fold := goodIn_r _ [27, 28, 29, 30, 9, 31, 11, 32, 33, 34, 35, 36, 37, 38, 39, 40, 180, 181] (by decide +kernel) (by decide +kernel)
set_option maxRecDepth 20000 in
theorem gX6_report_X4_fold : GoodIn wsX6_report (wsV RX6 69 RX4 yX4_fold wsX4_fold) := goodIn_app (goodIn_of _ (by decide +kernel)) ggX6_report_X4_fold
set_option maxRecDepth 20000 in
theorem ggX6_report_X3_add : GoodIn wsX6_report wsX3_add := goodIn_r _ [44, 23, 45, 46, 47, 48, 49, 50, 51, 52, 9, 53, 11, 54, 55, 56, 57, 36, 184, 185, 186, 187, 188, 189, 180, 181] (by decide +kernel) (by decide +kernel)
set_option maxRecDepth 20000 in
theorem gX6_report_X3_add : GoodIn wsX6_report (wsV RX6 72 RX3 yX3_add wsX3_add) := goodIn_app (goodIn_of _ (by decide +kernel)) ggX6_report_X3_add
set_option maxRecDepth 20000 in
theorem ggX6_report_X4_clear : GoodIn wsX6_report wsX4_clear := goodIn_r _ [61, 11, 180, 181] (by decide +kernel) (by decide +kernel)
set_option maxRecDepth 20000 in
theorem gX6_report_X4_clear : GoodIn wsX6_report (wsV RX6 76 RX4 yX4_clear wsX4_clear) := goodIn_app (goodIn_of _ (by decide +kernel)) ggX6_report_X4_clear
set_option maxRecDepth 20000 in
theorem ggX6_report_X0_renew : GoodIn wsX6_report wsX0_renew := goodIn_r _ [66, 67, 68, 69, 70, 71, 21, 72, 23, 73, 74, 75, 65, 76, 77, 78, 79, 80, 81, 82, 45, 83, 84, 85, 86, 46, 87, 88, 89, 90, 47, 91, 92, 93, 94, 95, 96, 97, 98, 99, 100, 101, 102, 103, 104, 105, 106, 107, 108, 109, 110, 111, 112, 190, 191, 192, 193, 194, 184, 185, 186, 187, 188, 189] (by decide +kernel) (by decide +kernel)
set_option maxRecDepth 20000 in
theorem gX6_report_X0_renew : GoodIn wsX6_report (wsV RX6 79 RX0 yX0_renew wsX0_renew) := goodIn_app (goodIn_of _ (by decide +kernel)) ggX6_report_X0_renew
set_option maxRecDepth 20000 in
theorem ggX6_report_X1_addAlone : GoodIn wsX6_report wsX1_addAlone := goodIn_r _ [117, 118, 119, 120, 121, 122, 123, 116, 124, 125, 126, 127, 128, 129, 130, 131, 195, 196, 197, 198, 199, 200, 201, 202, 203, 204, 205, 206, 207, 208, 209] (by decide +kernel) (by decide +kernel)
set_option maxRecDepth 20000 in
theorem gX6_report_X1_addAlone : GoodIn wsX6_report (wsV RX6 83 RX1 yX1_addAlone wsX1_addAlone) := goodIn_app (goodIn_of _ (by decide +kernel)) ggX6_report_X1_addAlone
set_option maxRecDepth 20000 in
theorem ggX6_report_X1_settle : GoodIn wsX6_report wsX1_settle := goodIn_r _ [135, 136, 137, 138, 139, 140, 141, 116, 142, 118, 143, 119, 144, 145, 128, 129, 130, 131, 146, 147, 148, 65, 149, 68, 150, 151, 152, 153, 120, 154, 155, 156, 157, 158, 159, 160, 161, 162, 163, 164, 165, 127, 166, 167, 168, 169, 170, 171, 172, 173, 121, 122, 123, 124, 125, 126, 195, 196, 197, 198, 199, 200, 201, 202, 203, 204, 205, 206, 207, 208, 209, 190, 191, 192, 193, 194] (by decide +kernel) (by decide +kernel)
set_option maxRecDepth 20000 in
theorem gX6_report_X1_settle : GoodIn wsX6_report (wsV RX6 86 RX1 yX1_settle wsX1_settle) := goodIn_app (goodIn_of _ (by decide +kernel)) ggX6_report_X1_settle
theorem dX6_report_0 : decode cX6_report 0 = .ok (.aload_n 0, 1) := by decide +kernel
theorem dX6_report_1 : decode cX6_report 1 = .ok (.getfield 10, 3) := by decide +kernel
theorem dX6_report_4 : decode cX6_report 4 = .ok (.invokevirtual 58, 3) := by decide +kernel
theorem dX6_report_7 : decode cX6_report 7 = .ok (.ifCond .ne 24, 3) := by decide +kernel
theorem dX6_report_10 : decode cX6_report 10 = .ok (.aload_n 0, 1) := by decide +kernel
theorem dX6_report_11 : decode cX6_report 11 = .ok (.getfield 19, 3) := by decide +kernel
theorem dX6_report_14 : decode cX6_report 14 = .ok (.iload_n 1, 1) := by decide +kernel
theorem dX6_report_15 : decode cX6_report 15 = .ok (.invokevirtual 62, 3) := by decide +kernel
theorem dX6_report_18 : decode cX6_report 18 = .ok (.ifCond .eq 13, 3) := by decide +kernel
theorem dX6_report_21 : decode cX6_report 21 = .ok (.aload_n 0, 1) := by decide +kernel
theorem dX6_report_22 : decode cX6_report 22 = .ok (.getfield 26, 3) := by decide +kernel
theorem dX6_report_25 : decode cX6_report 25 = .ok (.invokevirtual 66, 3) := by decide +kernel
theorem dX6_report_28 : decode cX6_report 28 = .ok (.ifCond .eq 5, 3) := by decide +kernel
theorem dX6_report_31 : decode cX6_report 31 = .ok (.iconst (-1), 1) := by decide +kernel
theorem dX6_report_32 : decode cX6_report 32 = .ok (.ireturn, 1) := by decide +kernel
theorem dX6_report_33 : decode cX6_report 33 = .ok (.aload_n 0, 1) := by decide +kernel
theorem dX6_report_34 : decode cX6_report 34 = .ok (.getfield 10, 3) := by decide +kernel
theorem dX6_report_37 : decode cX6_report 37 = .ok (.invokevirtual 69, 3) := by decide +kernel
theorem dX6_report_40 : decode cX6_report 40 = .ok (.aload_n 0, 1) := by decide +kernel
theorem dX6_report_41 : decode cX6_report 41 = .ok (.getfield 26, 3) := by decide +kernel
theorem dX6_report_44 : decode cX6_report 44 = .ok (.aload_n 0, 1) := by decide +kernel
theorem dX6_report_45 : decode cX6_report 45 = .ok (.getfield 10, 3) := by decide +kernel
theorem dX6_report_48 : decode cX6_report 48 = .ok (.iload_n 1, 1) := by decide +kernel
theorem dX6_report_49 : decode cX6_report 49 = .ok (.invokevirtual 72, 3) := by decide +kernel
theorem dX6_report_52 : decode cX6_report 52 = .ok (.istore_n 2, 1) := by decide +kernel
theorem dX6_report_53 : decode cX6_report 53 = .ok (.aload_n 0, 1) := by decide +kernel
theorem dX6_report_54 : decode cX6_report 54 = .ok (.getfield 10, 3) := by decide +kernel
theorem dX6_report_57 : decode cX6_report 57 = .ok (.invokevirtual 76, 3) := by decide +kernel
theorem dX6_report_60 : decode cX6_report 60 = .ok (.aload_n 0, 1) := by decide +kernel
theorem dX6_report_61 : decode cX6_report 61 = .ok (.getfield 33, 3) := by decide +kernel
theorem dX6_report_64 : decode cX6_report 64 = .ok (.aload_n 0, 1) := by decide +kernel
theorem dX6_report_65 : decode cX6_report 65 = .ok (.getfield 26, 3) := by decide +kernel
theorem dX6_report_68 : decode cX6_report 68 = .ok (.invokevirtual 79, 3) := by decide +kernel
theorem dX6_report_71 : decode cX6_report 71 = .ok (.aload_n 0, 1) := by decide +kernel
theorem dX6_report_72 : decode cX6_report 72 = .ok (.getfield 40, 3) := by decide +kernel
theorem dX6_report_75 : decode cX6_report 75 = .ok (.invokevirtual 83, 3) := by decide +kernel
theorem dX6_report_78 : decode cX6_report 78 = .ok (.aload_n 0, 1) := by decide +kernel
theorem dX6_report_79 : decode cX6_report 79 = .ok (.getfield 40, 3) := by decide +kernel
theorem dX6_report_82 : decode cX6_report 82 = .ok (.aload_n 0, 1) := by decide +kernel
theorem dX6_report_83 : decode cX6_report 83 = .ok (.getfield 33, 3) := by decide +kernel
theorem dX6_report_86 : decode cX6_report 86 = .ok (.invokevirtual 86, 3) := by decide +kernel
theorem dX6_report_89 : decode cX6_report 89 = .ok (.iload_n 2, 1) := by decide +kernel
theorem dX6_report_90 : decode cX6_report 90 = .ok (.ireturn, 1) := by decide +kernel
set_option maxRecDepth 20000 in
theorem ggX6_pair_X3_hasTwo : GoodIn wsX6_pair wsX3_hasTwo := goodIn_r _ [8, 9, 10, 11, 7, 12, 13, 83, 84, 85, 86, 87, 88] (by decide +kernel) (by decide +kernel)
set_option maxRecDepth 20000 in
theorem gX6_pair_X3_hasTwo : GoodIn wsX6_pair (wsV RX6 90 RX3 yX3_hasTwo wsX3_hasTwo) := goodIn_app (goodIn_of _ (by decide +kernel)) ggX6_pair_X3_hasTwo
set_option maxRecDepth 20000 in
theorem ggX6_pair_X1_wish : GoodIn wsX6_pair wsX1_wish := goodIn_r _ [18, 19, 89, 90, 91, 92, 93, 94, 95, 96, 97, 98, 99, 100, 101, 102, 103] (by decide +kernel) (by decide +kernel)
set_option maxRecDepth 20000 in
theorem gX6_pair_X1_wish : GoodIn wsX6_pair (wsV RX6 94 RX1 yX1_wish wsX1_wish) := goodIn_app (goodIn_of _ (by decide +kernel)) ggX6_pair_X1_wish
set_option maxRecDepth 20000 in
theorem ggX6_pair_X1_settle : GoodIn wsX6_pair wsX1_settle := goodIn_r _ [23, 24, 25, 26, 27, 28, 29, 17, 30, 31, 32, 33, 34, 19, 35, 36, 37, 38, 39, 40, 41, 42, 43, 44, 45, 46, 47, 48, 49, 50, 51, 52, 53, 54, 55, 56, 57, 58, 59, 60, 61, 62, 63, 64, 65, 66, 67, 68, 69, 70, 71, 72, 73, 74, 75, 76, 89, 90, 91, 92, 93, 94, 95, 96, 97, 98, 99, 100, 101, 102, 103, 104, 105, 106, 107, 108] (by decide +kernel) (by decide +kernel)
set_option maxRecDepth 20000 in
theorem gX6_pair_X1_settle : GoodIn wsX6_pair (wsV RX6 86 RX1 yX1_settle wsX1_settle) := goodIn_app (goodIn_of _ (by decide +kernel)) ggX6_pair_X1_settle
theorem dX6_pair_0 : decode cX6_pair 0 = .ok (.aload_n 0, 1) := by decide +kernel
theorem dX6_pair_1 : decode cX6_pair 1 = .ok (.getfield 26, 3) := by decide +kernel
theorem dX6_pair_4 : decode cX6_pair 4 = .ok (.iload_n 1, 1) := by decide +kernel
theorem dX6_pair_5 : decode cX6_pair 5 = .ok (.iload_n 2, 1) := by decide +kernel
theorem dX6_pair_6 : decode cX6_pair 6 = .ok (.invokevirtual 90, 3) := by decide +kernel
theorem dX6_pair_9 : decode cX6_pair 9 = .ok (.ifCond .ne 5, 3) := by decide +kernel
theorem dX6_pair_12 : decode cX6_pair 12 = .ok (.iconst 0, 1) := by decide +kernel
theorem dX6_pair_13 : decode cX6_pair 13 = .ok (.ireturn, 1) := by decide +kernel
theorem dX6_pair_14 : decode cX6_pair 14 = .ok (.aload_n 0, 1) := by decide +kernel
theorem dX6_pair_15 : decode cX6_pair 15 = .ok (.getfield 40, 3) := by decide +kernel
theorem dX6_pair_18 : decode cX6_pair 18 = .ok (.iload_n 1, 1) := by decide +kernel
theorem dX6_pair_19 : decode cX6_pair 19 = .ok (.iload_n 2, 1) := by decide +kernel
theorem dX6_pair_20 : decode cX6_pair 20 = .ok (.iload_n 3, 1) := by decide +kernel
theorem dX6_pair_21 : decode cX6_pair 21 = .ok (.ifCond .eq 9, 3) := by decide +kernel
theorem dX6_pair_24 : decode cX6_pair 24 = .ok (.sipush (-1000), 3) := by decide +kernel
theorem dX6_pair_27 : decode cX6_pair 27 = .ok (.goto 6, 3) := by decide +kernel
theorem dX6_pair_30 : decode cX6_pair 30 = .ok (.sipush 1000, 3) := by decide +kernel
theorem dX6_pair_33 : decode cX6_pair 33 = .ok (.invokevirtual 94, 3) := by decide +kernel
theorem dX6_pair_36 : decode cX6_pair 36 = .ok (.aload_n 0, 1) := by decide +kernel
theorem dX6_pair_37 : decode cX6_pair 37 = .ok (.getfield 40, 3) := by decide +kernel
theorem dX6_pair_40 : decode cX6_pair 40 = .ok (.aload_n 0, 1) := by decide +kernel
theorem dX6_pair_41 : decode cX6_pair 41 = .ok (.getfield 33, 3) := by decide +kernel
theorem dX6_pair_44 : decode cX6_pair 44 = .ok (.invokevirtual 86, 3) := by decide +kernel
theorem dX6_pair_47 : decode cX6_pair 47 = .ok (.iconst 1, 1) := by decide +kernel
theorem dX6_pair_48 : decode cX6_pair 48 = .ok (.ireturn, 1) := by decide +kernel
set_option maxRecDepth 20000 in
theorem ggX6_free_X3_hasTwo : GoodIn wsX6_free wsX3_hasTwo := goodIn_r _ [8, 9, 10, 11, 7, 12, 13, 87, 88, 89, 90, 91, 92] (by decide +kernel) (by decide +kernel)
set_option maxRecDepth 20000 in
theorem gX6_free_X3_hasTwo : GoodIn wsX6_free (wsV RX6 90 RX3 yX3_hasTwo wsX3_hasTwo) := goodIn_app (goodIn_of _ (by decide +kernel)) ggX6_free_X3_hasTwo
set_option maxRecDepth 20000 in
theorem ggX6_free_X1_hasWish : GoodIn wsX6_free wsX1_hasWish := goodIn_r _ [18, 19, 93, 94, 95, 96, 97, 98, 99, 100, 101, 102, 103, 104, 105, 106, 107] (by decide +kernel) (by decide +kernel)
set_option maxRecDepth 20000 in
theorem gX6_free_X1_hasWish : GoodIn wsX6_free (wsV RX6 98 RX1 yX1_hasWish wsX1_hasWish) := goodIn_app (goodIn_of _ (by decide +kernel)) ggX6_free_X1_hasWish
set_option maxRecDepth 20000 in
theorem ggX6_free_X1_wish : GoodIn wsX6_free wsX1_wish := goodIn_r _ [23, 19, 93, 94, 95, 96, 97, 98, 99, 100, 101, 102, 103, 104, 105, 106, 107] (by decide +kernel) (by decide +kernel)
set_option maxRecDepth 20000 in
theorem gX6_free_X1_wish : GoodIn wsX6_free (wsV RX6 94 RX1 yX1_wish wsX1_wish) := goodIn_app (goodIn_of _ (by decide +kernel)) ggX6_free_X1_wish
set_option maxRecDepth 20000 in
theorem ggX6_free_X1_settle : GoodIn wsX6_free wsX1_settle := goodIn_r _ [27, 28, 29, 30, 31, 32, 33, 17, 34, 35, 36, 37, 38, 19, 39, 40, 41, 42, 43, 44, 45, 46, 47, 48, 49, 50, 51, 52, 53, 54, 55, 56, 57, 58, 59, 60, 61, 62, 63, 64, 65, 66, 67, 68, 69, 70, 71, 72, 73, 74, 75, 76, 77, 78, 79, 80, 93, 94, 95, 96, 97, 98, 99, 100, 101, 102, 103, 104, 105, 106, 107, 108, 109, 110, 111, 112] (by decide +kernel) (by decide +kernel)
set_option maxRecDepth 20000 in
theorem gX6_free_X1_settle : GoodIn wsX6_free (wsV RX6 86 RX1 yX1_settle wsX1_settle) := goodIn_app (goodIn_of _ (by decide +kernel)) ggX6_free_X1_settle
theorem dX6_free_0 : decode cX6_free 0 = .ok (.aload_n 0, 1) := by decide +kernel
theorem dX6_free_1 : decode cX6_free 1 = .ok (.getfield 26, 3) := by decide +kernel
theorem dX6_free_4 : decode cX6_free 4 = .ok (.iload_n 1, 1) := by decide +kernel
theorem dX6_free_5 : decode cX6_free 5 = .ok (.iload_n 2, 1) := by decide +kernel
theorem dX6_free_6 : decode cX6_free 6 = .ok (.invokevirtual 90, 3) := by decide +kernel
theorem dX6_free_9 : decode cX6_free 9 = .ok (.ifCond .eq 15, 3) := by decide +kernel
theorem dX6_free_12 : decode cX6_free 12 = .ok (.aload_n 0, 1) := by decide +kernel
theorem dX6_free_13 : decode cX6_free 13 = .ok (.getfield 40, 3) := by decide +kernel
theorem dX6_free_16 : decode cX6_free 16 = .ok (.iload_n 1, 1) := by decide +kernel
theorem dX6_free_17 : decode cX6_free 17 = .ok (.iload_n 2, 1) := by decide +kernel
theorem dX6_free_18 : decode cX6_free 18 = .ok (.invokevirtual 98, 3) := by decide +kernel
theorem dX6_free_21 : decode cX6_free 21 = .ok (.ifCond .ne 5, 3) := by decide +kernel
theorem dX6_free_24 : decode cX6_free 24 = .ok (.iconst 0, 1) := by decide +kernel
theorem dX6_free_25 : decode cX6_free 25 = .ok (.ireturn, 1) := by decide +kernel
theorem dX6_free_26 : decode cX6_free 26 = .ok (.aload_n 0, 1) := by decide +kernel
theorem dX6_free_27 : decode cX6_free 27 = .ok (.getfield 40, 3) := by decide +kernel
theorem dX6_free_30 : decode cX6_free 30 = .ok (.iload_n 1, 1) := by decide +kernel
theorem dX6_free_31 : decode cX6_free 31 = .ok (.iload_n 2, 1) := by decide +kernel
theorem dX6_free_32 : decode cX6_free 32 = .ok (.iconst 0, 1) := by decide +kernel
theorem dX6_free_33 : decode cX6_free 33 = .ok (.invokevirtual 94, 3) := by decide +kernel
theorem dX6_free_36 : decode cX6_free 36 = .ok (.aload_n 0, 1) := by decide +kernel
theorem dX6_free_37 : decode cX6_free 37 = .ok (.getfield 40, 3) := by decide +kernel
theorem dX6_free_40 : decode cX6_free 40 = .ok (.aload_n 0, 1) := by decide +kernel
theorem dX6_free_41 : decode cX6_free 41 = .ok (.getfield 33, 3) := by decide +kernel
theorem dX6_free_44 : decode cX6_free 44 = .ok (.invokevirtual 86, 3) := by decide +kernel
theorem dX6_free_47 : decode cX6_free 47 = .ok (.iconst 1, 1) := by decide +kernel
theorem dX6_free_48 : decode cX6_free 48 = .ok (.ireturn, 1) := by decide +kernel
set_option maxRecDepth 20000 in
theorem ggX6_mark_X1_setT : GoodIn wsX6_mark wsX1_setT := goodIn_r _ [7, 8, 72, 73, 74, 75, 76, 77, 78, 79, 80, 81, 82, 83, 84, 85, 86] (by decide +kernel) (by decide +kernel)
set_option maxRecDepth 20000 in
theorem gX6_mark_X1_setT : GoodIn wsX6_mark (wsV RX6 101 RX1 yX1_setT wsX1_setT) := goodIn_app (goodIn_of _ (by decide +kernel)) ggX6_mark_X1_setT
set_option maxRecDepth 20000 in
theorem ggX6_mark_X1_settle : GoodIn wsX6_mark wsX1_settle := goodIn_r _ [12, 13, 14, 15, 16, 17, 18, 6, 19, 20, 21, 22, 8, 23, 24, 25, 26, 27, 28, 29, 30, 31, 32, 33, 34, 35, 36, 37, 38, 39, 40, 41, 42, 43, 44, 45, 46, 47, 48, 49, 50, 51, 52, 53, 54, 55, 56, 57, 58, 59, 60, 61, 62, 63, 64, 65, 72, 73, 74, 75, 76, 77, 78, 79, 80, 81, 82, 83, 84, 85, 86, 87, 88, 89, 90, 91] (by decide +kernel) (by decide +kernel)
set_option maxRecDepth 20000 in
theorem gX6_mark_X1_settle : GoodIn wsX6_mark (wsV RX6 86 RX1 yX1_settle wsX1_settle) := goodIn_app (goodIn_of _ (by decide +kernel)) ggX6_mark_X1_settle
theorem dX6_mark_0 : decode cX6_mark 0 = .ok (.aload_n 0, 1) := by decide +kernel
theorem dX6_mark_1 : decode cX6_mark 1 = .ok (.getfield 40, 3) := by decide +kernel
theorem dX6_mark_4 : decode cX6_mark 4 = .ok (.iload_n 1, 1) := by decide +kernel
theorem dX6_mark_5 : decode cX6_mark 5 = .ok (.invokevirtual 101, 3) := by decide +kernel
theorem dX6_mark_8 : decode cX6_mark 8 = .ok (.ifCond .ne 5, 3) := by decide +kernel
theorem dX6_mark_11 : decode cX6_mark 11 = .ok (.iconst 0, 1) := by decide +kernel
theorem dX6_mark_12 : decode cX6_mark 12 = .ok (.ireturn, 1) := by decide +kernel
theorem dX6_mark_13 : decode cX6_mark 13 = .ok (.aload_n 0, 1) := by decide +kernel
theorem dX6_mark_14 : decode cX6_mark 14 = .ok (.getfield 40, 3) := by decide +kernel
theorem dX6_mark_17 : decode cX6_mark 17 = .ok (.aload_n 0, 1) := by decide +kernel
theorem dX6_mark_18 : decode cX6_mark 18 = .ok (.getfield 33, 3) := by decide +kernel
theorem dX6_mark_21 : decode cX6_mark 21 = .ok (.invokevirtual 86, 3) := by decide +kernel
theorem dX6_mark_24 : decode cX6_mark 24 = .ok (.iconst 1, 1) := by decide +kernel
theorem dX6_mark_25 : decode cX6_mark 25 = .ok (.ireturn, 1) := by decide +kernel
set_option maxRecDepth 20000 in
theorem ggX6_resettle_X1_partAll : GoodIn wsX6_resettle wsX1_partAll := goodIn_r _ [7, 8, 9, 10, 11, 12, 6, 13, 14, 15, 16, 17, 18, 19, 20, 21, 76, 77, 78, 79, 80, 81, 82, 83, 84, 85, 86, 87, 88, 89, 90] (by decide +kernel) (by decide +kernel)
set_option maxRecDepth 20000 in
theorem gX6_resettle_X1_partAll : GoodIn wsX6_resettle (wsV RX6 104 RX1 yX1_partAll wsX1_partAll) := goodIn_app (goodIn_of _ (by decide +kernel)) ggX6_resettle_X1_partAll
set_option maxRecDepth 20000 in
theorem ggX6_resettle_X1_settle : GoodIn wsX6_resettle wsX1_settle := goodIn_r _ [25, 26, 27, 28, 29, 30, 31, 6, 32, 8, 33, 9, 34, 35, 18, 19, 20, 21, 36, 37, 38, 39, 40, 41, 42, 43, 44, 45, 15, 46, 47, 48, 49, 50, 51, 52, 53, 54, 55, 56, 57, 17, 58, 59, 60, 61, 62, 63, 64, 65, 10, 11, 12, 13, 14, 16, 76, 77, 78, 79, 80, 81, 82, 83, 84, 85, 86, 87, 88, 89, 90, 91, 92, 93, 94, 95] (by decide +kernel) (by decide +kernel)
set_option maxRecDepth 20000 in
theorem gX6_resettle_X1_settle : GoodIn wsX6_resettle (wsV RX6 86 RX1 yX1_settle wsX1_settle) := goodIn_app (goodIn_of _ (by decide +kernel)) ggX6_resettle_X1_settle
set_option maxRecDepth 20000 in
theorem ggX6_resettle_X1_howMany : GoodIn wsX6_resettle wsX1_howMany := goodIn_r _ [69, 15, 76, 77, 78, 79, 80, 81, 82, 83, 84, 85, 86, 87, 88, 89, 90] (by decide +kernel) (by decide +kernel)
set_option maxRecDepth 20000 in
theorem gX6_resettle_X1_howMany : GoodIn wsX6_resettle (wsV RX6 107 RX1 yX1_howMany wsX1_howMany) := goodIn_app (goodIn_of _ (by decide +kernel)) ggX6_resettle_X1_howMany
theorem dX6_resettle_0 : decode cX6_resettle 0 = .ok (.aload_n 0, 1) := by decide +kernel
theorem dX6_resettle_1 : decode cX6_resettle 1 = .ok (.getfield 40, 3) := by decide +kernel
theorem dX6_resettle_4 : decode cX6_resettle 4 = .ok (.invokevirtual 104, 3) := by decide +kernel
theorem dX6_resettle_7 : decode cX6_resettle 7 = .ok (.aload_n 0, 1) := by decide +kernel
theorem dX6_resettle_8 : decode cX6_resettle 8 = .ok (.getfield 40, 3) := by decide +kernel
theorem dX6_resettle_11 : decode cX6_resettle 11 = .ok (.aload_n 0, 1) := by decide +kernel
theorem dX6_resettle_12 : decode cX6_resettle 12 = .ok (.getfield 33, 3) := by decide +kernel
theorem dX6_resettle_15 : decode cX6_resettle 15 = .ok (.invokevirtual 86, 3) := by decide +kernel
theorem dX6_resettle_18 : decode cX6_resettle 18 = .ok (.aload_n 0, 1) := by decide +kernel
theorem dX6_resettle_19 : decode cX6_resettle 19 = .ok (.getfield 40, 3) := by decide +kernel
theorem dX6_resettle_22 : decode cX6_resettle 22 = .ok (.invokevirtual 107, 3) := by decide +kernel
theorem dX6_resettle_25 : decode cX6_resettle 25 = .ok (.ireturn, 1) := by decide +kernel
set_option maxRecDepth 20000 in
theorem ggX6_distance_X3_has : GoodIn wsX6_distance wsX3_has := goodIn_r _ [7, 8, 21, 22, 23, 24, 25, 26] (by decide +kernel) (by decide +kernel)
set_option maxRecDepth 20000 in
theorem gX6_distance_X3_has : GoodIn wsX6_distance (wsV RX6 111 RX3 yX3_has wsX3_has) := goodIn_app (goodIn_of _ (by decide +kernel)) ggX6_distance_X3_has
set_option maxRecDepth 20000 in
theorem ggX6_distance_X0_between : GoodIn wsX6_distance wsX0_between := goodIn_r _ [13, 14, 27, 28, 29, 30, 31] (by decide +kernel) (by decide +kernel)
set_option maxRecDepth 20000 in
theorem gX6_distance_X0_between : GoodIn wsX6_distance (wsV RX6 112 RX0 yX0_between wsX0_between) := goodIn_app (goodIn_of _ (by decide +kernel)) ggX6_distance_X0_between
theorem dX6_distance_0 : decode cX6_distance 0 = .ok (.aload_n 0, 1) := by decide +kernel
theorem dX6_distance_1 : decode cX6_distance 1 = .ok (.getfield 26, 3) := by decide +kernel
theorem dX6_distance_4 : decode cX6_distance 4 = .ok (.iload_n 1, 1) := by decide +kernel
theorem dX6_distance_5 : decode cX6_distance 5 = .ok (.invokevirtual 111, 3) := by decide +kernel
theorem dX6_distance_8 : decode cX6_distance 8 = .ok (.ifCond .eq 26, 3) := by decide +kernel
theorem dX6_distance_11 : decode cX6_distance 11 = .ok (.aload_n 0, 1) := by decide +kernel
theorem dX6_distance_12 : decode cX6_distance 12 = .ok (.getfield 26, 3) := by decide +kernel
theorem dX6_distance_15 : decode cX6_distance 15 = .ok (.iload_n 2, 1) := by decide +kernel
theorem dX6_distance_16 : decode cX6_distance 16 = .ok (.invokevirtual 111, 3) := by decide +kernel
theorem dX6_distance_19 : decode cX6_distance 19 = .ok (.ifCond .eq 15, 3) := by decide +kernel
theorem dX6_distance_22 : decode cX6_distance 22 = .ok (.aload_n 0, 1) := by decide +kernel
theorem dX6_distance_23 : decode cX6_distance 23 = .ok (.getfield 33, 3) := by decide +kernel
theorem dX6_distance_26 : decode cX6_distance 26 = .ok (.iload_n 1, 1) := by decide +kernel
theorem dX6_distance_27 : decode cX6_distance 27 = .ok (.iload_n 2, 1) := by decide +kernel
theorem dX6_distance_28 : decode cX6_distance 28 = .ok (.invokevirtual 112, 3) := by decide +kernel
theorem dX6_distance_31 : decode cX6_distance 31 = .ok (.goto 4, 3) := by decide +kernel
theorem dX6_distance_34 : decode cX6_distance 34 = .ok (.iconst (-1), 1) := by decide +kernel
theorem dX6_distance_35 : decode cX6_distance 35 = .ok (.ireturn, 1) := by decide +kernel
set_option maxRecDepth 20000 in
theorem ggX6_heap_X3_has : GoodIn wsX6_heap wsX3_has := goodIn_r _ [7, 8, 22, 23, 24, 25, 26, 27] (by decide +kernel) (by decide +kernel)
set_option maxRecDepth 20000 in
theorem gX6_heap_X3_has : GoodIn wsX6_heap (wsV RX6 111 RX3 yX3_has wsX3_has) := goodIn_app (goodIn_of _ (by decide +kernel)) ggX6_heap_X3_has
set_option maxRecDepth 20000 in
theorem ggX6_heap_X1_leastBeside : GoodIn wsX6_heap wsX1_leastBeside := goodIn_r _ [13, 14, 15, 28, 29, 30, 31, 32, 33, 34, 35, 36, 37, 38, 39, 40, 41, 42] (by decide +kernel) (by decide +kernel)
set_option maxRecDepth 20000 in
theorem gX6_heap_X1_leastBeside : GoodIn wsX6_heap (wsV RX6 116 RX1 yX1_leastBeside wsX1_leastBeside) := goodIn_app (goodIn_of _ (by decide +kernel)) ggX6_heap_X1_leastBeside
theorem dX6_heap_0 : decode cX6_heap 0 = .ok (.aload_n 0, 1) := by decide +kernel
theorem dX6_heap_1 : decode cX6_heap 1 = .ok (.getfield 26, 3) := by decide +kernel
theorem dX6_heap_4 : decode cX6_heap 4 = .ok (.iload_n 1, 1) := by decide +kernel
theorem dX6_heap_5 : decode cX6_heap 5 = .ok (.invokevirtual 111, 3) := by decide +kernel
theorem dX6_heap_8 : decode cX6_heap 8 = .ok (.ifCond .eq 14, 3) := by decide +kernel
theorem dX6_heap_11 : decode cX6_heap 11 = .ok (.aload_n 0, 1) := by decide +kernel
theorem dX6_heap_12 : decode cX6_heap 12 = .ok (.getfield 40, 3) := by decide +kernel
theorem dX6_heap_15 : decode cX6_heap 15 = .ok (.iload_n 1, 1) := by decide +kernel
theorem dX6_heap_16 : decode cX6_heap 16 = .ok (.invokevirtual 116, 3) := by decide +kernel
theorem dX6_heap_19 : decode cX6_heap 19 = .ok (.goto 4, 3) := by decide +kernel
theorem dX6_heap_22 : decode cX6_heap 22 = .ok (.iconst (-1), 1) := by decide +kernel
theorem dX6_heap_23 : decode cX6_heap 23 = .ok (.ireturn, 1) := by decide +kernel
set_option maxRecDepth 20000 in
theorem ggX6_cost_X1_costOfAll : GoodIn wsX6_cost wsX1_costOfAll := goodIn_r _ [8, 9, 10, 11, 12, 7, 13, 14, 15, 16, 17, 18, 19, 20, 21, 22, 23, 24, 25, 26, 27, 28, 29, 30, 48, 49, 50, 51, 52, 53, 54, 55, 56, 57, 58, 59, 60, 61, 62, 63, 64, 65, 66, 67] (by decide +kernel) (by decide +kernel)
set_option maxRecDepth 20000 in
theorem gX6_cost_X1_costOfAll : GoodIn wsX6_cost (wsV RX6 119 RX1 yX1_costOfAll wsX1_costOfAll) := goodIn_app (goodIn_of _ (by decide +kernel)) ggX6_cost_X1_costOfAll
set_option maxRecDepth 20000 in
theorem ggX6_cost_X3_hasTwo : GoodIn wsX6_cost wsX3_hasTwo := goodIn_r _ [35, 36, 37, 38, 34, 39, 40, 68, 69, 70, 71, 72, 73] (by decide +kernel) (by decide +kernel)
set_option maxRecDepth 20000 in
theorem gX6_cost_X3_hasTwo : GoodIn wsX6_cost (wsV RX6 90 RX3 yX3_hasTwo wsX3_hasTwo) := goodIn_app (goodIn_of _ (by decide +kernel)) ggX6_cost_X3_hasTwo
set_option maxRecDepth 20000 in
theorem ggX6_cost_X1_costOfPair : GoodIn wsX6_cost wsX1_costOfPair := goodIn_r _ [13, 14, 15, 16, 17, 18, 19, 20, 21, 22, 23, 24, 25, 26, 27, 28, 7, 29, 30, 48, 49, 50, 51, 52, 53, 54, 55, 56, 57, 58, 59, 60, 61, 62, 63, 64, 65, 66, 67] (by decide +kernel) (by decide +kernel)
set_option maxRecDepth 20000 in
theorem gX6_cost_X1_costOfPair : GoodIn wsX6_cost (wsV RX6 123 RX1 yX1_costOfPair wsX1_costOfPair) := goodIn_app (goodIn_of _ (by decide +kernel)) ggX6_cost_X1_costOfPair
theorem dX6_cost_0 : decode cX6_cost 0 = .ok (.iload_n 2, 1) := by decide +kernel
theorem dX6_cost_1 : decode cX6_cost 1 = .ok (.iconst (-1), 1) := by decide +kernel
theorem dX6_cost_2 : decode cX6_cost 2 = .ok (.if_icmp .ne 15, 3) := by decide +kernel
theorem dX6_cost_5 : decode cX6_cost 5 = .ok (.aload_n 0, 1) := by decide +kernel
theorem dX6_cost_6 : decode cX6_cost 6 = .ok (.getfield 40, 3) := by decide +kernel
theorem dX6_cost_9 : decode cX6_cost 9 = .ok (.aload_n 0, 1) := by decide +kernel
theorem dX6_cost_10 : decode cX6_cost 10 = .ok (.getfield 33, 3) := by decide +kernel
theorem dX6_cost_13 : decode cX6_cost 13 = .ok (.invokevirtual 119, 3) := by decide +kernel
theorem dX6_cost_16 : decode cX6_cost 16 = .ok (.ireturn, 1) := by decide +kernel
theorem dX6_cost_17 : decode cX6_cost 17 = .ok (.aload_n 0, 1) := by decide +kernel
theorem dX6_cost_18 : decode cX6_cost 18 = .ok (.getfield 26, 3) := by decide +kernel
theorem dX6_cost_21 : decode cX6_cost 21 = .ok (.iload_n 1, 1) := by decide +kernel
theorem dX6_cost_22 : decode cX6_cost 22 = .ok (.iload_n 2, 1) := by decide +kernel
theorem dX6_cost_23 : decode cX6_cost 23 = .ok (.invokevirtual 90, 3) := by decide +kernel
theorem dX6_cost_26 : decode cX6_cost 26 = .ok (.ifCond .eq 19, 3) := by decide +kernel
theorem dX6_cost_29 : decode cX6_cost 29 = .ok (.aload_n 0, 1) := by decide +kernel
theorem dX6_cost_30 : decode cX6_cost 30 = .ok (.getfield 40, 3) := by decide +kernel
theorem dX6_cost_33 : decode cX6_cost 33 = .ok (.iload_n 1, 1) := by decide +kernel
theorem dX6_cost_34 : decode cX6_cost 34 = .ok (.iload_n 2, 1) := by decide +kernel
theorem dX6_cost_35 : decode cX6_cost 35 = .ok (.aload_n 0, 1) := by decide +kernel
theorem dX6_cost_36 : decode cX6_cost 36 = .ok (.getfield 33, 3) := by decide +kernel
theorem dX6_cost_39 : decode cX6_cost 39 = .ok (.invokevirtual 123, 3) := by decide +kernel
theorem dX6_cost_42 : decode cX6_cost 42 = .ok (.goto 4, 3) := by decide +kernel
theorem dX6_cost_45 : decode cX6_cost 45 = .ok (.iconst (-1), 1) := by decide +kernel
theorem dX6_cost_46 : decode cX6_cost 46 = .ok (.ireturn, 1) := by decide +kernel
set_option maxRecDepth 20000 in
theorem ggX6_row_X3_hasFrame : GoodIn wsX6_row wsX3_hasFrame := goodIn_r _ [6, 7, 8, 9, 10, 5, 11, 12, 24, 25, 26, 27, 28, 29] (by decide +kernel) (by decide +kernel)
set_option maxRecDepth 20000 in
theorem gX6_row_X3_hasFrame : GoodIn wsX6_row (wsV RX6 127 RX3 yX3_hasFrame wsX3_hasFrame) := goodIn_app (goodIn_of _ (by decide +kernel)) ggX6_row_X3_hasFrame
set_option maxRecDepth 20000 in
theorem ggX6_row_X3_frameAt : GoodIn wsX6_row wsX3_frameAt := goodIn_r _ [16, 17, 24, 25, 26, 27, 28, 29] (by decide +kernel) (by decide +kernel)
set_option maxRecDepth 20000 in
theorem gX6_row_X3_frameAt : GoodIn wsX6_row (wsV RX6 130 RX3 yX3_frameAt wsX3_frameAt) := goodIn_app (goodIn_of _ (by decide +kernel)) ggX6_row_X3_frameAt
theorem dX6_row_0 : decode cX6_row 0 = .ok (.aload_n 0, 1) := by decide +kernel
theorem dX6_row_1 : decode cX6_row 1 = .ok (.getfield 26, 3) := by decide +kernel
theorem dX6_row_4 : decode cX6_row 4 = .ok (.iload_n 1, 1) := by decide +kernel
theorem dX6_row_5 : decode cX6_row 5 = .ok (.iload_n 2, 1) := by decide +kernel
theorem dX6_row_6 : decode cX6_row 6 = .ok (.invokevirtual 127, 3) := by decide +kernel
theorem dX6_row_9 : decode cX6_row 9 = .ok (.ifCond .eq 15, 3) := by decide +kernel
theorem dX6_row_12 : decode cX6_row 12 = .ok (.aload_n 0, 1) := by decide +kernel
theorem dX6_row_13 : decode cX6_row 13 = .ok (.getfield 26, 3) := by decide +kernel
theorem dX6_row_16 : decode cX6_row 16 = .ok (.iload_n 1, 1) := by decide +kernel
theorem dX6_row_17 : decode cX6_row 17 = .ok (.iload_n 2, 1) := by decide +kernel
theorem dX6_row_18 : decode cX6_row 18 = .ok (.invokevirtual 130, 3) := by decide +kernel
theorem dX6_row_21 : decode cX6_row 21 = .ok (.goto 4, 3) := by decide +kernel
end
section
theorem dX6_row_24 : decode cX6_row 24 = .ok (.iconst (-1), 1) := by decide +kernel
theorem dX6_row_25 : decode cX6_row 25 = .ok (.ireturn, 1) := by decide +kernel
set_option maxRecDepth 20000 in
theorem ggX6_common_X3_isCommon : GoodIn wsX6_common wsX3_isCommon := goodIn_r _ [6, 7, 8, 9, 10, 11, 12, 13, 14, 15, 22, 23, 24, 25, 26, 27] (by decide +kernel) (by decide +kernel)
set_option maxRecDepth 20000 in
theorem gX6_common_X3_isCommon : GoodIn wsX6_common (wsV RX6 133 RX3 yX3_isCommon wsX3_isCommon) := goodIn_app (goodIn_of _ (by decide +kernel)) ggX6_common_X3_isCommon
theorem dX6_common_0 : decode cX6_common 0 = .ok (.aload_n 0, 1) := by decide +kernel
theorem dX6_common_1 : decode cX6_common 1 = .ok (.getfield 26, 3) := by decide +kernel
theorem dX6_common_4 : decode cX6_common 4 = .ok (.iload_n 1, 1) := by decide +kernel
theorem dX6_common_5 : decode cX6_common 5 = .ok (.invokevirtual 133, 3) := by decide +kernel
theorem dX6_common_8 : decode cX6_common 8 = .ok (.ifCond .eq 7, 3) := by decide +kernel
theorem dX6_common_11 : decode cX6_common 11 = .ok (.iconst 1, 1) := by decide +kernel
theorem dX6_common_12 : decode cX6_common 12 = .ok (.goto 4, 3) := by decide +kernel
theorem dX6_common_15 : decode cX6_common 15 = .ok (.iconst 0, 1) := by decide +kernel
theorem dX6_common_16 : decode cX6_common 16 = .ok (.ireturn, 1) := by decide +kernel
set_option maxRecDepth 20000 in
theorem ggX6_sign_X3_has : GoodIn wsX6_sign wsX3_has := goodIn_r _ [8, 9, 62, 63, 64, 65, 66, 67] (by decide +kernel) (by decide +kernel)
set_option maxRecDepth 20000 in
theorem gX6_sign_X3_has : GoodIn wsX6_sign (wsV RX6 111 RX3 yX3_has wsX3_has) := goodIn_app (goodIn_of _ (by decide +kernel)) ggX6_sign_X3_has
set_option maxRecDepth 20000 in
theorem ggX6_sign_X1_setBeside : GoodIn wsX6_sign wsX1_setBeside := goodIn_r _ [14, 15, 16, 17, 18, 13, 19, 20, 68, 69, 70, 71, 72, 73, 74, 75, 76, 77, 78, 79, 80, 81, 82] (by decide +kernel) (by decide +kernel)
set_option maxRecDepth 20000 in
theorem gX6_sign_X1_setBeside : GoodIn wsX6_sign (wsV RX6 136 RX1 yX1_setBeside wsX1_setBeside) := goodIn_app (goodIn_of _ (by decide +kernel)) ggX6_sign_X1_setBeside
set_option maxRecDepth 20000 in
theorem ggX6_sign_X2_tell : GoodIn wsX6_sign wsX2_tell := goodIn_r _ [25, 26, 27, 28, 29, 7, 30, 9, 31, 32, 33, 24, 34, 35, 36, 37, 38, 39, 40, 41, 42, 43, 44, 45, 46, 47, 48, 49, 50, 51, 52, 53, 54, 55, 83, 84, 85, 86, 87, 62, 63, 64, 65, 66, 67] (by decide +kernel) (by decide +kernel)
set_option maxRecDepth 20000 in
theorem gX6_sign_X2_tell : GoodIn wsX6_sign (wsV RX6 140 RX2 yX2_tell wsX2_tell) := goodIn_app (goodIn_of _ (by decide +kernel)) ggX6_sign_X2_tell
theorem dX6_sign_0 : decode cX6_sign 0 = .ok (.aload_n 0, 1) := by decide +kernel
theorem dX6_sign_1 : decode cX6_sign 1 = .ok (.getfield 26, 3) := by decide +kernel
theorem dX6_sign_4 : decode cX6_sign 4 = .ok (.iload_n 1, 1) := by decide +kernel
theorem dX6_sign_5 : decode cX6_sign 5 = .ok (.invokevirtual 111, 3) := by decide +kernel
theorem dX6_sign_8 : decode cX6_sign 8 = .ok (.ifCond .eq 25, 3) := by decide +kernel
theorem dX6_sign_11 : decode cX6_sign 11 = .ok (.aload_n 0, 1) := by decide +kernel
theorem dX6_sign_12 : decode cX6_sign 12 = .ok (.getfield 47, 3) := by decide +kernel
theorem dX6_sign_15 : decode cX6_sign 15 = .ok (.aload_n 0, 1) := by decide +kernel
theorem dX6_sign_16 : decode cX6_sign 16 = .ok (.getfield 26, 3) := by decide +kernel
theorem dX6_sign_19 : decode cX6_sign 19 = .ok (.aload_n 0, 1) := by decide +kernel
theorem dX6_sign_20 : decode cX6_sign 20 = .ok (.getfield 40, 3) := by decide +kernel
theorem dX6_sign_23 : decode cX6_sign 23 = .ok (.iload_n 1, 1) := by decide +kernel
theorem dX6_sign_24 : decode cX6_sign 24 = .ok (.invokevirtual 136, 3) := by decide +kernel
theorem dX6_sign_27 : decode cX6_sign 27 = .ok (.invokevirtual 140, 3) := by decide +kernel
theorem dX6_sign_30 : decode cX6_sign 30 = .ok (.goto 4, 3) := by decide +kernel
theorem dX6_sign_33 : decode cX6_sign 33 = .ok (.iconst (-1), 1) := by decide +kernel
theorem dX6_sign_34 : decode cX6_sign 34 = .ok (.ireturn, 1) := by decide +kernel
set_option maxRecDepth 20000 in
theorem ggX6_signed_X2_latestAt : GoodIn wsX6_signed wsX2_latestAt := goodIn_r _ [6, 7, 8, 15, 16, 17, 18, 19] (by decide +kernel) (by decide +kernel)
set_option maxRecDepth 20000 in
theorem gX6_signed_X2_latestAt : GoodIn wsX6_signed (wsV RX6 144 RX2 yX2_latestAt wsX2_latestAt) := goodIn_app (goodIn_of _ (by decide +kernel)) ggX6_signed_X2_latestAt
theorem dX6_signed_0 : decode cX6_signed 0 = .ok (.aload_n 0, 1) := by decide +kernel
theorem dX6_signed_1 : decode cX6_signed 1 = .ok (.getfield 47, 3) := by decide +kernel
theorem dX6_signed_4 : decode cX6_signed 4 = .ok (.iload_n 1, 1) := by decide +kernel
theorem dX6_signed_5 : decode cX6_signed 5 = .ok (.invokevirtual 144, 3) := by decide +kernel
theorem dX6_signed_8 : decode cX6_signed 8 = .ok (.ireturn, 1) := by decide +kernel
set_option maxRecDepth 20000 in
theorem ggX6_fix_X3_has : GoodIn wsX6_fix wsX3_has := goodIn_r _ [7, 8, 26, 27, 28, 29, 30, 31] (by decide +kernel) (by decide +kernel)
set_option maxRecDepth 20000 in
theorem gX6_fix_X3_has : GoodIn wsX6_fix (wsV RX6 111 RX3 yX3_has wsX3_has) := goodIn_app (goodIn_of _ (by decide +kernel)) ggX6_fix_X3_has
set_option maxRecDepth 20000 in
theorem ggX6_fix_X5_has : GoodIn wsX6_fix wsX5_has := goodIn_r _ [13, 14, 32, 33] (by decide +kernel) (by decide +kernel)
set_option maxRecDepth 20000 in
theorem gX6_fix_X5_has : GoodIn wsX6_fix (wsV RX6 62 RX5 yX5_has wsX5_has) := goodIn_app (goodIn_of _ (by decide +kernel)) ggX6_fix_X5_has
set_option maxRecDepth 20000 in
theorem ggX6_fix_X3_setFixedAt : GoodIn wsX6_fix wsX3_setFixedAt := goodIn_r _ [18, 19, 26, 27, 28, 29, 30, 31] (by decide +kernel) (by decide +kernel)
set_option maxRecDepth 20000 in
theorem gX6_fix_X3_setFixedAt : GoodIn wsX6_fix (wsV RX6 147 RX3 yX3_setFixedAt wsX3_setFixedAt) := goodIn_app (goodIn_of _ (by decide +kernel)) ggX6_fix_X3_setFixedAt
theorem dX6_fix_0 : decode cX6_fix 0 = .ok (.aload_n 0, 1) := by decide +kernel
theorem dX6_fix_1 : decode cX6_fix 1 = .ok (.getfield 26, 3) := by decide +kernel
theorem dX6_fix_4 : decode cX6_fix 4 = .ok (.iload_n 1, 1) := by decide +kernel
theorem dX6_fix_5 : decode cX6_fix 5 = .ok (.invokevirtual 111, 3) := by decide +kernel
theorem dX6_fix_8 : decode cX6_fix 8 = .ok (.ifCond .eq 14, 3) := by decide +kernel
theorem dX6_fix_11 : decode cX6_fix 11 = .ok (.aload_n 0, 1) := by decide +kernel
theorem dX6_fix_12 : decode cX6_fix 12 = .ok (.getfield 19, 3) := by decide +kernel
theorem dX6_fix_15 : decode cX6_fix 15 = .ok (.iload_n 2, 1) := by decide +kernel
theorem dX6_fix_16 : decode cX6_fix 16 = .ok (.invokevirtual 62, 3) := by decide +kernel
theorem dX6_fix_19 : decode cX6_fix 19 = .ok (.ifCond .ne 5, 3) := by decide +kernel
theorem dX6_fix_22 : decode cX6_fix 22 = .ok (.iconst 0, 1) := by decide +kernel
theorem dX6_fix_23 : decode cX6_fix 23 = .ok (.ireturn, 1) := by decide +kernel
theorem dX6_fix_24 : decode cX6_fix 24 = .ok (.aload_n 0, 1) := by decide +kernel
theorem dX6_fix_25 : decode cX6_fix 25 = .ok (.getfield 26, 3) := by decide +kernel
theorem dX6_fix_28 : decode cX6_fix 28 = .ok (.iload_n 1, 1) := by decide +kernel
theorem dX6_fix_29 : decode cX6_fix 29 = .ok (.iload_n 2, 1) := by decide +kernel
theorem dX6_fix_30 : decode cX6_fix 30 = .ok (.invokevirtual 147, 3) := by decide +kernel
theorem dX6_fix_33 : decode cX6_fix 33 = .ok (.iconst 1, 1) := by decide +kernel
theorem dX6_fix_34 : decode cX6_fix 34 = .ok (.ireturn, 1) := by decide +kernel
set_option maxRecDepth 20000 in
theorem ggX6_look_X3_has : GoodIn wsX6_look wsX3_has := goodIn_r _ [9, 10, 59, 60, 61, 62, 63, 64] (by decide +kernel) (by decide +kernel)
set_option maxRecDepth 20000 in
theorem gX6_look_X3_has : GoodIn wsX6_look (wsV RX6 111 RX3 yX3_has wsX3_has) := goodIn_app (goodIn_of _ (by decide +kernel)) ggX6_look_X3_has
set_option maxRecDepth 20000 in
theorem ggX6_look_X3_versionOf : GoodIn wsX6_look wsX3_versionOf := goodIn_r _ [14, 15, 59, 60, 61, 62, 63, 64] (by decide +kernel) (by decide +kernel)
set_option maxRecDepth 20000 in
theorem gX6_look_X3_versionOf : GoodIn wsX6_look (wsV RX6 158 RX3 yX3_versionOf wsX3_versionOf) := goodIn_app (goodIn_of _ (by decide +kernel)) ggX6_look_X3_versionOf
set_option maxRecDepth 20000 in
theorem ggX6_look_X3_lengthOf : GoodIn wsX6_look wsX3_lengthOf := goodIn_r _ [19, 20, 59, 60, 61, 62, 63, 64] (by decide +kernel) (by decide +kernel)
set_option maxRecDepth 20000 in
theorem gX6_look_X3_lengthOf : GoodIn wsX6_look (wsV RX6 161 RX3 yX3_lengthOf wsX3_lengthOf) := goodIn_app (goodIn_of _ (by decide +kernel)) ggX6_look_X3_lengthOf
set_option maxRecDepth 20000 in
theorem ggX6_look_X3_fixedAt : GoodIn wsX6_look wsX3_fixedAt := goodIn_r _ [24, 25, 59, 60, 61, 62, 63, 64] (by decide +kernel) (by decide +kernel)
set_option maxRecDepth 20000 in
theorem gX6_look_X3_fixedAt : GoodIn wsX6_look (wsV RX6 164 RX3 yX3_fixedAt wsX3_fixedAt) := goodIn_app (goodIn_of _ (by decide +kernel)) ggX6_look_X3_fixedAt
set_option maxRecDepth 20000 in
theorem ggX6_look_X6_cameBack : GoodIn wsX6_look wsX6_cameBack := goodIn_r _ [30, 3, 4, 31, 11, 12, 13, 8, 14, 15, 32, 33, 34, 35, 10, 21, 22, 23, 24, 25, 36, 37, 38, 39, 40, 41, 42, 43, 44, 45, 46, 47, 53, 54, 55, 56, 57, 58, 59, 60, 61, 62, 63, 64, 65, 66, 67, 68, 69, 70, 71, 72, 73, 74, 75, 76, 77, 78, 79, 80, 81] (by decide +kernel) (by decide +kernel)
set_option maxRecDepth 20000 in
theorem gX6_look_X6_cameBack : GoodIn wsX6_look (wsV RX6 167 RX6 yX6_cameBack wsX6_cameBack) := goodIn_app (goodIn_of _ (by decide +kernel)) ggX6_look_X6_cameBack
set_option maxRecDepth 20000 in
theorem ggX6_look_X1_sizeBeside : GoodIn wsX6_look wsX1_sizeBeside := goodIn_r _ [51, 52, 41, 65, 66, 67, 68, 69, 70, 71, 72, 73, 74, 75, 76, 77, 78, 79] (by decide +kernel) (by decide +kernel)
set_option maxRecDepth 20000 in
theorem gX6_look_X1_sizeBeside : GoodIn wsX6_look (wsV RX6 170 RX1 yX1_sizeBeside wsX1_sizeBeside) := goodIn_app (goodIn_of _ (by decide +kernel)) ggX6_look_X1_sizeBeside
theorem dX6_look_0 : decode cX6_look 0 = .ok (.aload_n 0, 1) := by decide +kernel
theorem dX6_look_1 : decode cX6_look 1 = .ok (.getfield 26, 3) := by decide +kernel
theorem dX6_look_4 : decode cX6_look 4 = .ok (.iload_n 1, 1) := by decide +kernel
theorem dX6_look_5 : decode cX6_look 5 = .ok (.invokevirtual 111, 3) := by decide +kernel
theorem dX6_look_8 : decode cX6_look 8 = .ok (.ifCond .ne 13, 3) := by decide +kernel
theorem dX6_look_11 : decode cX6_look 11 = .ok (.new 151, 3) := by decide +kernel
theorem dX6_look_14 : decode cX6_look 14 = .ok (.dup, 1) := by decide +kernel
theorem dX6_look_15 : decode cX6_look 15 = .ok (.ldc 153, 2) := by decide +kernel
theorem dX6_look_17 : decode cX6_look 17 = .ok (.invokespecial 155, 3) := by decide +kernel
theorem dX6_look_20 : decode cX6_look 20 = .ok (.athrow, 1) := by decide +kernel
theorem dX6_look_21 : decode cX6_look 21 = .ok (.iload_n 2, 1) := by decide +kernel
theorem dX6_look_22 : decode cX6_look 22 = .ok (.tableswitch 84 0 4 #[34, 43, 52, 61, 75], 34) := by decide +kernel
theorem dX6_look_56 : decode cX6_look 56 = .ok (.aload_n 0, 1) := by decide +kernel
theorem dX6_look_57 : decode cX6_look 57 = .ok (.getfield 26, 3) := by decide +kernel
theorem dX6_look_60 : decode cX6_look 60 = .ok (.iload_n 1, 1) := by decide +kernel
theorem dX6_look_61 : decode cX6_look 61 = .ok (.invokevirtual 158, 3) := by decide +kernel
theorem dX6_look_64 : decode cX6_look 64 = .ok (.ireturn, 1) := by decide +kernel
theorem dX6_look_65 : decode cX6_look 65 = .ok (.aload_n 0, 1) := by decide +kernel
theorem dX6_look_66 : decode cX6_look 66 = .ok (.getfield 26, 3) := by decide +kernel
theorem dX6_look_69 : decode cX6_look 69 = .ok (.iload_n 1, 1) := by decide +kernel
theorem dX6_look_70 : decode cX6_look 70 = .ok (.invokevirtual 161, 3) := by decide +kernel
theorem dX6_look_73 : decode cX6_look 73 = .ok (.ireturn, 1) := by decide +kernel
theorem dX6_look_74 : decode cX6_look 74 = .ok (.aload_n 0, 1) := by decide +kernel
theorem dX6_look_75 : decode cX6_look 75 = .ok (.getfield 26, 3) := by decide +kernel
theorem dX6_look_78 : decode cX6_look 78 = .ok (.iload_n 1, 1) := by decide +kernel
theorem dX6_look_79 : decode cX6_look 79 = .ok (.invokevirtual 164, 3) := by decide +kernel
theorem dX6_look_82 : decode cX6_look 82 = .ok (.ireturn, 1) := by decide +kernel
theorem dX6_look_83 : decode cX6_look 83 = .ok (.aload_n 0, 1) := by decide +kernel
theorem dX6_look_84 : decode cX6_look 84 = .ok (.iload_n 1, 1) := by decide +kernel
theorem dX6_look_85 : decode cX6_look 85 = .ok (.invokevirtual 167, 3) := by decide +kernel
theorem dX6_look_88 : decode cX6_look 88 = .ok (.ifCond .eq 7, 3) := by decide +kernel
theorem dX6_look_91 : decode cX6_look 91 = .ok (.iconst 1, 1) := by decide +kernel
theorem dX6_look_92 : decode cX6_look 92 = .ok (.goto 4, 3) := by decide +kernel
theorem dX6_look_95 : decode cX6_look 95 = .ok (.iconst 0, 1) := by decide +kernel
theorem dX6_look_96 : decode cX6_look 96 = .ok (.ireturn, 1) := by decide +kernel
theorem dX6_look_97 : decode cX6_look 97 = .ok (.aload_n 0, 1) := by decide +kernel
theorem dX6_look_98 : decode cX6_look 98 = .ok (.getfield 40, 3) := by decide +kernel
theorem dX6_look_101 : decode cX6_look 101 = .ok (.iload_n 1, 1) := by decide +kernel
theorem dX6_look_102 : decode cX6_look 102 = .ok (.invokevirtual 170, 3) := by decide +kernel
theorem dX6_look_105 : decode cX6_look 105 = .ok (.ireturn, 1) := by decide +kernel
theorem dX6_look_106 : decode cX6_look 106 = .ok (.new 151, 3) := by decide +kernel
theorem dX6_look_109 : decode cX6_look 109 = .ok (.dup, 1) := by decide +kernel
theorem dX6_look_110 : decode cX6_look 110 = .ok (.ldc 173, 2) := by decide +kernel
theorem dX6_look_112 : decode cX6_look 112 = .ok (.invokespecial 155, 3) := by decide +kernel
theorem dX6_look_115 : decode cX6_look 115 = .ok (.athrow, 1) := by decide +kernel
set_option maxRecDepth 20000 in
theorem ggX6_behind_X5_has : GoodIn wsX6_behind wsX5_has := goodIn_r _ [6, 7, 19, 20] (by decide +kernel) (by decide +kernel)
set_option maxRecDepth 20000 in
theorem gX6_behind_X5_has : GoodIn wsX6_behind (wsV RX6 62 RX5 yX5_has wsX5_has) := goodIn_app (goodIn_of _ (by decide +kernel)) ggX6_behind_X5_has
set_option maxRecDepth 20000 in
theorem ggX6_behind_X5_isOrIsBehind : GoodIn wsX6_behind wsX5_isOrIsBehind := goodIn_r _ [11, 12, 19, 20] (by decide +kernel) (by decide +kernel)
set_option maxRecDepth 20000 in
theorem gX6_behind_X5_isOrIsBehind : GoodIn wsX6_behind (wsV RX6 175 RX5 yX5_isOrIsBehind wsX5_isOrIsBehind) := goodIn_app (goodIn_of _ (by decide +kernel)) ggX6_behind_X5_isOrIsBehind
theorem dX6_behind_0 : decode cX6_behind 0 = .ok (.aload_n 0, 1) := by decide +kernel
theorem dX6_behind_1 : decode cX6_behind 1 = .ok (.getfield 19, 3) := by decide +kernel
theorem dX6_behind_4 : decode cX6_behind 4 = .ok (.iload_n 1, 1) := by decide +kernel
theorem dX6_behind_5 : decode cX6_behind 5 = .ok (.invokevirtual 62, 3) := by decide +kernel
theorem dX6_behind_8 : decode cX6_behind 8 = .ok (.ifCond .eq 14, 3) := by decide +kernel
theorem dX6_behind_11 : decode cX6_behind 11 = .ok (.aload_n 0, 1) := by decide +kernel
theorem dX6_behind_12 : decode cX6_behind 12 = .ok (.getfield 19, 3) := by decide +kernel
theorem dX6_behind_15 : decode cX6_behind 15 = .ok (.iload_n 2, 1) := by decide +kernel
theorem dX6_behind_16 : decode cX6_behind 16 = .ok (.invokevirtual 62, 3) := by decide +kernel
theorem dX6_behind_19 : decode cX6_behind 19 = .ok (.ifCond .ne 5, 3) := by decide +kernel
theorem dX6_behind_22 : decode cX6_behind 22 = .ok (.iconst (-1), 1) := by decide +kernel
theorem dX6_behind_23 : decode cX6_behind 23 = .ok (.ireturn, 1) := by decide +kernel
theorem dX6_behind_24 : decode cX6_behind 24 = .ok (.aload_n 0, 1) := by decide +kernel
theorem dX6_behind_25 : decode cX6_behind 25 = .ok (.getfield 19, 3) := by decide +kernel
theorem dX6_behind_28 : decode cX6_behind 28 = .ok (.iload_n 1, 1) := by decide +kernel
theorem dX6_behind_29 : decode cX6_behind 29 = .ok (.iload_n 2, 1) := by decide +kernel
theorem dX6_behind_30 : decode cX6_behind 30 = .ok (.invokevirtual 175, 3) := by decide +kernel
theorem dX6_behind_33 : decode cX6_behind 33 = .ok (.ifCond .eq 7, 3) := by decide +kernel
theorem dX6_behind_36 : decode cX6_behind 36 = .ok (.iconst 1, 1) := by decide +kernel
theorem dX6_behind_37 : decode cX6_behind 37 = .ok (.goto 4, 3) := by decide +kernel
theorem dX6_behind_40 : decode cX6_behind 40 = .ok (.iconst 0, 1) := by decide +kernel
theorem dX6_behind_41 : decode cX6_behind 41 = .ok (.ireturn, 1) := by decide +kernel
set_option maxRecDepth 20000 in
theorem ggX6_count_X3_howMany : GoodIn wsX6_count wsX3_howMany := goodIn_r _ [9, 10, 90, 91, 92, 93, 94, 95] (by decide +kernel) (by decide +kernel)
set_option maxRecDepth 20000 in
theorem gX6_count_X3_howMany : GoodIn wsX6_count (wsV RX6 178 RX3 yX3_howMany wsX3_howMany) := goodIn_app (goodIn_of _ (by decide +kernel)) ggX6_count_X3_howMany
set_option maxRecDepth 20000 in
theorem ggX6_count_X1_howMany : GoodIn wsX6_count wsX1_howMany := goodIn_r _ [15, 16, 96, 97, 98, 99, 100, 101, 102, 103, 104, 105, 106, 107, 108, 109, 110] (by decide +kernel) (by decide +kernel)
set_option maxRecDepth 20000 in
theorem gX6_count_X1_howMany : GoodIn wsX6_count (wsV RX6 107 RX1 yX1_howMany wsX1_howMany) := goodIn_app (goodIn_of _ (by decide +kernel)) ggX6_count_X1_howMany
set_option maxRecDepth 20000 in
theorem ggX6_count_X5_howMany : GoodIn wsX6_count wsX5_howMany := goodIn_r _ [21, 22, 111, 112] (by decide +kernel) (by decide +kernel)
set_option maxRecDepth 20000 in
theorem gX6_count_X5_howMany : GoodIn wsX6_count (wsV RX6 179 RX5 yX5_howMany wsX5_howMany) := goodIn_app (goodIn_of _ (by decide +kernel)) ggX6_count_X5_howMany
set_option maxRecDepth 20000 in
theorem ggX6_count_X1_getT : GoodIn wsX6_count wsX1_getT := goodIn_r _ [26, 27, 96, 97, 98, 99, 100, 101, 102, 103, 104, 105, 106, 107, 108, 109, 110] (by decide +kernel) (by decide +kernel)
set_option maxRecDepth 20000 in
theorem gX6_count_X1_getT : GoodIn wsX6_count (wsV RX6 180 RX1 yX1_getT wsX1_getT) := goodIn_app (goodIn_of _ (by decide +kernel)) ggX6_count_X1_getT
set_option maxRecDepth 20000 in
theorem ggX6_count_X4_howMany : GoodIn wsX6_count wsX4_howMany := goodIn_r _ [32, 33, 113, 114] (by decide +kernel) (by decide +kernel)
set_option maxRecDepth 20000 in
theorem gX6_count_X4_howMany : GoodIn wsX6_count (wsV RX6 183 RX4 yX4_howMany wsX4_howMany) := goodIn_app (goodIn_of _ (by decide +kernel)) ggX6_count_X4_howMany
set_option maxRecDepth 20000 in
theorem ggX6_count_X3_howManyCommon : GoodIn wsX6_count wsX3_howManyCommon := goodIn_r _ [37, 38, 39, 40, 8, 41, 10, 42, 43, 44, 45, 46, 47, 48, 49, 90, 91, 92, 93, 94, 95] (by decide +kernel) (by decide +kernel)
set_option maxRecDepth 20000 in
theorem gX6_count_X3_howManyCommon : GoodIn wsX6_count (wsV RX6 184 RX3 yX3_howManyCommon wsX3_howManyCommon) := goodIn_app (goodIn_of _ (by decide +kernel)) ggX6_count_X3_howManyCommon
set_option maxRecDepth 20000 in
theorem ggX6_count_X1_changesDone : GoodIn wsX6_count wsX1_changesDone := goodIn_r _ [53, 54, 96, 97, 98, 99, 100, 101, 102, 103, 104, 105, 106, 107, 108, 109, 110] (by decide +kernel) (by decide +kernel)
set_option maxRecDepth 20000 in
theorem gX6_count_X1_changesDone : GoodIn wsX6_count (wsV RX6 187 RX1 yX1_changesDone wsX1_changesDone) := goodIn_app (goodIn_of _ (by decide +kernel)) ggX6_count_X1_changesDone
set_option maxRecDepth 20000 in
theorem ggX6_count_X6_howManyCameBack : GoodIn wsX6_count wsX6_howManyCameBack := goodIn_r _ [59, 1, 5, 6, 7, 8, 9, 10, 60, 61, 62, 58, 63, 2, 3, 64, 65, 66, 67, 68, 69, 70, 71, 72, 73, 74, 75, 76, 14, 77, 78, 79, 80, 81, 20, 82, 83, 84, 85, 86, 87, 88, 89, 90, 91, 92, 93, 94, 95, 96, 97, 98, 99, 100, 101, 102, 103, 104, 105, 106, 107, 108, 109, 110, 111, 112] (by decide +kernel) (by decide +kernel)
set_option maxRecDepth 20000 in
theorem gX6_count_X6_howManyCameBack : GoodIn wsX6_count (wsV RX6 190 RX6 yX6_howManyCameBack wsX6_howManyCameBack) := goodIn_app (goodIn_of _ (by decide +kernel)) ggX6_count_X6_howManyCameBack
theorem dX6_count_0 : decode cX6_count 0 = .ok (.iload_n 1, 1) := by decide +kernel
theorem dX6_count_1 : decode cX6_count 1 = .ok (.tableswitch 108 0 7 #[47, 55, 63, 71, 79, 87, 95, 103], 47) := by decide +kernel
theorem dX6_count_48 : decode cX6_count 48 = .ok (.aload_n 0, 1) := by decide +kernel
theorem dX6_count_49 : decode cX6_count 49 = .ok (.getfield 26, 3) := by decide +kernel
theorem dX6_count_52 : decode cX6_count 52 = .ok (.invokevirtual 178, 3) := by decide +kernel
theorem dX6_count_55 : decode cX6_count 55 = .ok (.ireturn, 1) := by decide +kernel
theorem dX6_count_56 : decode cX6_count 56 = .ok (.aload_n 0, 1) := by decide +kernel
theorem dX6_count_57 : decode cX6_count 57 = .ok (.getfield 40, 3) := by decide +kernel
theorem dX6_count_60 : decode cX6_count 60 = .ok (.invokevirtual 107, 3) := by decide +kernel
theorem dX6_count_63 : decode cX6_count 63 = .ok (.ireturn, 1) := by decide +kernel
theorem dX6_count_64 : decode cX6_count 64 = .ok (.aload_n 0, 1) := by decide +kernel
theorem dX6_count_65 : decode cX6_count 65 = .ok (.getfield 19, 3) := by decide +kernel
theorem dX6_count_68 : decode cX6_count 68 = .ok (.invokevirtual 179, 3) := by decide +kernel
theorem dX6_count_71 : decode cX6_count 71 = .ok (.ireturn, 1) := by decide +kernel
theorem dX6_count_72 : decode cX6_count 72 = .ok (.aload_n 0, 1) := by decide +kernel
theorem dX6_count_73 : decode cX6_count 73 = .ok (.getfield 40, 3) := by decide +kernel
theorem dX6_count_76 : decode cX6_count 76 = .ok (.invokevirtual 180, 3) := by decide +kernel
theorem dX6_count_79 : decode cX6_count 79 = .ok (.ireturn, 1) := by decide +kernel
theorem dX6_count_80 : decode cX6_count 80 = .ok (.aload_n 0, 1) := by decide +kernel
theorem dX6_count_81 : decode cX6_count 81 = .ok (.getfield 10, 3) := by decide +kernel
theorem dX6_count_84 : decode cX6_count 84 = .ok (.invokevirtual 183, 3) := by decide +kernel
theorem dX6_count_87 : decode cX6_count 87 = .ok (.ireturn, 1) := by decide +kernel
theorem dX6_count_88 : decode cX6_count 88 = .ok (.aload_n 0, 1) := by decide +kernel
theorem dX6_count_89 : decode cX6_count 89 = .ok (.getfield 26, 3) := by decide +kernel
theorem dX6_count_92 : decode cX6_count 92 = .ok (.invokevirtual 184, 3) := by decide +kernel
theorem dX6_count_95 : decode cX6_count 95 = .ok (.ireturn, 1) := by decide +kernel
theorem dX6_count_96 : decode cX6_count 96 = .ok (.aload_n 0, 1) := by decide +kernel
theorem dX6_count_97 : decode cX6_count 97 = .ok (.getfield 40, 3) := by decide +kernel
theorem dX6_count_100 : decode cX6_count 100 = .ok (.invokevirtual 187, 3) := by decide +kernel
theorem dX6_count_103 : decode cX6_count 103 = .ok (.ireturn, 1) := by decide +kernel
theorem dX6_count_104 : decode cX6_count 104 = .ok (.aload_n 0, 1) := by decide +kernel
theorem dX6_count_105 : decode cX6_count 105 = .ok (.invokevirtual 190, 3) := by decide +kernel
theorem dX6_count_108 : decode cX6_count 108 = .ok (.ireturn, 1) := by decide +kernel
theorem dX6_count_109 : decode cX6_count 109 = .ok (.iconst (-1), 1) := by decide +kernel
theorem dX6_count_110 : decode cX6_count 110 = .ok (.ireturn, 1) := by decide +kernel
set_option maxRecDepth 20000 in
theorem ggX6_cameBack_X3_versionOf : GoodIn wsX6_cameBack wsX3_versionOf := goodIn_r _ [8, 9, 38, 39, 40, 41, 42, 43] (by decide +kernel) (by decide +kernel)
set_option maxRecDepth 20000 in
theorem gX6_cameBack_X3_versionOf : GoodIn wsX6_cameBack (wsV RX6 158 RX3 yX3_versionOf wsX3_versionOf) := goodIn_app (goodIn_of _ (by decide +kernel)) ggX6_cameBack_X3_versionOf
set_option maxRecDepth 20000 in
theorem ggX6_cameBack_X3_howMany : GoodIn wsX6_cameBack wsX3_howMany := goodIn_r _ [13, 14, 38, 39, 40, 41, 42, 43] (by decide +kernel) (by decide +kernel)
set_option maxRecDepth 20000 in
theorem gX6_cameBack_X3_howMany : GoodIn wsX6_cameBack (wsV RX6 178 RX3 yX3_howMany wsX3_howMany) := goodIn_app (goodIn_of _ (by decide +kernel)) ggX6_cameBack_X3_howMany
set_option maxRecDepth 20000 in
theorem ggX6_cameBack_X3_fixedAt : GoodIn wsX6_cameBack wsX3_fixedAt := goodIn_r _ [18, 19, 38, 39, 40, 41, 42, 43] (by decide +kernel) (by decide +kernel)
set_option maxRecDepth 20000 in
theorem gX6_cameBack_X3_fixedAt : GoodIn wsX6_cameBack (wsV RX6 164 RX3 yX3_fixedAt wsX3_fixedAt) := goodIn_app (goodIn_of _ (by decide +kernel)) ggX6_cameBack_X3_fixedAt
set_option maxRecDepth 20000 in
theorem ggX6_cameBack_X1_areTogether : GoodIn wsX6_cameBack wsX1_areTogether := goodIn_r _ [24, 25, 44, 45, 46, 47, 48, 49, 50, 51, 52, 53, 54, 55, 56, 57, 58] (by decide +kernel) (by decide +kernel)
set_option maxRecDepth 20000 in
theorem gX6_cameBack_X1_areTogether : GoodIn wsX6_cameBack (wsV RX6 193 RX1 yX1_areTogether wsX1_areTogether) := goodIn_app (goodIn_of _ (by decide +kernel)) ggX6_cameBack_X1_areTogether
set_option maxRecDepth 20000 in
theorem ggX6_cameBack_X5_isOrIsBehind : GoodIn wsX6_cameBack wsX5_isOrIsBehind := goodIn_r _ [30, 31, 59, 60] (by decide +kernel) (by decide +kernel)
set_option maxRecDepth 20000 in
theorem gX6_cameBack_X5_isOrIsBehind : GoodIn wsX6_cameBack (wsV RX6 175 RX5 yX5_isOrIsBehind wsX5_isOrIsBehind) := goodIn_app (goodIn_of _ (by decide +kernel)) ggX6_cameBack_X5_isOrIsBehind
theorem dX6_cameBack_0 : decode cX6_cameBack 0 = .ok (.aload_n 0, 1) := by decide +kernel
theorem dX6_cameBack_1 : decode cX6_cameBack 1 = .ok (.getfield 26, 3) := by decide +kernel
theorem dX6_cameBack_4 : decode cX6_cameBack 4 = .ok (.iload_n 1, 1) := by decide +kernel
theorem dX6_cameBack_5 : decode cX6_cameBack 5 = .ok (.invokevirtual 158, 3) := by decide +kernel
theorem dX6_cameBack_8 : decode cX6_cameBack 8 = .ok (.istore_n 2, 1) := by decide +kernel
theorem dX6_cameBack_9 : decode cX6_cameBack 9 = .ok (.iconst 0, 1) := by decide +kernel
theorem dX6_cameBack_10 : decode cX6_cameBack 10 = .ok (.istore_n 3, 1) := by decide +kernel
theorem dX6_cameBack_11 : decode cX6_cameBack 11 = .ok (.iload_n 3, 1) := by decide +kernel
theorem dX6_cameBack_12 : decode cX6_cameBack 12 = .ok (.aload_n 0, 1) := by decide +kernel
theorem dX6_cameBack_13 : decode cX6_cameBack 13 = .ok (.getfield 26, 3) := by decide +kernel
theorem dX6_cameBack_16 : decode cX6_cameBack 16 = .ok (.invokevirtual 178, 3) := by decide +kernel
theorem dX6_cameBack_19 : decode cX6_cameBack 19 = .ok (.if_icmp .ge 52, 3) := by decide +kernel
theorem dX6_cameBack_22 : decode cX6_cameBack 22 = .ok (.aload_n 0, 1) := by decide +kernel
theorem dX6_cameBack_23 : decode cX6_cameBack 23 = .ok (.getfield 26, 3) := by decide +kernel
theorem dX6_cameBack_26 : decode cX6_cameBack 26 = .ok (.iload_n 3, 1) := by decide +kernel
theorem dX6_cameBack_27 : decode cX6_cameBack 27 = .ok (.invokevirtual 164, 3) := by decide +kernel
theorem dX6_cameBack_30 : decode cX6_cameBack 30 = .ok (.istore 4, 2) := by decide +kernel
theorem dX6_cameBack_32 : decode cX6_cameBack 32 = .ok (.iload 4, 2) := by decide +kernel
theorem dX6_cameBack_34 : decode cX6_cameBack 34 = .ok (.iconst (-1), 1) := by decide +kernel
theorem dX6_cameBack_35 : decode cX6_cameBack 35 = .ok (.if_icmp .eq 30, 3) := by decide +kernel
theorem dX6_cameBack_38 : decode cX6_cameBack 38 = .ok (.aload_n 0, 1) := by decide +kernel
theorem dX6_cameBack_39 : decode cX6_cameBack 39 = .ok (.getfield 40, 3) := by decide +kernel
theorem dX6_cameBack_42 : decode cX6_cameBack 42 = .ok (.iload_n 1, 1) := by decide +kernel
theorem dX6_cameBack_43 : decode cX6_cameBack 43 = .ok (.iload_n 3, 1) := by decide +kernel
theorem dX6_cameBack_44 : decode cX6_cameBack 44 = .ok (.invokevirtual 193, 3) := by decide +kernel
theorem dX6_cameBack_47 : decode cX6_cameBack 47 = .ok (.ifCond .eq 18, 3) := by decide +kernel
theorem dX6_cameBack_50 : decode cX6_cameBack 50 = .ok (.aload_n 0, 1) := by decide +kernel
theorem dX6_cameBack_51 : decode cX6_cameBack 51 = .ok (.getfield 19, 3) := by decide +kernel
theorem dX6_cameBack_54 : decode cX6_cameBack 54 = .ok (.iload_n 2, 1) := by decide +kernel
theorem dX6_cameBack_55 : decode cX6_cameBack 55 = .ok (.iload 4, 2) := by decide +kernel
theorem dX6_cameBack_57 : decode cX6_cameBack 57 = .ok (.invokevirtual 175, 3) := by decide +kernel
theorem dX6_cameBack_60 : decode cX6_cameBack 60 = .ok (.ifCond .eq 5, 3) := by decide +kernel
theorem dX6_cameBack_63 : decode cX6_cameBack 63 = .ok (.iconst 1, 1) := by decide +kernel
theorem dX6_cameBack_64 : decode cX6_cameBack 64 = .ok (.ireturn, 1) := by decide +kernel
theorem dX6_cameBack_65 : decode cX6_cameBack 65 = .ok (.iinc 3 1, 3) := by decide +kernel
theorem dX6_cameBack_68 : decode cX6_cameBack 68 = .ok (.goto (-57), 3) := by decide +kernel
theorem dX6_cameBack_71 : decode cX6_cameBack 71 = .ok (.iconst 0, 1) := by decide +kernel
theorem dX6_cameBack_72 : decode cX6_cameBack 72 = .ok (.ireturn, 1) := by decide +kernel
set_option maxRecDepth 20000 in
theorem ggX6_howManyCameBack_X3_howMany : GoodIn wsX6_howManyCameBack wsX3_howMany := goodIn_r _ [6, 7, 43, 44, 45, 46, 47, 48] (by decide +kernel) (by decide +kernel)
set_option maxRecDepth 20000 in
theorem gX6_howManyCameBack_X3_howMany : GoodIn wsX6_howManyCameBack (wsV RX6 178 RX3 yX3_howMany wsX3_howMany) := goodIn_app (goodIn_of _ (by decide +kernel)) ggX6_howManyCameBack_X3_howMany
set_option maxRecDepth 20000 in
theorem ggX6_howManyCameBack_X6_cameBack : GoodIn wsX6_howManyCameBack wsX6_cameBack := goodIn_r _ [12, 1, 13, 14, 15, 16, 17, 5, 18, 19, 2, 3, 4, 6, 7, 20, 21, 22, 23, 24, 25, 26, 27, 28, 29, 30, 31, 32, 33, 34, 35, 36, 37, 38, 39, 40, 41, 42, 43, 44, 45, 46, 47, 48, 49, 50, 51, 52, 53, 54, 55, 56, 57, 58, 59, 60, 61, 62, 63, 64, 65] (by decide +kernel) (by decide +kernel)
set_option maxRecDepth 20000 in
theorem gX6_howManyCameBack_X6_cameBack : GoodIn wsX6_howManyCameBack (wsV RX6 167 RX6 yX6_cameBack wsX6_cameBack) := goodIn_app (goodIn_of _ (by decide +kernel)) ggX6_howManyCameBack_X6_cameBack
theorem dX6_howManyCameBack_0 : decode cX6_howManyCameBack 0 = .ok (.iconst 0, 1) := by decide +kernel
theorem dX6_howManyCameBack_1 : decode cX6_howManyCameBack 1 = .ok (.istore_n 1, 1) := by decide +kernel
theorem dX6_howManyCameBack_2 : decode cX6_howManyCameBack 2 = .ok (.iconst 0, 1) := by decide +kernel
theorem dX6_howManyCameBack_3 : decode cX6_howManyCameBack 3 = .ok (.istore_n 2, 1) := by decide +kernel
theorem dX6_howManyCameBack_4 : decode cX6_howManyCameBack 4 = .ok (.iload_n 2, 1) := by decide +kernel
theorem dX6_howManyCameBack_5 : decode cX6_howManyCameBack 5 = .ok (.aload_n 0, 1) := by decide +kernel
theorem dX6_howManyCameBack_6 : decode cX6_howManyCameBack 6 = .ok (.getfield 26, 3) := by decide +kernel
theorem dX6_howManyCameBack_9 : decode cX6_howManyCameBack 9 = .ok (.invokevirtual 178, 3) := by decide +kernel
theorem dX6_howManyCameBack_12 : decode cX6_howManyCameBack 12 = .ok (.if_icmp .ge 20, 3) := by decide +kernel
theorem dX6_howManyCameBack_15 : decode cX6_howManyCameBack 15 = .ok (.aload_n 0, 1) := by decide +kernel
theorem dX6_howManyCameBack_16 : decode cX6_howManyCameBack 16 = .ok (.iload_n 2, 1) := by decide +kernel
theorem dX6_howManyCameBack_17 : decode cX6_howManyCameBack 17 = .ok (.invokevirtual 167, 3) := by decide +kernel
theorem dX6_howManyCameBack_20 : decode cX6_howManyCameBack 20 = .ok (.ifCond .eq 6, 3) := by decide +kernel
theorem dX6_howManyCameBack_23 : decode cX6_howManyCameBack 23 = .ok (.iinc 1 1, 3) := by decide +kernel
theorem dX6_howManyCameBack_26 : decode cX6_howManyCameBack 26 = .ok (.iinc 2 1, 3) := by decide +kernel
theorem dX6_howManyCameBack_29 : decode cX6_howManyCameBack 29 = .ok (.goto (-25), 3) := by decide +kernel
theorem dX6_howManyCameBack_32 : decode cX6_howManyCameBack 32 = .ok (.iload_n 1, 1) := by decide +kernel
theorem dX6_howManyCameBack_33 : decode cX6_howManyCameBack 33 = .ok (.ireturn, 1) := by decide +kernel
theorem dX7_thrown_0 : decode cX7_thrown 0 = .ok (.aload_n 0, 1) := by decide +kernel
theorem dX7_thrown_1 : decode cX7_thrown 1 = .ok (.getfield 1, 3) := by decide +kernel
theorem dX7_thrown_4 : decode cX7_thrown 4 = .ok (.ireturn, 1) := by decide +kernel
theorem dX7_init_0 : decode cX7_init 0 = .ok (.aload_n 0, 1) := by decide +kernel
theorem dX7_init_1 : decode cX7_init 1 = .ok (.invokespecial 7, 3) := by decide +kernel
theorem dX7_init_4 : decode cX7_init 4 = .ok (.aload_n 0, 1) := by decide +kernel
theorem dX7_init_5 : decode cX7_init 5 = .ok (.iconst 1, 1) := by decide +kernel
theorem dX7_init_6 : decode cX7_init 6 = .ok (.putfield 13, 3) := by decide +kernel
theorem dX7_init_9 : decode cX7_init 9 = .ok (.aload_n 0, 1) := by decide +kernel
theorem dX7_init_10 : decode cX7_init 10 = .ok (.bipush 30, 2) := by decide +kernel
theorem dX7_init_12 : decode cX7_init 12 = .ok (.newarray .int, 2) := by decide +kernel
theorem dX7_init_14 : decode cX7_init 14 = .ok (.putfield 16, 3) := by decide +kernel
theorem dX7_init_17 : decode cX7_init 17 = .ok (.aload_n 0, 1) := by decide +kernel
theorem dX7_init_18 : decode cX7_init 18 = .ok (.bipush 12, 2) := by decide +kernel
theorem dX7_init_20 : decode cX7_init 20 = .ok (.newarray .int, 2) := by decide +kernel
theorem dX7_init_22 : decode cX7_init 22 = .ok (.putfield 20, 3) := by decide +kernel
theorem dX7_init_25 : decode cX7_init 25 = .ok (.aload_n 0, 1) := by decide +kernel
theorem dX7_init_26 : decode cX7_init 26 = .ok (.sipush 480, 3) := by decide +kernel
theorem dX7_init_29 : decode cX7_init 29 = .ok (.newarray .int, 2) := by decide +kernel
theorem dX7_init_31 : decode cX7_init 31 = .ok (.putfield 23, 3) := by decide +kernel
theorem dX7_init_34 : decode cX7_init 34 = .ok (.aload_n 0, 1) := by decide +kernel
theorem dX7_init_35 : decode cX7_init 35 = .ok (.bipush 40, 2) := by decide +kernel
theorem dX7_init_37 : decode cX7_init 37 = .ok (.newarray .int, 2) := by decide +kernel
theorem dX7_init_39 : decode cX7_init 39 = .ok (.putfield 26, 3) := by decide +kernel
theorem dX7_init_42 : decode cX7_init 42 = .ok (.aload_n 0, 1) := by decide +kernel
theorem dX7_init_43 : decode cX7_init 43 = .ok (.bipush 40, 2) := by decide +kernel
theorem dX7_init_45 : decode cX7_init 45 = .ok (.newarray .int, 2) := by decide +kernel
theorem dX7_init_47 : decode cX7_init 47 = .ok (.putfield 29, 3) := by decide +kernel
theorem dX7_init_50 : decode cX7_init 50 = .ok (.aload_n 0, 1) := by decide +kernel
theorem dX7_init_51 : decode cX7_init 51 = .ok (.bipush 40, 2) := by decide +kernel
theorem dX7_init_53 : decode cX7_init 53 = .ok (.newarray .int, 2) := by decide +kernel
theorem dX7_init_55 : decode cX7_init 55 = .ok (.putfield 32, 3) := by decide +kernel
theorem dX7_init_58 : decode cX7_init 58 = .ok (.aload_n 0, 1) := by decide +kernel
theorem dX7_init_59 : decode cX7_init 59 = .ok (.bipush 40, 2) := by decide +kernel
theorem dX7_init_61 : decode cX7_init 61 = .ok (.newarray .int, 2) := by decide +kernel
theorem dX7_init_63 : decode cX7_init 63 = .ok (.putfield 35, 3) := by decide +kernel
theorem dX7_init_66 : decode cX7_init 66 = .ok (.aload_n 0, 1) := by decide +kernel
theorem dX7_init_67 : decode cX7_init 67 = .ok (.bipush 12, 2) := by decide +kernel
theorem dX7_init_69 : decode cX7_init 69 = .ok (.newarray .int, 2) := by decide +kernel
theorem dX7_init_71 : decode cX7_init 71 = .ok (.putfield 38, 3) := by decide +kernel
theorem dX7_init_74 : decode cX7_init 74 = .ok (.aload_n 0, 1) := by decide +kernel
theorem dX7_init_75 : decode cX7_init 75 = .ok (.bipush 12, 2) := by decide +kernel
theorem dX7_init_77 : decode cX7_init 77 = .ok (.newarray .int, 2) := by decide +kernel
theorem dX7_init_79 : decode cX7_init 79 = .ok (.putfield 41, 3) := by decide +kernel
theorem dX7_init_82 : decode cX7_init 82 = .ok (.aload_n 0, 1) := by decide +kernel
theorem dX7_init_83 : decode cX7_init 83 = .ok (.sipush 169, 3) := by decide +kernel
theorem dX7_init_86 : decode cX7_init 86 = .ok (.newarray .int, 2) := by decide +kernel
theorem dX7_init_88 : decode cX7_init 88 = .ok (.putfield 44, 3) := by decide +kernel
theorem dX7_init_91 : decode cX7_init 91 = .ok (.aload_n 0, 1) := by decide +kernel
theorem dX7_init_92 : decode cX7_init 92 = .ok (.sipush 1600, 3) := by decide +kernel
theorem dX7_init_95 : decode cX7_init 95 = .ok (.newarray .int, 2) := by decide +kernel
theorem dX7_init_97 : decode cX7_init 97 = .ok (.putfield 47, 3) := by decide +kernel
theorem dX7_init_100 : decode cX7_init 100 = .ok (.aload_n 0, 1) := by decide +kernel
theorem dX7_init_101 : decode cX7_init 101 = .ok (.sipush 501, 3) := by decide +kernel
theorem dX7_init_104 : decode cX7_init 104 = .ok (.newarray .boolean, 2) := by decide +kernel
theorem dX7_init_106 : decode cX7_init 106 = .ok (.putfield 50, 3) := by decide +kernel
theorem dX7_init_109 : decode cX7_init 109 = .ok (.aload_n 0, 1) := by decide +kernel
theorem dX7_init_110 : decode cX7_init 110 = .ok (.bipush 6, 2) := by decide +kernel
theorem dX7_init_112 : decode cX7_init 112 = .ok (.putfield 54, 3) := by decide +kernel
theorem dX7_init_115 : decode cX7_init 115 = .ok (.aload_n 0, 1) := by decide +kernel
theorem dX7_init_116 : decode cX7_init 116 = .ok (.sipush 1600, 3) := by decide +kernel
theorem dX7_init_119 : decode cX7_init 119 = .ok (.newarray .int, 2) := by decide +kernel
theorem dX7_init_121 : decode cX7_init 121 = .ok (.putfield 57, 3) := by decide +kernel
theorem dX7_init_124 : decode cX7_init 124 = .ok (.aload_n 0, 1) := by decide +kernel
theorem dX7_init_125 : decode cX7_init 125 = .ok (.bipush 40, 2) := by decide +kernel
theorem dX7_init_127 : decode cX7_init 127 = .ok (.newarray .int, 2) := by decide +kernel
theorem dX7_init_129 : decode cX7_init 129 = .ok (.putfield 60, 3) := by decide +kernel
theorem dX7_init_132 : decode cX7_init 132 = .ok (.aload_n 0, 1) := by decide +kernel
theorem dX7_init_133 : decode cX7_init 133 = .ok (.iconst 3, 1) := by decide +kernel
theorem dX7_init_134 : decode cX7_init 134 = .ok (.newarray .int, 2) := by decide +kernel
theorem dX7_init_136 : decode cX7_init 136 = .ok (.putfield 63, 3) := by decide +kernel
theorem dX7_init_139 : decode cX7_init 139 = .ok (.aload_n 0, 1) := by decide +kernel
theorem dX7_init_140 : decode cX7_init 140 = .ok (.iconst 3, 1) := by decide +kernel
theorem dX7_init_141 : decode cX7_init 141 = .ok (.newarray .int, 2) := by decide +kernel
theorem dX7_init_143 : decode cX7_init 143 = .ok (.putfield 66, 3) := by decide +kernel
theorem dX7_init_146 : decode cX7_init 146 = .ok (.aload_n 0, 1) := by decide +kernel
theorem dX7_init_147 : decode cX7_init 147 = .ok (.bipush 12, 2) := by decide +kernel
theorem dX7_init_149 : decode cX7_init 149 = .ok (.newarray .int, 2) := by decide +kernel
theorem dX7_init_151 : decode cX7_init 151 = .ok (.putfield 69, 3) := by decide +kernel
theorem dX7_init_154 : decode cX7_init 154 = .ok (.aload_n 0, 1) := by decide +kernel
theorem dX7_init_155 : decode cX7_init 155 = .ok (.getfield 16, 3) := by decide +kernel
theorem dX7_init_158 : decode cX7_init 158 = .ok (.iconst 0, 1) := by decide +kernel
theorem dX7_init_159 : decode cX7_init 159 = .ok (.iconst (-1), 1) := by decide +kernel
theorem dX7_init_160 : decode cX7_init 160 = .ok (.iastore, 1) := by decide +kernel
theorem dX7_init_161 : decode cX7_init 161 = .ok (.return_, 1) := by decide +kernel
theorem dX7_isVersion_0 : decode cX7_isVersion 0 = .ok (.iload_n 1, 1) := by decide +kernel
theorem dX7_isVersion_1 : decode cX7_isVersion 1 = .ok (.ifCond .lt 15, 3) := by decide +kernel
theorem dX7_isVersion_4 : decode cX7_isVersion 4 = .ok (.iload_n 1, 1) := by decide +kernel
theorem dX7_isVersion_5 : decode cX7_isVersion 5 = .ok (.aload_n 0, 1) := by decide +kernel
theorem dX7_isVersion_6 : decode cX7_isVersion 6 = .ok (.getfield 13, 3) := by decide +kernel
theorem dX7_isVersion_9 : decode cX7_isVersion 9 = .ok (.if_icmp .ge 7, 3) := by decide +kernel
theorem dX7_isVersion_12 : decode cX7_isVersion 12 = .ok (.iconst 1, 1) := by decide +kernel
theorem dX7_isVersion_13 : decode cX7_isVersion 13 = .ok (.goto 4, 3) := by decide +kernel
theorem dX7_isVersion_16 : decode cX7_isVersion 16 = .ok (.iconst 0, 1) := by decide +kernel
theorem dX7_isVersion_17 : decode cX7_isVersion 17 = .ok (.ireturn, 1) := by decide +kernel
set_option maxRecDepth 20000 in
theorem ggX7_version_X7_isVersion : GoodIn wsX7_version wsX7_isVersion := goodIn_r _ [8, 2, 9, 10, 11, 12, 13, 14, 15, 16, 17, 18, 19, 20, 21, 22, 23, 24, 25, 26, 27, 28, 29, 30, 31, 32, 33, 34, 35, 36, 37, 38, 39] (by decide +kernel) (by decide +kernel)
set_option maxRecDepth 20000 in
theorem gX7_version_X7_isVersion : GoodIn wsX7_version (wsV RX7 72 RX7 yX7_isVersion wsX7_isVersion) := goodIn_app (goodIn_of _ (by decide +kernel)) ggX7_version_X7_isVersion
theorem dX7_version_0 : decode cX7_version 0 = .ok (.aload_n 0, 1) := by decide +kernel
theorem dX7_version_1 : decode cX7_version 1 = .ok (.iconst 0, 1) := by decide +kernel
theorem dX7_version_2 : decode cX7_version 2 = .ok (.putfield 1, 3) := by decide +kernel
theorem dX7_version_5 : decode cX7_version 5 = .ok (.aload_n 0, 1) := by decide +kernel
theorem dX7_version_6 : decode cX7_version 6 = .ok (.iload_n 1, 1) := by decide +kernel
theorem dX7_version_7 : decode cX7_version 7 = .ok (.invokevirtual 72, 3) := by decide +kernel
theorem dX7_version_10 : decode cX7_version 10 = .ok (.ifCond .eq 12, 3) := by decide +kernel
theorem dX7_version_13 : decode cX7_version 13 = .ok (.aload_n 0, 1) := by decide +kernel
theorem dX7_version_14 : decode cX7_version 14 = .ok (.getfield 13, 3) := by decide +kernel
theorem dX7_version_17 : decode cX7_version 17 = .ok (.bipush 30, 2) := by decide +kernel
theorem dX7_version_19 : decode cX7_version 19 = .ok (.if_icmp .ne 5, 3) := by decide +kernel
theorem dX7_version_22 : decode cX7_version 22 = .ok (.iconst (-1), 1) := by decide +kernel
theorem dX7_version_23 : decode cX7_version 23 = .ok (.ireturn, 1) := by decide +kernel
theorem dX7_version_24 : decode cX7_version 24 = .ok (.aload_n 0, 1) := by decide +kernel
theorem dX7_version_25 : decode cX7_version 25 = .ok (.getfield 16, 3) := by decide +kernel
theorem dX7_version_28 : decode cX7_version 28 = .ok (.aload_n 0, 1) := by decide +kernel
theorem dX7_version_29 : decode cX7_version 29 = .ok (.getfield 13, 3) := by decide +kernel
theorem dX7_version_32 : decode cX7_version 32 = .ok (.iload_n 1, 1) := by decide +kernel
theorem dX7_version_33 : decode cX7_version 33 = .ok (.iastore, 1) := by decide +kernel
theorem dX7_version_34 : decode cX7_version 34 = .ok (.aload_n 0, 1) := by decide +kernel
theorem dX7_version_35 : decode cX7_version 35 = .ok (.dup, 1) := by decide +kernel
theorem dX7_version_36 : decode cX7_version 36 = .ok (.getfield 13, 3) := by decide +kernel
theorem dX7_version_39 : decode cX7_version 39 = .ok (.iconst 1, 1) := by decide +kernel
theorem dX7_version_40 : decode cX7_version 40 = .ok (.iadd, 1) := by decide +kernel
theorem dX7_version_41 : decode cX7_version 41 = .ok (.putfield 13, 3) := by decide +kernel
theorem dX7_version_44 : decode cX7_version 44 = .ok (.aload_n 0, 1) := by decide +kernel
theorem dX7_version_45 : decode cX7_version 45 = .ok (.getfield 13, 3) := by decide +kernel
theorem dX7_version_48 : decode cX7_version 48 = .ok (.iconst 1, 1) := by decide +kernel
theorem dX7_version_49 : decode cX7_version 49 = .ok (.isub, 1) := by decide +kernel
theorem dX7_version_50 : decode cX7_version 50 = .ok (.ireturn, 1) := by decide +kernel
theorem dX7_isBehind_0 : decode cX7_isBehind 0 = .ok (.iload_n 1, 1) := by decide +kernel
theorem dX7_isBehind_1 : decode cX7_isBehind 1 = .ok (.istore_n 3, 1) := by decide +kernel
theorem dX7_isBehind_2 : decode cX7_isBehind 2 = .ok (.iload_n 3, 1) := by decide +kernel
theorem dX7_isBehind_3 : decode cX7_isBehind 3 = .ok (.ifCond .lt 18, 3) := by decide +kernel
theorem dX7_isBehind_6 : decode cX7_isBehind 6 = .ok (.iload_n 3, 1) := by decide +kernel
theorem dX7_isBehind_7 : decode cX7_isBehind 7 = .ok (.iload_n 2, 1) := by decide +kernel
theorem dX7_isBehind_8 : decode cX7_isBehind 8 = .ok (.if_icmp .eq 13, 3) := by decide +kernel
theorem dX7_isBehind_11 : decode cX7_isBehind 11 = .ok (.aload_n 0, 1) := by decide +kernel
theorem dX7_isBehind_12 : decode cX7_isBehind 12 = .ok (.getfield 16, 3) := by decide +kernel
theorem dX7_isBehind_15 : decode cX7_isBehind 15 = .ok (.iload_n 3, 1) := by decide +kernel
theorem dX7_isBehind_16 : decode cX7_isBehind 16 = .ok (.iaload, 1) := by decide +kernel
theorem dX7_isBehind_17 : decode cX7_isBehind 17 = .ok (.istore_n 3, 1) := by decide +kernel
theorem dX7_isBehind_18 : decode cX7_isBehind 18 = .ok (.goto (-16), 3) := by decide +kernel
theorem dX7_isBehind_21 : decode cX7_isBehind 21 = .ok (.iload_n 3, 1) := by decide +kernel
theorem dX7_isBehind_22 : decode cX7_isBehind 22 = .ok (.iload_n 2, 1) := by decide +kernel
theorem dX7_isBehind_23 : decode cX7_isBehind 23 = .ok (.if_icmp .ne 7, 3) := by decide +kernel
theorem dX7_isBehind_26 : decode cX7_isBehind 26 = .ok (.iconst 1, 1) := by decide +kernel
theorem dX7_isBehind_27 : decode cX7_isBehind 27 = .ok (.goto 4, 3) := by decide +kernel
theorem dX7_isBehind_30 : decode cX7_isBehind 30 = .ok (.iconst 0, 1) := by decide +kernel
theorem dX7_isBehind_31 : decode cX7_isBehind 31 = .ok (.ireturn, 1) := by decide +kernel
set_option maxRecDepth 20000 in
theorem ggX7_behind_X7_isVersion : GoodIn wsX7_behind wsX7_isVersion := goodIn_r _ [6, 7, 13, 14, 15, 16, 17, 18, 19, 20, 21, 22, 23, 24, 25, 26, 27, 28, 29, 30, 31, 32, 33, 34, 35, 36, 37, 38, 39, 40, 41, 42, 43] (by decide +kernel) (by decide +kernel)
set_option maxRecDepth 20000 in
theorem gX7_behind_X7_isVersion : GoodIn wsX7_behind (wsV RX7 72 RX7 yX7_isVersion wsX7_isVersion) := goodIn_app (goodIn_of _ (by decide +kernel)) ggX7_behind_X7_isVersion
set_option maxRecDepth 20000 in
theorem ggX7_behind_X7_isBehind : GoodIn wsX7_behind wsX7_isBehind := goodIn_r _ [11, 12, 13, 14, 15, 16, 17, 18, 19, 20, 21, 22, 23, 24, 25, 26, 27, 28, 29, 30, 31, 32, 33, 34, 35, 36, 37, 38, 39, 40, 41, 42, 43] (by decide +kernel) (by decide +kernel)
set_option maxRecDepth 20000 in
theorem gX7_behind_X7_isBehind : GoodIn wsX7_behind (wsV RX7 76 RX7 yX7_isBehind wsX7_isBehind) := goodIn_app (goodIn_of _ (by decide +kernel)) ggX7_behind_X7_isBehind
theorem dX7_behind_0 : decode cX7_behind 0 = .ok (.aload_n 0, 1) := by decide +kernel
theorem dX7_behind_1 : decode cX7_behind 1 = .ok (.iconst 0, 1) := by decide +kernel
theorem dX7_behind_2 : decode cX7_behind 2 = .ok (.putfield 1, 3) := by decide +kernel
theorem dX7_behind_5 : decode cX7_behind 5 = .ok (.aload_n 0, 1) := by decide +kernel
theorem dX7_behind_6 : decode cX7_behind 6 = .ok (.iload_n 1, 1) := by decide +kernel
theorem dX7_behind_7 : decode cX7_behind 7 = .ok (.invokevirtual 72, 3) := by decide +kernel
theorem dX7_behind_10 : decode cX7_behind 10 = .ok (.ifCond .eq 11, 3) := by decide +kernel
theorem dX7_behind_13 : decode cX7_behind 13 = .ok (.aload_n 0, 1) := by decide +kernel
theorem dX7_behind_14 : decode cX7_behind 14 = .ok (.iload_n 2, 1) := by decide +kernel
theorem dX7_behind_15 : decode cX7_behind 15 = .ok (.invokevirtual 72, 3) := by decide +kernel
theorem dX7_behind_18 : decode cX7_behind 18 = .ok (.ifCond .ne 7, 3) := by decide +kernel
theorem dX7_behind_21 : decode cX7_behind 21 = .ok (.iconst (-1), 1) := by decide +kernel
theorem dX7_behind_22 : decode cX7_behind 22 = .ok (.goto 17, 3) := by decide +kernel
theorem dX7_behind_25 : decode cX7_behind 25 = .ok (.aload_n 0, 1) := by decide +kernel
theorem dX7_behind_26 : decode cX7_behind 26 = .ok (.iload_n 1, 1) := by decide +kernel
theorem dX7_behind_27 : decode cX7_behind 27 = .ok (.iload_n 2, 1) := by decide +kernel
theorem dX7_behind_28 : decode cX7_behind 28 = .ok (.invokevirtual 76, 3) := by decide +kernel
theorem dX7_behind_31 : decode cX7_behind 31 = .ok (.ifCond .eq 7, 3) := by decide +kernel
theorem dX7_behind_34 : decode cX7_behind 34 = .ok (.iconst 1, 1) := by decide +kernel
theorem dX7_behind_35 : decode cX7_behind 35 = .ok (.goto 4, 3) := by decide +kernel
theorem dX7_behind_38 : decode cX7_behind 38 = .ok (.iconst 0, 1) := by decide +kernel
theorem dX7_behind_39 : decode cX7_behind 39 = .ok (.ireturn, 1) := by decide +kernel
theorem dX7_frame_0 : decode cX7_frame 0 = .ok (.aload_n 0, 1) := by decide +kernel
theorem dX7_frame_1 : decode cX7_frame 1 = .ok (.iconst 0, 1) := by decide +kernel
theorem dX7_frame_2 : decode cX7_frame 2 = .ok (.putfield 1, 3) := by decide +kernel
theorem dX7_frame_5 : decode cX7_frame 5 = .ok (.iload_n 1, 1) := by decide +kernel
theorem dX7_frame_6 : decode cX7_frame 6 = .ok (.ifCond .lt 19, 3) := by decide +kernel
theorem dX7_frame_9 : decode cX7_frame 9 = .ok (.iload_n 1, 1) := by decide +kernel
theorem dX7_frame_10 : decode cX7_frame 10 = .ok (.sipush 500, 3) := by decide +kernel
theorem dX7_frame_13 : decode cX7_frame 13 = .ok (.if_icmp .gt 12, 3) := by decide +kernel
theorem dX7_frame_16 : decode cX7_frame 16 = .ok (.aload_n 0, 1) := by decide +kernel
theorem dX7_frame_17 : decode cX7_frame 17 = .ok (.getfield 80, 3) := by decide +kernel
theorem dX7_frame_20 : decode cX7_frame 20 = .ok (.bipush 12, 2) := by decide +kernel
theorem dX7_frame_22 : decode cX7_frame 22 = .ok (.if_icmp .ne 5, 3) := by decide +kernel
theorem dX7_frame_25 : decode cX7_frame 25 = .ok (.iconst (-1), 1) := by decide +kernel
theorem dX7_frame_26 : decode cX7_frame 26 = .ok (.ireturn, 1) := by decide +kernel
theorem dX7_frame_27 : decode cX7_frame 27 = .ok (.aload_n 0, 1) := by decide +kernel
theorem dX7_frame_28 : decode cX7_frame 28 = .ok (.getfield 20, 3) := by decide +kernel
theorem dX7_frame_31 : decode cX7_frame 31 = .ok (.aload_n 0, 1) := by decide +kernel
theorem dX7_frame_32 : decode cX7_frame 32 = .ok (.getfield 80, 3) := by decide +kernel
theorem dX7_frame_35 : decode cX7_frame 35 = .ok (.iload_n 1, 1) := by decide +kernel
theorem dX7_frame_36 : decode cX7_frame 36 = .ok (.iastore, 1) := by decide +kernel
theorem dX7_frame_37 : decode cX7_frame 37 = .ok (.aload_n 0, 1) := by decide +kernel
theorem dX7_frame_38 : decode cX7_frame 38 = .ok (.dup, 1) := by decide +kernel
theorem dX7_frame_39 : decode cX7_frame 39 = .ok (.getfield 80, 3) := by decide +kernel
theorem dX7_frame_42 : decode cX7_frame 42 = .ok (.iconst 1, 1) := by decide +kernel
theorem dX7_frame_43 : decode cX7_frame 43 = .ok (.iadd, 1) := by decide +kernel
theorem dX7_frame_44 : decode cX7_frame 44 = .ok (.putfield 80, 3) := by decide +kernel
theorem dX7_frame_47 : decode cX7_frame 47 = .ok (.aload_n 0, 1) := by decide +kernel
theorem dX7_frame_48 : decode cX7_frame 48 = .ok (.getfield 80, 3) := by decide +kernel
theorem dX7_frame_51 : decode cX7_frame 51 = .ok (.ireturn, 1) := by decide +kernel
theorem dX7_isTwice_0 : decode cX7_isTwice 0 = .ok (.iload_n 1, 1) := by decide +kernel
theorem dX7_isTwice_1 : decode cX7_isTwice 1 = .ok (.iconst 2, 1) := by decide +kernel
theorem dX7_isTwice_2 : decode cX7_isTwice 2 = .ok (.iload_n 2, 1) := by decide +kernel
theorem dX7_isTwice_3 : decode cX7_isTwice 3 = .ok (.imul, 1) := by decide +kernel
theorem dX7_isTwice_4 : decode cX7_isTwice 4 = .ok (.iadd, 1) := by decide +kernel
theorem dX7_isTwice_5 : decode cX7_isTwice 5 = .ok (.aload_n 0, 1) := by decide +kernel
theorem dX7_isTwice_6 : decode cX7_isTwice 6 = .ok (.getfield 80, 3) := by decide +kernel
theorem dX7_isTwice_9 : decode cX7_isTwice 9 = .ok (.if_icmp .gt 7, 3) := by decide +kernel
theorem dX7_isTwice_12 : decode cX7_isTwice 12 = .ok (.iconst 1, 1) := by decide +kernel
theorem dX7_isTwice_13 : decode cX7_isTwice 13 = .ok (.goto 4, 3) := by decide +kernel
theorem dX7_isTwice_16 : decode cX7_isTwice 16 = .ok (.iconst 0, 1) := by decide +kernel
theorem dX7_isTwice_17 : decode cX7_isTwice 17 = .ok (.istore_n 3, 1) := by decide +kernel
theorem dX7_isTwice_18 : decode cX7_isTwice 18 = .ok (.iload_n 1, 1) := by decide +kernel
theorem dX7_isTwice_19 : decode cX7_isTwice 19 = .ok (.istore 4, 2) := by decide +kernel
theorem dX7_isTwice_21 : decode cX7_isTwice 21 = .ok (.iload 4, 2) := by decide +kernel
theorem dX7_isTwice_23 : decode cX7_isTwice 23 = .ok (.iload_n 1, 1) := by decide +kernel
theorem dX7_isTwice_24 : decode cX7_isTwice 24 = .ok (.iload_n 2, 1) := by decide +kernel
theorem dX7_isTwice_25 : decode cX7_isTwice 25 = .ok (.iadd, 1) := by decide +kernel
theorem dX7_isTwice_26 : decode cX7_isTwice 26 = .ok (.if_icmp .ge 38, 3) := by decide +kernel
theorem dX7_isTwice_29 : decode cX7_isTwice 29 = .ok (.iload_n 3, 1) := by decide +kernel
theorem dX7_isTwice_30 : decode cX7_isTwice 30 = .ok (.ifCond .eq 34, 3) := by decide +kernel
theorem dX7_isTwice_33 : decode cX7_isTwice 33 = .ok (.aload_n 0, 1) := by decide +kernel
theorem dX7_isTwice_34 : decode cX7_isTwice 34 = .ok (.getfield 20, 3) := by decide +kernel
theorem dX7_isTwice_37 : decode cX7_isTwice 37 = .ok (.iload 4, 2) := by decide +kernel
theorem dX7_isTwice_39 : decode cX7_isTwice 39 = .ok (.iaload, 1) := by decide +kernel
theorem dX7_isTwice_40 : decode cX7_isTwice 40 = .ok (.aload_n 0, 1) := by decide +kernel
theorem dX7_isTwice_41 : decode cX7_isTwice 41 = .ok (.getfield 20, 3) := by decide +kernel
theorem dX7_isTwice_44 : decode cX7_isTwice 44 = .ok (.iload 4, 2) := by decide +kernel
theorem dX7_isTwice_46 : decode cX7_isTwice 46 = .ok (.iload_n 2, 1) := by decide +kernel
theorem dX7_isTwice_47 : decode cX7_isTwice 47 = .ok (.iadd, 1) := by decide +kernel
theorem dX7_isTwice_48 : decode cX7_isTwice 48 = .ok (.iaload, 1) := by decide +kernel
theorem dX7_isTwice_49 : decode cX7_isTwice 49 = .ok (.if_icmp .ne 7, 3) := by decide +kernel
theorem dX7_isTwice_52 : decode cX7_isTwice 52 = .ok (.iconst 1, 1) := by decide +kernel
theorem dX7_isTwice_53 : decode cX7_isTwice 53 = .ok (.goto 4, 3) := by decide +kernel
theorem dX7_isTwice_56 : decode cX7_isTwice 56 = .ok (.iconst 0, 1) := by decide +kernel
theorem dX7_isTwice_57 : decode cX7_isTwice 57 = .ok (.istore_n 3, 1) := by decide +kernel
theorem dX7_isTwice_58 : decode cX7_isTwice 58 = .ok (.iinc 4 1, 3) := by decide +kernel
theorem dX7_isTwice_61 : decode cX7_isTwice 61 = .ok (.goto (-40), 3) := by decide +kernel
theorem dX7_isTwice_64 : decode cX7_isTwice 64 = .ok (.iload_n 3, 1) := by decide +kernel
theorem dX7_isTwice_65 : decode cX7_isTwice 65 = .ok (.ireturn, 1) := by decide +kernel
set_option maxRecDepth 20000 in
theorem ggX7_folds_X7_isTwice : GoodIn wsX7_folds wsX7_isTwice := goodIn_r _ [7, 1, 2, 8, 9, 10, 11, 12, 13, 14, 15, 16, 17, 18, 19, 20, 21, 22, 23, 24, 25, 26, 27, 28, 29, 30, 31, 32, 33, 34, 35, 36, 37, 38] (by decide +kernel) (by decide +kernel)
set_option maxRecDepth 20000 in
theorem gX7_folds_X7_isTwice : GoodIn wsX7_folds (wsV RX7 83 RX7 yX7_isTwice wsX7_isTwice) := goodIn_app (goodIn_of _ (by decide +kernel)) ggX7_folds_X7_isTwice
theorem dX7_folds_0 : decode cX7_folds 0 = .ok (.iconst 1, 1) := by decide +kernel
theorem dX7_folds_1 : decode cX7_folds 1 = .ok (.istore_n 1, 1) := by decide +kernel
theorem dX7_folds_2 : decode cX7_folds 2 = .ok (.iload_n 1, 1) := by decide +kernel
theorem dX7_folds_3 : decode cX7_folds 3 = .ok (.iconst 3, 1) := by decide +kernel
theorem dX7_folds_4 : decode cX7_folds 4 = .ok (.if_icmp .gt 76, 3) := by decide +kernel
theorem dX7_folds_7 : decode cX7_folds 7 = .ok (.iconst 0, 1) := by decide +kernel
theorem dX7_folds_8 : decode cX7_folds 8 = .ok (.istore_n 2, 1) := by decide +kernel
theorem dX7_folds_9 : decode cX7_folds 9 = .ok (.iload_n 2, 1) := by decide +kernel
theorem dX7_folds_10 : decode cX7_folds 10 = .ok (.aload_n 0, 1) := by decide +kernel
theorem dX7_folds_11 : decode cX7_folds 11 = .ok (.getfield 80, 3) := by decide +kernel
theorem dX7_folds_14 : decode cX7_folds 14 = .ok (.if_icmp .ge 60, 3) := by decide +kernel
theorem dX7_folds_17 : decode cX7_folds 17 = .ok (.aload_n 0, 1) := by decide +kernel
theorem dX7_folds_18 : decode cX7_folds 18 = .ok (.iload_n 2, 1) := by decide +kernel
theorem dX7_folds_19 : decode cX7_folds 19 = .ok (.iload_n 1, 1) := by decide +kernel
theorem dX7_folds_20 : decode cX7_folds 20 = .ok (.invokevirtual 83, 3) := by decide +kernel
theorem dX7_folds_23 : decode cX7_folds 23 = .ok (.ifCond .eq 45, 3) := by decide +kernel
theorem dX7_folds_26 : decode cX7_folds 26 = .ok (.aload_n 0, 1) := by decide +kernel
theorem dX7_folds_27 : decode cX7_folds 27 = .ok (.dup, 1) := by decide +kernel
theorem dX7_folds_28 : decode cX7_folds 28 = .ok (.getfield 80, 3) := by decide +kernel
theorem dX7_folds_31 : decode cX7_folds 31 = .ok (.iload_n 1, 1) := by decide +kernel
theorem dX7_folds_32 : decode cX7_folds 32 = .ok (.isub, 1) := by decide +kernel
theorem dX7_folds_33 : decode cX7_folds 33 = .ok (.putfield 80, 3) := by decide +kernel
theorem dX7_folds_36 : decode cX7_folds 36 = .ok (.iload_n 2, 1) := by decide +kernel
theorem dX7_folds_37 : decode cX7_folds 37 = .ok (.istore_n 3, 1) := by decide +kernel
theorem dX7_folds_38 : decode cX7_folds 38 = .ok (.iload_n 3, 1) := by decide +kernel
theorem dX7_folds_39 : decode cX7_folds 39 = .ok (.aload_n 0, 1) := by decide +kernel
theorem dX7_folds_40 : decode cX7_folds 40 = .ok (.getfield 80, 3) := by decide +kernel
theorem dX7_folds_43 : decode cX7_folds 43 = .ok (.if_icmp .ge 23, 3) := by decide +kernel
theorem dX7_folds_46 : decode cX7_folds 46 = .ok (.aload_n 0, 1) := by decide +kernel
theorem dX7_folds_47 : decode cX7_folds 47 = .ok (.getfield 20, 3) := by decide +kernel
theorem dX7_folds_50 : decode cX7_folds 50 = .ok (.iload_n 3, 1) := by decide +kernel
theorem dX7_folds_51 : decode cX7_folds 51 = .ok (.aload_n 0, 1) := by decide +kernel
theorem dX7_folds_52 : decode cX7_folds 52 = .ok (.getfield 20, 3) := by decide +kernel
theorem dX7_folds_55 : decode cX7_folds 55 = .ok (.iload_n 3, 1) := by decide +kernel
theorem dX7_folds_56 : decode cX7_folds 56 = .ok (.iload_n 1, 1) := by decide +kernel
theorem dX7_folds_57 : decode cX7_folds 57 = .ok (.iadd, 1) := by decide +kernel
theorem dX7_folds_58 : decode cX7_folds 58 = .ok (.iaload, 1) := by decide +kernel
theorem dX7_folds_59 : decode cX7_folds 59 = .ok (.iastore, 1) := by decide +kernel
theorem dX7_folds_60 : decode cX7_folds 60 = .ok (.iinc 3 1, 3) := by decide +kernel
theorem dX7_folds_63 : decode cX7_folds 63 = .ok (.goto (-25), 3) := by decide +kernel
theorem dX7_folds_66 : decode cX7_folds 66 = .ok (.iconst 1, 1) := by decide +kernel
theorem dX7_folds_67 : decode cX7_folds 67 = .ok (.ireturn, 1) := by decide +kernel
theorem dX7_folds_68 : decode cX7_folds 68 = .ok (.iinc 2 1, 3) := by decide +kernel
theorem dX7_folds_71 : decode cX7_folds 71 = .ok (.goto (-62), 3) := by decide +kernel
theorem dX7_folds_74 : decode cX7_folds 74 = .ok (.iinc 1 1, 3) := by decide +kernel
theorem dX7_folds_77 : decode cX7_folds 77 = .ok (.goto (-75), 3) := by decide +kernel
theorem dX7_folds_80 : decode cX7_folds 80 = .ok (.iconst 0, 1) := by decide +kernel
theorem dX7_folds_81 : decode cX7_folds 81 = .ok (.ireturn, 1) := by decide +kernel
set_option maxRecDepth 20000 in
theorem ggX7_report_X7_isVersion : GoodIn wsX7_report wsX7_isVersion := goodIn_r _ [14, 15, 108, 109, 110, 111, 112, 113, 114, 115, 116, 117, 118, 119, 120, 121, 122, 123, 124, 125, 126, 127, 128, 129, 130, 131, 132, 133, 134, 135, 136, 137, 138] (by decide +kernel) (by decide +kernel)
set_option maxRecDepth 20000 in
theorem gX7_report_X7_isVersion : GoodIn wsX7_report (wsV RX7 72 RX7 yX7_isVersion wsX7_isVersion) := goodIn_app (goodIn_of _ (by decide +kernel)) ggX7_report_X7_isVersion
set_option maxRecDepth 20000 in
theorem ggX7_report_X7_folds : GoodIn wsX7_report wsX7_folds := goodIn_r _ [19, 2, 5, 20, 21, 22, 13, 23, 108, 109, 110, 111, 112, 113, 114, 115, 116, 117, 118, 119, 120, 121, 122, 123, 124, 125, 126, 127, 128, 129, 130, 131, 132, 133, 134, 135, 136, 137, 138] (by decide +kernel) (by decide +kernel)
set_option maxRecDepth 20000 in
theorem gX7_report_X7_folds : GoodIn wsX7_report (wsV RX7 89 RX7 yX7_folds wsX7_folds) := goodIn_app (goodIn_of _ (by decide +kernel)) ggX7_report_X7_folds
set_option maxRecDepth 20000 in
theorem ggX7_report_X7_settles : GoodIn wsX7_report wsX7_settles := goodIn_r _ [27, 28, 3, 29, 9, 30, 31, 32, 33, 34, 35, 13, 36, 37, 38, 39, 40, 41, 42, 43, 44, 45, 46, 47, 48, 49, 50, 6, 4, 51, 52, 53, 54, 55, 56, 57, 58, 59, 60, 61, 62, 63, 64, 65, 66, 67, 68, 69, 70, 71, 72, 73, 74, 75, 76, 77, 78, 79, 80, 81, 82, 83, 84, 85, 86, 87, 88, 89, 90, 91, 92, 93, 94, 95, 96, 97, 98, 99, 100, 101, 102, 103, 104, 105, 106, 107, 108, 109, 110, 111, 112, 113, 114, 115, 116, 117, 118, 119, 120, 121, 122, 123, 124, 125, 126, 127, 128, 129, 130, 131, 132, 133, 134, 135, 136, 137, 138] (by decide +kernel) (by decide +kernel)
set_option maxRecDepth 20000 in
theorem gX7_report_X7_settles : GoodIn wsX7_report (wsV RX7 93 RX7 yX7_settles wsX7_settles) := goodIn_app (goodIn_of _ (by decide +kernel)) ggX7_report_X7_settles
theorem dX7_report_0 : decode cX7_report 0 = .ok (.aload_n 0, 1) := by decide +kernel
theorem dX7_report_1 : decode cX7_report 1 = .ok (.iconst 0, 1) := by decide +kernel
theorem dX7_report_2 : decode cX7_report 2 = .ok (.putfield 1, 3) := by decide +kernel
theorem dX7_report_5 : decode cX7_report 5 = .ok (.aload_n 0, 1) := by decide +kernel
theorem dX7_report_6 : decode cX7_report 6 = .ok (.getfield 80, 3) := by decide +kernel
theorem dX7_report_9 : decode cX7_report 9 = .ok (.ifCond .eq 20, 3) := by decide +kernel
theorem dX7_report_12 : decode cX7_report 12 = .ok (.aload_n 0, 1) := by decide +kernel
theorem dX7_report_13 : decode cX7_report 13 = .ok (.iload_n 1, 1) := by decide +kernel
theorem dX7_report_14 : decode cX7_report 14 = .ok (.invokevirtual 72, 3) := by decide +kernel
theorem dX7_report_17 : decode cX7_report 17 = .ok (.ifCond .eq 12, 3) := by decide +kernel
theorem dX7_report_20 : decode cX7_report 20 = .ok (.aload_n 0, 1) := by decide +kernel
theorem dX7_report_21 : decode cX7_report 21 = .ok (.getfield 86, 3) := by decide +kernel
theorem dX7_report_24 : decode cX7_report 24 = .ok (.bipush 40, 2) := by decide +kernel
theorem dX7_report_26 : decode cX7_report 26 = .ok (.if_icmp .ne 5, 3) := by decide +kernel
theorem dX7_report_29 : decode cX7_report 29 = .ok (.iconst (-1), 1) := by decide +kernel
theorem dX7_report_30 : decode cX7_report 30 = .ok (.ireturn, 1) := by decide +kernel
theorem dX7_report_31 : decode cX7_report 31 = .ok (.iconst 1, 1) := by decide +kernel
theorem dX7_report_32 : decode cX7_report 32 = .ok (.istore_n 2, 1) := by decide +kernel
theorem dX7_report_33 : decode cX7_report 33 = .ok (.iload_n 2, 1) := by decide +kernel
theorem dX7_report_34 : decode cX7_report 34 = .ok (.ifCond .eq 11, 3) := by decide +kernel
theorem dX7_report_37 : decode cX7_report 37 = .ok (.aload_n 0, 1) := by decide +kernel
theorem dX7_report_38 : decode cX7_report 38 = .ok (.invokevirtual 89, 3) := by decide +kernel
theorem dX7_report_41 : decode cX7_report 41 = .ok (.istore_n 2, 1) := by decide +kernel
theorem dX7_report_42 : decode cX7_report 42 = .ok (.goto (-9), 3) := by decide +kernel
theorem dX7_report_45 : decode cX7_report 45 = .ok (.iconst 0, 1) := by decide +kernel
theorem dX7_report_46 : decode cX7_report 46 = .ok (.istore_n 3, 1) := by decide +kernel
theorem dX7_report_47 : decode cX7_report 47 = .ok (.iload_n 3, 1) := by decide +kernel
theorem dX7_report_48 : decode cX7_report 48 = .ok (.aload_n 0, 1) := by decide +kernel
theorem dX7_report_49 : decode cX7_report 49 = .ok (.getfield 80, 3) := by decide +kernel
theorem dX7_report_52 : decode cX7_report 52 = .ok (.if_icmp .ge 29, 3) := by decide +kernel
theorem dX7_report_55 : decode cX7_report 55 = .ok (.aload_n 0, 1) := by decide +kernel
theorem dX7_report_56 : decode cX7_report 56 = .ok (.getfield 23, 3) := by decide +kernel
theorem dX7_report_59 : decode cX7_report 59 = .ok (.bipush 12, 2) := by decide +kernel
theorem dX7_report_61 : decode cX7_report 61 = .ok (.aload_n 0, 1) := by decide +kernel
theorem dX7_report_62 : decode cX7_report 62 = .ok (.getfield 86, 3) := by decide +kernel
theorem dX7_report_65 : decode cX7_report 65 = .ok (.imul, 1) := by decide +kernel
theorem dX7_report_66 : decode cX7_report 66 = .ok (.iload_n 3, 1) := by decide +kernel
theorem dX7_report_67 : decode cX7_report 67 = .ok (.iadd, 1) := by decide +kernel
theorem dX7_report_68 : decode cX7_report 68 = .ok (.aload_n 0, 1) := by decide +kernel
theorem dX7_report_69 : decode cX7_report 69 = .ok (.getfield 20, 3) := by decide +kernel
theorem dX7_report_72 : decode cX7_report 72 = .ok (.iload_n 3, 1) := by decide +kernel
theorem dX7_report_73 : decode cX7_report 73 = .ok (.iaload, 1) := by decide +kernel
theorem dX7_report_74 : decode cX7_report 74 = .ok (.iastore, 1) := by decide +kernel
theorem dX7_report_75 : decode cX7_report 75 = .ok (.iinc 3 1, 3) := by decide +kernel
theorem dX7_report_78 : decode cX7_report 78 = .ok (.goto (-31), 3) := by decide +kernel
theorem dX7_report_81 : decode cX7_report 81 = .ok (.aload_n 0, 1) := by decide +kernel
theorem dX7_report_82 : decode cX7_report 82 = .ok (.getfield 26, 3) := by decide +kernel
theorem dX7_report_85 : decode cX7_report 85 = .ok (.aload_n 0, 1) := by decide +kernel
theorem dX7_report_86 : decode cX7_report 86 = .ok (.getfield 86, 3) := by decide +kernel
theorem dX7_report_89 : decode cX7_report 89 = .ok (.aload_n 0, 1) := by decide +kernel
theorem dX7_report_90 : decode cX7_report 90 = .ok (.getfield 80, 3) := by decide +kernel
theorem dX7_report_93 : decode cX7_report 93 = .ok (.iastore, 1) := by decide +kernel
theorem dX7_report_94 : decode cX7_report 94 = .ok (.aload_n 0, 1) := by decide +kernel
theorem dX7_report_95 : decode cX7_report 95 = .ok (.getfield 29, 3) := by decide +kernel
theorem dX7_report_98 : decode cX7_report 98 = .ok (.aload_n 0, 1) := by decide +kernel
theorem dX7_report_99 : decode cX7_report 99 = .ok (.getfield 86, 3) := by decide +kernel
theorem dX7_report_102 : decode cX7_report 102 = .ok (.iload_n 1, 1) := by decide +kernel
theorem dX7_report_103 : decode cX7_report 103 = .ok (.iastore, 1) := by decide +kernel
theorem dX7_report_104 : decode cX7_report 104 = .ok (.aload_n 0, 1) := by decide +kernel
theorem dX7_report_105 : decode cX7_report 105 = .ok (.getfield 32, 3) := by decide +kernel
theorem dX7_report_108 : decode cX7_report 108 = .ok (.aload_n 0, 1) := by decide +kernel
theorem dX7_report_109 : decode cX7_report 109 = .ok (.getfield 86, 3) := by decide +kernel
theorem dX7_report_112 : decode cX7_report 112 = .ok (.iconst (-1), 1) := by decide +kernel
theorem dX7_report_113 : decode cX7_report 113 = .ok (.iastore, 1) := by decide +kernel
theorem dX7_report_114 : decode cX7_report 114 = .ok (.aload_n 0, 1) := by decide +kernel
theorem dX7_report_115 : decode cX7_report 115 = .ok (.getfield 35, 3) := by decide +kernel
theorem dX7_report_118 : decode cX7_report 118 = .ok (.aload_n 0, 1) := by decide +kernel
theorem dX7_report_119 : decode cX7_report 119 = .ok (.getfield 86, 3) := by decide +kernel
theorem dX7_report_122 : decode cX7_report 122 = .ok (.aload_n 0, 1) := by decide +kernel
theorem dX7_report_123 : decode cX7_report 123 = .ok (.getfield 86, 3) := by decide +kernel
theorem dX7_report_126 : decode cX7_report 126 = .ok (.iastore, 1) := by decide +kernel
theorem dX7_report_127 : decode cX7_report 127 = .ok (.aload_n 0, 1) := by decide +kernel
theorem dX7_report_128 : decode cX7_report 128 = .ok (.iconst 0, 1) := by decide +kernel
theorem dX7_report_129 : decode cX7_report 129 = .ok (.putfield 80, 3) := by decide +kernel
theorem dX7_report_132 : decode cX7_report 132 = .ok (.aload_n 0, 1) := by decide +kernel
theorem dX7_report_133 : decode cX7_report 133 = .ok (.dup, 1) := by decide +kernel
theorem dX7_report_134 : decode cX7_report 134 = .ok (.getfield 86, 3) := by decide +kernel
theorem dX7_report_137 : decode cX7_report 137 = .ok (.iconst 1, 1) := by decide +kernel
theorem dX7_report_138 : decode cX7_report 138 = .ok (.iadd, 1) := by decide +kernel
theorem dX7_report_139 : decode cX7_report 139 = .ok (.putfield 86, 3) := by decide +kernel
theorem dX7_report_142 : decode cX7_report 142 = .ok (.aload_n 0, 1) := by decide +kernel
theorem dX7_report_143 : decode cX7_report 143 = .ok (.invokevirtual 93, 3) := by decide +kernel
theorem dX7_report_146 : decode cX7_report 146 = .ok (.aload_n 0, 1) := by decide +kernel
theorem dX7_report_147 : decode cX7_report 147 = .ok (.getfield 86, 3) := by decide +kernel
theorem dX7_report_150 : decode cX7_report 150 = .ok (.iconst 1, 1) := by decide +kernel
theorem dX7_report_151 : decode cX7_report 151 = .ok (.isub, 1) := by decide +kernel
theorem dX7_report_152 : decode cX7_report 152 = .ok (.ireturn, 1) := by decide +kernel
theorem dX7_isReport_0 : decode cX7_isReport 0 = .ok (.iload_n 1, 1) := by decide +kernel
theorem dX7_isReport_1 : decode cX7_isReport 1 = .ok (.ifCond .lt 15, 3) := by decide +kernel
theorem dX7_isReport_4 : decode cX7_isReport 4 = .ok (.iload_n 1, 1) := by decide +kernel
theorem dX7_isReport_5 : decode cX7_isReport 5 = .ok (.aload_n 0, 1) := by decide +kernel
theorem dX7_isReport_6 : decode cX7_isReport 6 = .ok (.getfield 86, 3) := by decide +kernel
theorem dX7_isReport_9 : decode cX7_isReport 9 = .ok (.if_icmp .ge 7, 3) := by decide +kernel
theorem dX7_isReport_12 : decode cX7_isReport 12 = .ok (.iconst 1, 1) := by decide +kernel
theorem dX7_isReport_13 : decode cX7_isReport 13 = .ok (.goto 4, 3) := by decide +kernel
theorem dX7_isReport_16 : decode cX7_isReport 16 = .ok (.iconst 0, 1) := by decide +kernel
theorem dX7_isReport_17 : decode cX7_isReport 17 = .ok (.ireturn, 1) := by decide +kernel
theorem dX7_stands_0 : decode cX7_stands 0 = .ok (.iconst 0, 1) := by decide +kernel
theorem dX7_stands_1 : decode cX7_stands 1 = .ok (.istore_n 3, 1) := by decide +kernel
theorem dX7_stands_2 : decode cX7_stands 2 = .ok (.iconst 0, 1) := by decide +kernel
theorem dX7_stands_3 : decode cX7_stands 3 = .ok (.istore 4, 2) := by decide +kernel
theorem dX7_stands_5 : decode cX7_stands 5 = .ok (.iload 4, 2) := by decide +kernel
theorem dX7_stands_7 : decode cX7_stands 7 = .ok (.aload_n 0, 1) := by decide +kernel
theorem dX7_stands_8 : decode cX7_stands 8 = .ok (.getfield 26, 3) := by decide +kernel
theorem dX7_stands_11 : decode cX7_stands 11 = .ok (.iload_n 2, 1) := by decide +kernel
theorem dX7_stands_12 : decode cX7_stands 12 = .ok (.iaload, 1) := by decide +kernel
theorem dX7_stands_13 : decode cX7_stands 13 = .ok (.if_icmp .ge 35, 3) := by decide +kernel
theorem dX7_stands_16 : decode cX7_stands 16 = .ok (.iload_n 3, 1) := by decide +kernel
theorem dX7_stands_17 : decode cX7_stands 17 = .ok (.ifCond .ne 19, 3) := by decide +kernel
theorem dX7_stands_20 : decode cX7_stands 20 = .ok (.aload_n 0, 1) := by decide +kernel
theorem dX7_stands_21 : decode cX7_stands 21 = .ok (.getfield 23, 3) := by decide +kernel
theorem dX7_stands_24 : decode cX7_stands 24 = .ok (.bipush 12, 2) := by decide +kernel
theorem dX7_stands_26 : decode cX7_stands 26 = .ok (.iload_n 2, 1) := by decide +kernel
theorem dX7_stands_27 : decode cX7_stands 27 = .ok (.imul, 1) := by decide +kernel
theorem dX7_stands_28 : decode cX7_stands 28 = .ok (.iload 4, 2) := by decide +kernel
theorem dX7_stands_30 : decode cX7_stands 30 = .ok (.iadd, 1) := by decide +kernel
theorem dX7_stands_31 : decode cX7_stands 31 = .ok (.iaload, 1) := by decide +kernel
theorem dX7_stands_32 : decode cX7_stands 32 = .ok (.iload_n 1, 1) := by decide +kernel
theorem dX7_stands_33 : decode cX7_stands 33 = .ok (.if_icmp .ne 7, 3) := by decide +kernel
theorem dX7_stands_36 : decode cX7_stands 36 = .ok (.iconst 1, 1) := by decide +kernel
theorem dX7_stands_37 : decode cX7_stands 37 = .ok (.goto 4, 3) := by decide +kernel
theorem dX7_stands_40 : decode cX7_stands 40 = .ok (.iconst 0, 1) := by decide +kernel
theorem dX7_stands_41 : decode cX7_stands 41 = .ok (.istore_n 3, 1) := by decide +kernel
theorem dX7_stands_42 : decode cX7_stands 42 = .ok (.iinc 4 1, 3) := by decide +kernel
theorem dX7_stands_45 : decode cX7_stands 45 = .ok (.goto (-40), 3) := by decide +kernel
theorem dX7_stands_48 : decode cX7_stands 48 = .ok (.iload_n 3, 1) := by decide +kernel
theorem dX7_stands_49 : decode cX7_stands 49 = .ok (.ireturn, 1) := by decide +kernel
set_option maxRecDepth 20000 in
theorem ggX7_isCommon_X7_stands : GoodIn wsX7_isCommon wsX7_stands := goodIn_r _ [6, 7, 8, 9, 10, 11, 12, 13, 14, 15, 16, 17, 18, 19, 20, 21, 22, 23, 24, 25, 26, 27, 28, 29, 30, 31, 32, 33, 34, 35, 36, 37, 38, 39] (by decide +kernel) (by decide +kernel)
set_option maxRecDepth 20000 in
theorem gX7_isCommon_X7_stands : GoodIn wsX7_isCommon (wsV RX7 96 RX7 yX7_stands wsX7_stands) := goodIn_app (goodIn_of _ (by decide +kernel)) ggX7_isCommon_X7_stands
theorem dX7_isCommon_0 : decode cX7_isCommon 0 = .ok (.iload_n 1, 1) := by decide +kernel
theorem dX7_isCommon_1 : decode cX7_isCommon 1 = .ok (.ifCond .le 11, 3) := by decide +kernel
theorem dX7_isCommon_4 : decode cX7_isCommon 4 = .ok (.aload_n 0, 1) := by decide +kernel
theorem dX7_isCommon_5 : decode cX7_isCommon 5 = .ok (.getfield 86, 3) := by decide +kernel
theorem dX7_isCommon_8 : decode cX7_isCommon 8 = .ok (.iconst 5, 1) := by decide +kernel
theorem dX7_isCommon_9 : decode cX7_isCommon 9 = .ok (.if_icmp .ge 5, 3) := by decide +kernel
theorem dX7_isCommon_12 : decode cX7_isCommon 12 = .ok (.iconst 0, 1) := by decide +kernel
theorem dX7_isCommon_13 : decode cX7_isCommon 13 = .ok (.ireturn, 1) := by decide +kernel
theorem dX7_isCommon_14 : decode cX7_isCommon 14 = .ok (.iconst 0, 1) := by decide +kernel
theorem dX7_isCommon_15 : decode cX7_isCommon 15 = .ok (.istore_n 2, 1) := by decide +kernel
theorem dX7_isCommon_16 : decode cX7_isCommon 16 = .ok (.iconst 0, 1) := by decide +kernel
theorem dX7_isCommon_17 : decode cX7_isCommon 17 = .ok (.istore_n 3, 1) := by decide +kernel
theorem dX7_isCommon_18 : decode cX7_isCommon 18 = .ok (.iload_n 3, 1) := by decide +kernel
theorem dX7_isCommon_19 : decode cX7_isCommon 19 = .ok (.aload_n 0, 1) := by decide +kernel
theorem dX7_isCommon_20 : decode cX7_isCommon 20 = .ok (.getfield 86, 3) := by decide +kernel
theorem dX7_isCommon_23 : decode cX7_isCommon 23 = .ok (.if_icmp .ge 26, 3) := by decide +kernel
theorem dX7_isCommon_26 : decode cX7_isCommon 26 = .ok (.iload_n 2, 1) := by decide +kernel
theorem dX7_isCommon_27 : decode cX7_isCommon 27 = .ok (.aload_n 0, 1) := by decide +kernel
theorem dX7_isCommon_28 : decode cX7_isCommon 28 = .ok (.iload_n 1, 1) := by decide +kernel
theorem dX7_isCommon_29 : decode cX7_isCommon 29 = .ok (.iload_n 3, 1) := by decide +kernel
theorem dX7_isCommon_30 : decode cX7_isCommon 30 = .ok (.invokevirtual 96, 3) := by decide +kernel
theorem dX7_isCommon_33 : decode cX7_isCommon 33 = .ok (.ifCond .eq 7, 3) := by decide +kernel
theorem dX7_isCommon_36 : decode cX7_isCommon 36 = .ok (.iconst 1, 1) := by decide +kernel
theorem dX7_isCommon_37 : decode cX7_isCommon 37 = .ok (.goto 4, 3) := by decide +kernel
theorem dX7_isCommon_40 : decode cX7_isCommon 40 = .ok (.iconst 0, 1) := by decide +kernel
theorem dX7_isCommon_41 : decode cX7_isCommon 41 = .ok (.iadd, 1) := by decide +kernel
theorem dX7_isCommon_42 : decode cX7_isCommon 42 = .ok (.istore_n 2, 1) := by decide +kernel
theorem dX7_isCommon_43 : decode cX7_isCommon 43 = .ok (.iinc 3 1, 3) := by decide +kernel
theorem dX7_isCommon_46 : decode cX7_isCommon 46 = .ok (.goto (-28), 3) := by decide +kernel
theorem dX7_isCommon_49 : decode cX7_isCommon 49 = .ok (.iconst 5, 1) := by decide +kernel
theorem dX7_isCommon_50 : decode cX7_isCommon 50 = .ok (.iload_n 2, 1) := by decide +kernel
theorem dX7_isCommon_51 : decode cX7_isCommon 51 = .ok (.imul, 1) := by decide +kernel
theorem dX7_isCommon_52 : decode cX7_isCommon 52 = .ok (.iconst 4, 1) := by decide +kernel
theorem dX7_isCommon_53 : decode cX7_isCommon 53 = .ok (.aload_n 0, 1) := by decide +kernel
theorem dX7_isCommon_54 : decode cX7_isCommon 54 = .ok (.getfield 86, 3) := by decide +kernel
theorem dX7_isCommon_57 : decode cX7_isCommon 57 = .ok (.imul, 1) := by decide +kernel
theorem dX7_isCommon_58 : decode cX7_isCommon 58 = .ok (.if_icmp .lt 7, 3) := by decide +kernel
theorem dX7_isCommon_61 : decode cX7_isCommon 61 = .ok (.iconst 1, 1) := by decide +kernel
theorem dX7_isCommon_62 : decode cX7_isCommon 62 = .ok (.goto 4, 3) := by decide +kernel
theorem dX7_isCommon_65 : decode cX7_isCommon 65 = .ok (.iconst 0, 1) := by decide +kernel
theorem dX7_isCommon_66 : decode cX7_isCommon 66 = .ok (.ireturn, 1) := by decide +kernel
set_option maxRecDepth 20000 in
theorem ggX7_findCommon_X7_isCommon : GoodIn wsX7_findCommon wsX7_isCommon := goodIn_r _ [6, 7, 8, 9, 10, 5, 11, 12, 13, 14, 15, 16, 17, 18, 19, 20, 21, 22, 23, 24, 25, 26, 27, 28, 29, 30, 31, 32, 33, 34, 35, 36, 37, 38, 39, 40, 41, 42, 43, 44] (by decide +kernel) (by decide +kernel)
set_option maxRecDepth 20000 in
theorem gX7_findCommon_X7_isCommon : GoodIn wsX7_findCommon (wsV RX7 99 RX7 yX7_isCommon wsX7_isCommon) := goodIn_app (goodIn_of _ (by decide +kernel)) ggX7_findCommon_X7_isCommon
theorem dX7_findCommon_0 : decode cX7_findCommon 0 = .ok (.iconst 0, 1) := by decide +kernel
theorem dX7_findCommon_1 : decode cX7_findCommon 1 = .ok (.istore_n 1, 1) := by decide +kernel
theorem dX7_findCommon_2 : decode cX7_findCommon 2 = .ok (.iload_n 1, 1) := by decide +kernel
theorem dX7_findCommon_3 : decode cX7_findCommon 3 = .ok (.sipush 500, 3) := by decide +kernel
theorem dX7_findCommon_6 : decode cX7_findCommon 6 = .ok (.if_icmp .gt 20, 3) := by decide +kernel
theorem dX7_findCommon_9 : decode cX7_findCommon 9 = .ok (.aload_n 0, 1) := by decide +kernel
theorem dX7_findCommon_10 : decode cX7_findCommon 10 = .ok (.getfield 50, 3) := by decide +kernel
theorem dX7_findCommon_13 : decode cX7_findCommon 13 = .ok (.iload_n 1, 1) := by decide +kernel
theorem dX7_findCommon_14 : decode cX7_findCommon 14 = .ok (.aload_n 0, 1) := by decide +kernel
theorem dX7_findCommon_15 : decode cX7_findCommon 15 = .ok (.iload_n 1, 1) := by decide +kernel
theorem dX7_findCommon_16 : decode cX7_findCommon 16 = .ok (.invokevirtual 99, 3) := by decide +kernel
theorem dX7_findCommon_19 : decode cX7_findCommon 19 = .ok (.bastore, 1) := by decide +kernel
theorem dX7_findCommon_20 : decode cX7_findCommon 20 = .ok (.iinc 1 1, 3) := by decide +kernel
theorem dX7_findCommon_23 : decode cX7_findCommon 23 = .ok (.goto (-21), 3) := by decide +kernel
theorem dX7_findCommon_26 : decode cX7_findCommon 26 = .ok (.return_, 1) := by decide +kernel
theorem dX7_withoutCommon_0 : decode cX7_withoutCommon 0 = .ok (.iconst 0, 1) := by decide +kernel
theorem dX7_withoutCommon_1 : decode cX7_withoutCommon 1 = .ok (.istore_n 3, 1) := by decide +kernel
theorem dX7_withoutCommon_2 : decode cX7_withoutCommon 2 = .ok (.iconst 0, 1) := by decide +kernel
theorem dX7_withoutCommon_3 : decode cX7_withoutCommon 3 = .ok (.istore 4, 2) := by decide +kernel
theorem dX7_withoutCommon_5 : decode cX7_withoutCommon 5 = .ok (.iload 4, 2) := by decide +kernel
theorem dX7_withoutCommon_7 : decode cX7_withoutCommon 7 = .ok (.aload_n 0, 1) := by decide +kernel
theorem dX7_withoutCommon_8 : decode cX7_withoutCommon 8 = .ok (.getfield 26, 3) := by decide +kernel
theorem dX7_withoutCommon_11 : decode cX7_withoutCommon 11 = .ok (.iload_n 1, 1) := by decide +kernel
theorem dX7_withoutCommon_12 : decode cX7_withoutCommon 12 = .ok (.iaload, 1) := by decide +kernel
theorem dX7_withoutCommon_13 : decode cX7_withoutCommon 13 = .ok (.if_icmp .ge 41, 3) := by decide +kernel
theorem dX7_withoutCommon_16 : decode cX7_withoutCommon 16 = .ok (.aload_n 0, 1) := by decide +kernel
theorem dX7_withoutCommon_17 : decode cX7_withoutCommon 17 = .ok (.getfield 23, 3) := by decide +kernel
theorem dX7_withoutCommon_20 : decode cX7_withoutCommon 20 = .ok (.bipush 12, 2) := by decide +kernel
theorem dX7_withoutCommon_22 : decode cX7_withoutCommon 22 = .ok (.iload_n 1, 1) := by decide +kernel
theorem dX7_withoutCommon_23 : decode cX7_withoutCommon 23 = .ok (.imul, 1) := by decide +kernel
theorem dX7_withoutCommon_24 : decode cX7_withoutCommon 24 = .ok (.iload 4, 2) := by decide +kernel
theorem dX7_withoutCommon_26 : decode cX7_withoutCommon 26 = .ok (.iadd, 1) := by decide +kernel
theorem dX7_withoutCommon_27 : decode cX7_withoutCommon 27 = .ok (.iaload, 1) := by decide +kernel
theorem dX7_withoutCommon_28 : decode cX7_withoutCommon 28 = .ok (.istore 5, 2) := by decide +kernel
theorem dX7_withoutCommon_30 : decode cX7_withoutCommon 30 = .ok (.aload_n 0, 1) := by decide +kernel
theorem dX7_withoutCommon_31 : decode cX7_withoutCommon 31 = .ok (.getfield 50, 3) := by decide +kernel
theorem dX7_withoutCommon_34 : decode cX7_withoutCommon 34 = .ok (.iload 5, 2) := by decide +kernel
theorem dX7_withoutCommon_36 : decode cX7_withoutCommon 36 = .ok (.baload, 1) := by decide +kernel
theorem dX7_withoutCommon_37 : decode cX7_withoutCommon 37 = .ok (.ifCond .ne 11, 3) := by decide +kernel
theorem dX7_withoutCommon_40 : decode cX7_withoutCommon 40 = .ok (.aload_n 2, 1) := by decide +kernel
theorem dX7_withoutCommon_41 : decode cX7_withoutCommon 41 = .ok (.iload_n 3, 1) := by decide +kernel
theorem dX7_withoutCommon_42 : decode cX7_withoutCommon 42 = .ok (.iload 5, 2) := by decide +kernel
theorem dX7_withoutCommon_44 : decode cX7_withoutCommon 44 = .ok (.iastore, 1) := by decide +kernel
theorem dX7_withoutCommon_45 : decode cX7_withoutCommon 45 = .ok (.iinc 3 1, 3) := by decide +kernel
theorem dX7_withoutCommon_48 : decode cX7_withoutCommon 48 = .ok (.iinc 4 1, 3) := by decide +kernel
theorem dX7_withoutCommon_51 : decode cX7_withoutCommon 51 = .ok (.goto (-46), 3) := by decide +kernel
theorem dX7_withoutCommon_54 : decode cX7_withoutCommon 54 = .ok (.iload_n 3, 1) := by decide +kernel
theorem dX7_withoutCommon_55 : decode cX7_withoutCommon 55 = .ok (.ireturn, 1) := by decide +kernel
theorem dX7_alone_0 : decode cX7_alone 0 = .ok (.iload_n 0, 1) := by decide +kernel
theorem dX7_alone_1 : decode cX7_alone 1 = .ok (.ifCond .ne 7, 3) := by decide +kernel
theorem dX7_alone_4 : decode cX7_alone 4 = .ok (.iconst 1, 1) := by decide +kernel
theorem dX7_alone_5 : decode cX7_alone 5 = .ok (.goto 4, 3) := by decide +kernel
theorem dX7_alone_8 : decode cX7_alone 8 = .ok (.iconst 2, 1) := by decide +kernel
theorem dX7_alone_9 : decode cX7_alone 9 = .ok (.ireturn, 1) := by decide +kernel
theorem dX7_change_0 : decode cX7_change 0 = .ok (.iload_n 0, 1) := by decide +kernel
theorem dX7_change_1 : decode cX7_change 1 = .ok (.iload_n 1, 1) := by decide +kernel
theorem dX7_change_2 : decode cX7_change 2 = .ok (.if_icmp .ne 7, 3) := by decide +kernel
theorem dX7_change_5 : decode cX7_change 5 = .ok (.iconst 0, 1) := by decide +kernel
theorem dX7_change_6 : decode cX7_change 6 = .ok (.goto 16, 3) := by decide +kernel
theorem dX7_change_9 : decode cX7_change 9 = .ok (.iload_n 0, 1) := by decide +kernel
theorem dX7_change_10 : decode cX7_change 10 = .ok (.ifCond .eq 7, 3) := by decide +kernel
theorem dX7_change_13 : decode cX7_change 13 = .ok (.iload_n 1, 1) := by decide +kernel
theorem dX7_change_14 : decode cX7_change 14 = .ok (.ifCond .ne 7, 3) := by decide +kernel
theorem dX7_change_17 : decode cX7_change 17 = .ok (.iconst 2, 1) := by decide +kernel
theorem dX7_change_18 : decode cX7_change 18 = .ok (.goto 4, 3) := by decide +kernel
theorem dX7_change_21 : decode cX7_change 21 = .ok (.iconst 3, 1) := by decide +kernel
theorem dX7_change_22 : decode cX7_change 22 = .ok (.ireturn, 1) := by decide +kernel
set_option maxRecDepth 20000 in
theorem ggX7_turns_X7_withoutCommon : GoodIn wsX7_turns wsX7_withoutCommon := goodIn_r _ [10, 11, 12, 13, 23, 24, 25, 26, 27, 28, 29, 30, 31, 32, 33, 34, 35, 36, 37, 38, 39, 40, 41, 42, 43, 44, 45, 46, 47, 48, 49, 50, 51, 52, 53] (by decide +kernel) (by decide +kernel)
set_option maxRecDepth 20000 in
theorem gX7_turns_X7_withoutCommon : GoodIn wsX7_turns (wsV RX7 102 RX7 yX7_withoutCommon wsX7_withoutCommon) := goodIn_app (goodIn_of _ (by decide +kernel)) ggX7_turns_X7_withoutCommon
set_option maxRecDepth 20000 in
theorem ggX7_turns_X7_alone : GoodIn wsX7_turns wsX7_alone := goodIn_r _ [16] (by decide +kernel) (by decide +kernel)
set_option maxRecDepth 20000 in
theorem gX7_turns_X7_alone : GoodIn wsX7_turns (va_wsS RX7 112 yX7_alone wsX7_alone) := goodIn_app (goodIn_of _ (by decide +kernel)) ggX7_turns_X7_alone
set_option maxRecDepth 20000 in
theorem ggX7_turns_X7_least : GoodIn wsX7_turns wsX7_least := goodIn_r _ [19] (by decide +kernel) (by decide +kernel)
set_option maxRecDepth 20000 in
theorem gX7_turns_X7_least : GoodIn wsX7_turns (va_wsS RX7 116 yX7_least wsX7_least) := goodIn_app (goodIn_of _ (by decide +kernel)) ggX7_turns_X7_least
set_option maxRecDepth 20000 in
theorem ggX7_turns_X7_change : GoodIn wsX7_turns wsX7_change := goodIn_r _ [22] (by decide +kernel) (by decide +kernel)
set_option maxRecDepth 20000 in
theorem gX7_turns_X7_change : GoodIn wsX7_turns (va_wsS RX7 120 yX7_change wsX7_change) := goodIn_app (goodIn_of _ (by decide +kernel)) ggX7_turns_X7_change
theorem dX7_turns_0 : decode cX7_turns 0 = .ok (.aload_n 0, 1) := by decide +kernel
theorem dX7_turns_1 : decode cX7_turns 1 = .ok (.aload_n 0, 1) := by decide +kernel
theorem dX7_turns_2 : decode cX7_turns 2 = .ok (.iload_n 1, 1) := by decide +kernel
theorem dX7_turns_3 : decode cX7_turns 3 = .ok (.aload_n 0, 1) := by decide +kernel
theorem dX7_turns_4 : decode cX7_turns 4 = .ok (.getfield 38, 3) := by decide +kernel
theorem dX7_turns_7 : decode cX7_turns 7 = .ok (.invokevirtual 102, 3) := by decide +kernel
theorem dX7_turns_10 : decode cX7_turns 10 = .ok (.putfield 106, 3) := by decide +kernel
theorem dX7_turns_13 : decode cX7_turns 13 = .ok (.aload_n 0, 1) := by decide +kernel
theorem dX7_turns_14 : decode cX7_turns 14 = .ok (.aload_n 0, 1) := by decide +kernel
theorem dX7_turns_15 : decode cX7_turns 15 = .ok (.iload_n 2, 1) := by decide +kernel
theorem dX7_turns_16 : decode cX7_turns 16 = .ok (.aload_n 0, 1) := by decide +kernel
theorem dX7_turns_17 : decode cX7_turns 17 = .ok (.getfield 41, 3) := by decide +kernel
theorem dX7_turns_20 : decode cX7_turns 20 = .ok (.invokevirtual 102, 3) := by decide +kernel
theorem dX7_turns_23 : decode cX7_turns 23 = .ok (.putfield 109, 3) := by decide +kernel
theorem dX7_turns_26 : decode cX7_turns 26 = .ok (.aload_n 0, 1) := by decide +kernel
theorem dX7_turns_27 : decode cX7_turns 27 = .ok (.getfield 44, 3) := by decide +kernel
theorem dX7_turns_30 : decode cX7_turns 30 = .ok (.iconst 0, 1) := by decide +kernel
theorem dX7_turns_31 : decode cX7_turns 31 = .ok (.iconst 0, 1) := by decide +kernel
theorem dX7_turns_32 : decode cX7_turns 32 = .ok (.iastore, 1) := by decide +kernel
theorem dX7_turns_33 : decode cX7_turns 33 = .ok (.iconst 0, 1) := by decide +kernel
theorem dX7_turns_34 : decode cX7_turns 34 = .ok (.istore_n 3, 1) := by decide +kernel
theorem dX7_turns_35 : decode cX7_turns 35 = .ok (.iload_n 3, 1) := by decide +kernel
theorem dX7_turns_36 : decode cX7_turns 36 = .ok (.aload_n 0, 1) := by decide +kernel
theorem dX7_turns_37 : decode cX7_turns 37 = .ok (.getfield 106, 3) := by decide +kernel
theorem dX7_turns_40 : decode cX7_turns 40 = .ok (.if_icmp .gt 186, 3) := by decide +kernel
theorem dX7_turns_43 : decode cX7_turns 43 = .ok (.iconst 0, 1) := by decide +kernel
theorem dX7_turns_44 : decode cX7_turns 44 = .ok (.istore 4, 2) := by decide +kernel
theorem dX7_turns_46 : decode cX7_turns 46 = .ok (.iload 4, 2) := by decide +kernel
theorem dX7_turns_48 : decode cX7_turns 48 = .ok (.aload_n 0, 1) := by decide +kernel
theorem dX7_turns_49 : decode cX7_turns 49 = .ok (.getfield 109, 3) := by decide +kernel
theorem dX7_turns_52 : decode cX7_turns 52 = .ok (.if_icmp .gt 168, 3) := by decide +kernel
theorem dX7_turns_55 : decode cX7_turns 55 = .ok (.iload_n 3, 1) := by decide +kernel
theorem dX7_turns_56 : decode cX7_turns 56 = .ok (.iload 4, 2) := by decide +kernel
theorem dX7_turns_58 : decode cX7_turns 58 = .ok (.iadd, 1) := by decide +kernel
theorem dX7_turns_59 : decode cX7_turns 59 = .ok (.ifCond .ne 7, 3) := by decide +kernel
theorem dX7_turns_62 : decode cX7_turns 62 = .ok (.iconst 0, 1) := by decide +kernel
theorem dX7_turns_63 : decode cX7_turns 63 = .ok (.goto 6, 3) := by decide +kernel
theorem dX7_turns_66 : decode cX7_turns 66 = .ok (.sipush 1000, 3) := by decide +kernel
theorem dX7_turns_69 : decode cX7_turns 69 = .ok (.istore 5, 2) := by decide +kernel
theorem dX7_turns_71 : decode cX7_turns 71 = .ok (.iload_n 3, 1) := by decide +kernel
theorem dX7_turns_72 : decode cX7_turns 72 = .ok (.ifCond .le 36, 3) := by decide +kernel
theorem dX7_turns_75 : decode cX7_turns 75 = .ok (.iload 5, 2) := by decide +kernel
theorem dX7_turns_77 : decode cX7_turns 77 = .ok (.aload_n 0, 1) := by decide +kernel
theorem dX7_turns_78 : decode cX7_turns 78 = .ok (.getfield 44, 3) := by decide +kernel
theorem dX7_turns_81 : decode cX7_turns 81 = .ok (.bipush 13, 2) := by decide +kernel
theorem dX7_turns_83 : decode cX7_turns 83 = .ok (.iload_n 3, 1) := by decide +kernel
theorem dX7_turns_84 : decode cX7_turns 84 = .ok (.iconst 1, 1) := by decide +kernel
theorem dX7_turns_85 : decode cX7_turns 85 = .ok (.isub, 1) := by decide +kernel
theorem dX7_turns_86 : decode cX7_turns 86 = .ok (.imul, 1) := by decide +kernel
theorem dX7_turns_87 : decode cX7_turns 87 = .ok (.iload 4, 2) := by decide +kernel
theorem dX7_turns_89 : decode cX7_turns 89 = .ok (.iadd, 1) := by decide +kernel
theorem dX7_turns_90 : decode cX7_turns 90 = .ok (.iaload, 1) := by decide +kernel
theorem dX7_turns_91 : decode cX7_turns 91 = .ok (.aload_n 0, 1) := by decide +kernel
theorem dX7_turns_92 : decode cX7_turns 92 = .ok (.getfield 38, 3) := by decide +kernel
theorem dX7_turns_95 : decode cX7_turns 95 = .ok (.iload_n 3, 1) := by decide +kernel
theorem dX7_turns_96 : decode cX7_turns 96 = .ok (.iconst 1, 1) := by decide +kernel
theorem dX7_turns_97 : decode cX7_turns 97 = .ok (.isub, 1) := by decide +kernel
theorem dX7_turns_98 : decode cX7_turns 98 = .ok (.iaload, 1) := by decide +kernel
theorem dX7_turns_99 : decode cX7_turns 99 = .ok (.invokestatic 112, 3) := by decide +kernel
theorem dX7_turns_102 : decode cX7_turns 102 = .ok (.iadd, 1) := by decide +kernel
theorem dX7_turns_103 : decode cX7_turns 103 = .ok (.invokestatic 116, 3) := by decide +kernel
theorem dX7_turns_106 : decode cX7_turns 106 = .ok (.istore 5, 2) := by decide +kernel
theorem dX7_turns_108 : decode cX7_turns 108 = .ok (.iload 4, 2) := by decide +kernel
theorem dX7_turns_110 : decode cX7_turns 110 = .ok (.ifCond .le 37, 3) := by decide +kernel
theorem dX7_turns_113 : decode cX7_turns 113 = .ok (.iload 5, 2) := by decide +kernel
theorem dX7_turns_115 : decode cX7_turns 115 = .ok (.aload_n 0, 1) := by decide +kernel
theorem dX7_turns_116 : decode cX7_turns 116 = .ok (.getfield 44, 3) := by decide +kernel
theorem dX7_turns_119 : decode cX7_turns 119 = .ok (.bipush 13, 2) := by decide +kernel
theorem dX7_turns_121 : decode cX7_turns 121 = .ok (.iload_n 3, 1) := by decide +kernel
theorem dX7_turns_122 : decode cX7_turns 122 = .ok (.imul, 1) := by decide +kernel
theorem dX7_turns_123 : decode cX7_turns 123 = .ok (.iload 4, 2) := by decide +kernel
theorem dX7_turns_125 : decode cX7_turns 125 = .ok (.iadd, 1) := by decide +kernel
theorem dX7_turns_126 : decode cX7_turns 126 = .ok (.iconst 1, 1) := by decide +kernel
theorem dX7_turns_127 : decode cX7_turns 127 = .ok (.isub, 1) := by decide +kernel
theorem dX7_turns_128 : decode cX7_turns 128 = .ok (.iaload, 1) := by decide +kernel
theorem dX7_turns_129 : decode cX7_turns 129 = .ok (.aload_n 0, 1) := by decide +kernel
theorem dX7_turns_130 : decode cX7_turns 130 = .ok (.getfield 41, 3) := by decide +kernel
theorem dX7_turns_133 : decode cX7_turns 133 = .ok (.iload 4, 2) := by decide +kernel
theorem dX7_turns_135 : decode cX7_turns 135 = .ok (.iconst 1, 1) := by decide +kernel
theorem dX7_turns_136 : decode cX7_turns 136 = .ok (.isub, 1) := by decide +kernel
theorem dX7_turns_137 : decode cX7_turns 137 = .ok (.iaload, 1) := by decide +kernel
theorem dX7_turns_138 : decode cX7_turns 138 = .ok (.invokestatic 112, 3) := by decide +kernel
theorem dX7_turns_141 : decode cX7_turns 141 = .ok (.iadd, 1) := by decide +kernel
theorem dX7_turns_142 : decode cX7_turns 142 = .ok (.invokestatic 116, 3) := by decide +kernel
theorem dX7_turns_145 : decode cX7_turns 145 = .ok (.istore 5, 2) := by decide +kernel
theorem dX7_turns_147 : decode cX7_turns 147 = .ok (.iload_n 3, 1) := by decide +kernel
theorem dX7_turns_148 : decode cX7_turns 148 = .ok (.ifCond .le 52, 3) := by decide +kernel
theorem dX7_turns_151 : decode cX7_turns 151 = .ok (.iload 4, 2) := by decide +kernel
theorem dX7_turns_153 : decode cX7_turns 153 = .ok (.ifCond .le 47, 3) := by decide +kernel
theorem dX7_turns_156 : decode cX7_turns 156 = .ok (.iload 5, 2) := by decide +kernel
theorem dX7_turns_158 : decode cX7_turns 158 = .ok (.aload_n 0, 1) := by decide +kernel
theorem dX7_turns_159 : decode cX7_turns 159 = .ok (.getfield 44, 3) := by decide +kernel
theorem dX7_turns_162 : decode cX7_turns 162 = .ok (.bipush 13, 2) := by decide +kernel
theorem dX7_turns_164 : decode cX7_turns 164 = .ok (.iload_n 3, 1) := by decide +kernel
theorem dX7_turns_165 : decode cX7_turns 165 = .ok (.iconst 1, 1) := by decide +kernel
theorem dX7_turns_166 : decode cX7_turns 166 = .ok (.isub, 1) := by decide +kernel
theorem dX7_turns_167 : decode cX7_turns 167 = .ok (.imul, 1) := by decide +kernel
theorem dX7_turns_168 : decode cX7_turns 168 = .ok (.iload 4, 2) := by decide +kernel
theorem dX7_turns_170 : decode cX7_turns 170 = .ok (.iadd, 1) := by decide +kernel
theorem dX7_turns_171 : decode cX7_turns 171 = .ok (.iconst 1, 1) := by decide +kernel
theorem dX7_turns_172 : decode cX7_turns 172 = .ok (.isub, 1) := by decide +kernel
theorem dX7_turns_173 : decode cX7_turns 173 = .ok (.iaload, 1) := by decide +kernel
theorem dX7_turns_174 : decode cX7_turns 174 = .ok (.aload_n 0, 1) := by decide +kernel
theorem dX7_turns_175 : decode cX7_turns 175 = .ok (.getfield 38, 3) := by decide +kernel
theorem dX7_turns_178 : decode cX7_turns 178 = .ok (.iload_n 3, 1) := by decide +kernel
theorem dX7_turns_179 : decode cX7_turns 179 = .ok (.iconst 1, 1) := by decide +kernel
theorem dX7_turns_180 : decode cX7_turns 180 = .ok (.isub, 1) := by decide +kernel
theorem dX7_turns_181 : decode cX7_turns 181 = .ok (.iaload, 1) := by decide +kernel
theorem dX7_turns_182 : decode cX7_turns 182 = .ok (.aload_n 0, 1) := by decide +kernel
theorem dX7_turns_183 : decode cX7_turns 183 = .ok (.getfield 41, 3) := by decide +kernel
theorem dX7_turns_186 : decode cX7_turns 186 = .ok (.iload 4, 2) := by decide +kernel
theorem dX7_turns_188 : decode cX7_turns 188 = .ok (.iconst 1, 1) := by decide +kernel
theorem dX7_turns_189 : decode cX7_turns 189 = .ok (.isub, 1) := by decide +kernel
theorem dX7_turns_190 : decode cX7_turns 190 = .ok (.iaload, 1) := by decide +kernel
theorem dX7_turns_191 : decode cX7_turns 191 = .ok (.invokestatic 120, 3) := by decide +kernel
theorem dX7_turns_194 : decode cX7_turns 194 = .ok (.iadd, 1) := by decide +kernel
theorem dX7_turns_195 : decode cX7_turns 195 = .ok (.invokestatic 116, 3) := by decide +kernel
theorem dX7_turns_198 : decode cX7_turns 198 = .ok (.istore 5, 2) := by decide +kernel
theorem dX7_turns_200 : decode cX7_turns 200 = .ok (.aload_n 0, 1) := by decide +kernel
theorem dX7_turns_201 : decode cX7_turns 201 = .ok (.getfield 44, 3) := by decide +kernel
theorem dX7_turns_204 : decode cX7_turns 204 = .ok (.bipush 13, 2) := by decide +kernel
theorem dX7_turns_206 : decode cX7_turns 206 = .ok (.iload_n 3, 1) := by decide +kernel
theorem dX7_turns_207 : decode cX7_turns 207 = .ok (.imul, 1) := by decide +kernel
theorem dX7_turns_208 : decode cX7_turns 208 = .ok (.iload 4, 2) := by decide +kernel
theorem dX7_turns_210 : decode cX7_turns 210 = .ok (.iadd, 1) := by decide +kernel
theorem dX7_turns_211 : decode cX7_turns 211 = .ok (.iload 5, 2) := by decide +kernel
theorem dX7_turns_213 : decode cX7_turns 213 = .ok (.iastore, 1) := by decide +kernel
theorem dX7_turns_214 : decode cX7_turns 214 = .ok (.iinc 4 1, 3) := by decide +kernel
theorem dX7_turns_217 : decode cX7_turns 217 = .ok (.goto (-171), 3) := by decide +kernel
theorem dX7_turns_220 : decode cX7_turns 220 = .ok (.iinc 3 1, 3) := by decide +kernel
theorem dX7_turns_223 : decode cX7_turns 223 = .ok (.goto (-188), 3) := by decide +kernel
theorem dX7_turns_226 : decode cX7_turns 226 = .ok (.aload_n 0, 1) := by decide +kernel
theorem dX7_turns_227 : decode cX7_turns 227 = .ok (.getfield 44, 3) := by decide +kernel
theorem dX7_turns_230 : decode cX7_turns 230 = .ok (.bipush 13, 2) := by decide +kernel
theorem dX7_turns_232 : decode cX7_turns 232 = .ok (.aload_n 0, 1) := by decide +kernel
theorem dX7_turns_233 : decode cX7_turns 233 = .ok (.getfield 106, 3) := by decide +kernel
theorem dX7_turns_236 : decode cX7_turns 236 = .ok (.imul, 1) := by decide +kernel
theorem dX7_turns_237 : decode cX7_turns 237 = .ok (.aload_n 0, 1) := by decide +kernel
theorem dX7_turns_238 : decode cX7_turns 238 = .ok (.getfield 109, 3) := by decide +kernel
theorem dX7_turns_241 : decode cX7_turns 241 = .ok (.iadd, 1) := by decide +kernel
theorem dX7_turns_242 : decode cX7_turns 242 = .ok (.iaload, 1) := by decide +kernel
theorem dX7_turns_243 : decode cX7_turns 243 = .ok (.ireturn, 1) := by decide +kernel
theorem dX7_least_0 : decode cX7_least 0 = .ok (.iload_n 0, 1) := by decide +kernel
theorem dX7_least_1 : decode cX7_least 1 = .ok (.iload_n 1, 1) := by decide +kernel
theorem dX7_least_2 : decode cX7_least 2 = .ok (.if_icmp .ge 7, 3) := by decide +kernel
theorem dX7_least_5 : decode cX7_least 5 = .ok (.iload_n 0, 1) := by decide +kernel
theorem dX7_least_6 : decode cX7_least 6 = .ok (.goto 4, 3) := by decide +kernel
theorem dX7_least_9 : decode cX7_least 9 = .ok (.iload_n 1, 1) := by decide +kernel
theorem dX7_least_10 : decode cX7_least 10 = .ok (.ireturn, 1) := by decide +kernel
set_option maxRecDepth 20000 in
theorem ggX7_findDistances_X7_findCommon : GoodIn wsX7_findDistances wsX7_findCommon := goodIn_r _ [7, 8, 9, 10, 11, 6, 12, 1, 13, 14, 15, 16, 17, 18, 41, 42, 43, 44, 45, 46, 47, 48, 49, 50, 51, 52, 53, 54, 55, 56, 57, 58, 59, 60, 61, 62, 63, 64, 65, 66, 67, 68, 69, 70, 71] (by decide +kernel) (by decide +kernel)
set_option maxRecDepth 20000 in
theorem gX7_findDistances_X7_findCommon : GoodIn wsX7_findDistances (wsV RX7 123 RX7 yX7_findCommon wsX7_findCommon) := goodIn_app (goodIn_of _ (by decide +kernel)) ggX7_findDistances_X7_findCommon
set_option maxRecDepth 20000 in
theorem ggX7_findDistances_X7_turns : GoodIn wsX7_findDistances wsX7_turns := goodIn_r _ [22, 23, 24, 25, 26, 27, 28, 29, 30, 6, 31, 17, 18, 8, 32, 33, 34, 35, 36, 37, 38, 39, 40, 41, 42, 43, 44, 45, 46, 47, 48, 49, 50, 51, 52, 53, 54, 55, 56, 57, 58, 59, 60, 61, 62, 63, 64, 65, 66, 67, 68, 69, 70, 71] (by decide +kernel) (by decide +kernel)
set_option maxRecDepth 20000 in
theorem gX7_findDistances_X7_turns : GoodIn wsX7_findDistances (wsV RX7 126 RX7 yX7_turns wsX7_turns) := goodIn_app (goodIn_of _ (by decide +kernel)) ggX7_findDistances_X7_turns
theorem dX7_findDistances_0 : decode cX7_findDistances 0 = .ok (.aload_n 0, 1) := by decide +kernel
theorem dX7_findDistances_1 : decode cX7_findDistances 1 = .ok (.invokevirtual 123, 3) := by decide +kernel
theorem dX7_findDistances_4 : decode cX7_findDistances 4 = .ok (.iconst 0, 1) := by decide +kernel
theorem dX7_findDistances_5 : decode cX7_findDistances 5 = .ok (.istore_n 1, 1) := by decide +kernel
theorem dX7_findDistances_6 : decode cX7_findDistances 6 = .ok (.iload_n 1, 1) := by decide +kernel
theorem dX7_findDistances_7 : decode cX7_findDistances 7 = .ok (.aload_n 0, 1) := by decide +kernel
theorem dX7_findDistances_8 : decode cX7_findDistances 8 = .ok (.getfield 86, 3) := by decide +kernel
theorem dX7_findDistances_11 : decode cX7_findDistances 11 = .ok (.if_icmp .ge 42, 3) := by decide +kernel
theorem dX7_findDistances_14 : decode cX7_findDistances 14 = .ok (.iconst 0, 1) := by decide +kernel
theorem dX7_findDistances_15 : decode cX7_findDistances 15 = .ok (.istore_n 2, 1) := by decide +kernel
theorem dX7_findDistances_16 : decode cX7_findDistances 16 = .ok (.iload_n 2, 1) := by decide +kernel
theorem dX7_findDistances_17 : decode cX7_findDistances 17 = .ok (.aload_n 0, 1) := by decide +kernel
theorem dX7_findDistances_18 : decode cX7_findDistances 18 = .ok (.getfield 86, 3) := by decide +kernel
theorem dX7_findDistances_21 : decode cX7_findDistances 21 = .ok (.if_icmp .ge 26, 3) := by decide +kernel
theorem dX7_findDistances_24 : decode cX7_findDistances 24 = .ok (.aload_n 0, 1) := by decide +kernel
theorem dX7_findDistances_25 : decode cX7_findDistances 25 = .ok (.getfield 47, 3) := by decide +kernel
theorem dX7_findDistances_28 : decode cX7_findDistances 28 = .ok (.bipush 40, 2) := by decide +kernel
theorem dX7_findDistances_30 : decode cX7_findDistances 30 = .ok (.iload_n 1, 1) := by decide +kernel
theorem dX7_findDistances_31 : decode cX7_findDistances 31 = .ok (.imul, 1) := by decide +kernel
theorem dX7_findDistances_32 : decode cX7_findDistances 32 = .ok (.iload_n 2, 1) := by decide +kernel
theorem dX7_findDistances_33 : decode cX7_findDistances 33 = .ok (.iadd, 1) := by decide +kernel
theorem dX7_findDistances_34 : decode cX7_findDistances 34 = .ok (.aload_n 0, 1) := by decide +kernel
theorem dX7_findDistances_35 : decode cX7_findDistances 35 = .ok (.iload_n 1, 1) := by decide +kernel
theorem dX7_findDistances_36 : decode cX7_findDistances 36 = .ok (.iload_n 2, 1) := by decide +kernel
theorem dX7_findDistances_37 : decode cX7_findDistances 37 = .ok (.invokevirtual 126, 3) := by decide +kernel
theorem dX7_findDistances_40 : decode cX7_findDistances 40 = .ok (.iastore, 1) := by decide +kernel
theorem dX7_findDistances_41 : decode cX7_findDistances 41 = .ok (.iinc 2 1, 3) := by decide +kernel
theorem dX7_findDistances_44 : decode cX7_findDistances 44 = .ok (.goto (-28), 3) := by decide +kernel
theorem dX7_findDistances_47 : decode cX7_findDistances 47 = .ok (.iinc 1 1, 3) := by decide +kernel
theorem dX7_findDistances_50 : decode cX7_findDistances 50 = .ok (.goto (-44), 3) := by decide +kernel
theorem dX7_findDistances_53 : decode cX7_findDistances 53 = .ok (.return_, 1) := by decide +kernel
theorem dX7_pairCost_0 : decode cX7_pairCost 0 = .ok (.aload_n 0, 1) := by decide +kernel
theorem dX7_pairCost_1 : decode cX7_pairCost 1 = .ok (.getfield 47, 3) := by decide +kernel
theorem dX7_pairCost_4 : decode cX7_pairCost 4 = .ok (.bipush 40, 2) := by decide +kernel
theorem dX7_pairCost_6 : decode cX7_pairCost 6 = .ok (.iload_n 1, 1) := by decide +kernel
theorem dX7_pairCost_7 : decode cX7_pairCost 7 = .ok (.imul, 1) := by decide +kernel
theorem dX7_pairCost_8 : decode cX7_pairCost 8 = .ok (.iload_n 2, 1) := by decide +kernel
theorem dX7_pairCost_9 : decode cX7_pairCost 9 = .ok (.iadd, 1) := by decide +kernel
theorem dX7_pairCost_10 : decode cX7_pairCost 10 = .ok (.iaload, 1) := by decide +kernel
theorem dX7_pairCost_11 : decode cX7_pairCost 11 = .ok (.istore 4, 2) := by decide +kernel
theorem dX7_pairCost_13 : decode cX7_pairCost 13 = .ok (.aload_n 0, 1) := by decide +kernel
theorem dX7_pairCost_14 : decode cX7_pairCost 14 = .ok (.getfield 57, 3) := by decide +kernel
theorem dX7_pairCost_17 : decode cX7_pairCost 17 = .ok (.bipush 40, 2) := by decide +kernel
theorem dX7_pairCost_19 : decode cX7_pairCost 19 = .ok (.iload_n 1, 1) := by decide +kernel
theorem dX7_pairCost_20 : decode cX7_pairCost 20 = .ok (.imul, 1) := by decide +kernel
theorem dX7_pairCost_21 : decode cX7_pairCost 21 = .ok (.iload_n 2, 1) := by decide +kernel
theorem dX7_pairCost_22 : decode cX7_pairCost 22 = .ok (.iadd, 1) := by decide +kernel
theorem dX7_pairCost_23 : decode cX7_pairCost 23 = .ok (.iaload, 1) := by decide +kernel
theorem dX7_pairCost_24 : decode cX7_pairCost 24 = .ok (.istore 5, 2) := by decide +kernel
theorem dX7_pairCost_26 : decode cX7_pairCost 26 = .ok (.iload_n 3, 1) := by decide +kernel
theorem dX7_pairCost_27 : decode cX7_pairCost 27 = .ok (.ifCond .eq 38, 3) := by decide +kernel
theorem dX7_pairCost_30 : decode cX7_pairCost 30 = .ok (.iload 4, 2) := by decide +kernel
theorem dX7_pairCost_32 : decode cX7_pairCost 32 = .ok (.aload_n 0, 1) := by decide +kernel
theorem dX7_pairCost_33 : decode cX7_pairCost 33 = .ok (.getfield 54, 3) := by decide +kernel
theorem dX7_pairCost_36 : decode cX7_pairCost 36 = .ok (.if_icmp .le 13, 3) := by decide +kernel
theorem dX7_pairCost_39 : decode cX7_pairCost 39 = .ok (.iload 4, 2) := by decide +kernel
theorem dX7_pairCost_41 : decode cX7_pairCost 41 = .ok (.aload_n 0, 1) := by decide +kernel
theorem dX7_pairCost_42 : decode cX7_pairCost 42 = .ok (.getfield 54, 3) := by decide +kernel
theorem dX7_pairCost_45 : decode cX7_pairCost 45 = .ok (.isub, 1) := by decide +kernel
theorem dX7_pairCost_46 : decode cX7_pairCost 46 = .ok (.goto 4, 3) := by decide +kernel
theorem dX7_pairCost_49 : decode cX7_pairCost 49 = .ok (.iconst 0, 1) := by decide +kernel
theorem dX7_pairCost_50 : decode cX7_pairCost 50 = .ok (.iload 5, 2) := by decide +kernel
theorem dX7_pairCost_52 : decode cX7_pairCost 52 = .ok (.iconst 2, 1) := by decide +kernel
theorem dX7_pairCost_53 : decode cX7_pairCost 53 = .ok (.if_icmp .ne 9, 3) := by decide +kernel
theorem dX7_pairCost_56 : decode cX7_pairCost 56 = .ok (.sipush 1000, 3) := by decide +kernel
theorem dX7_pairCost_59 : decode cX7_pairCost 59 = .ok (.goto 4, 3) := by decide +kernel
theorem dX7_pairCost_62 : decode cX7_pairCost 62 = .ok (.iconst 0, 1) := by decide +kernel
theorem dX7_pairCost_63 : decode cX7_pairCost 63 = .ok (.iadd, 1) := by decide +kernel
theorem dX7_pairCost_64 : decode cX7_pairCost 64 = .ok (.ireturn, 1) := by decide +kernel
theorem dX7_pairCost_65 : decode cX7_pairCost 65 = .ok (.iload 4, 2) := by decide +kernel
theorem dX7_pairCost_67 : decode cX7_pairCost 67 = .ok (.aload_n 0, 1) := by decide +kernel
theorem dX7_pairCost_68 : decode cX7_pairCost 68 = .ok (.getfield 54, 3) := by decide +kernel
theorem dX7_pairCost_71 : decode cX7_pairCost 71 = .ok (.if_icmp .ge 13, 3) := by decide +kernel
theorem dX7_pairCost_74 : decode cX7_pairCost 74 = .ok (.aload_n 0, 1) := by decide +kernel
theorem dX7_pairCost_75 : decode cX7_pairCost 75 = .ok (.getfield 54, 3) := by decide +kernel
theorem dX7_pairCost_78 : decode cX7_pairCost 78 = .ok (.iload 4, 2) := by decide +kernel
theorem dX7_pairCost_80 : decode cX7_pairCost 80 = .ok (.isub, 1) := by decide +kernel
theorem dX7_pairCost_81 : decode cX7_pairCost 81 = .ok (.goto 4, 3) := by decide +kernel
theorem dX7_pairCost_84 : decode cX7_pairCost 84 = .ok (.iconst 0, 1) := by decide +kernel
theorem dX7_pairCost_85 : decode cX7_pairCost 85 = .ok (.iload 5, 2) := by decide +kernel
theorem dX7_pairCost_87 : decode cX7_pairCost 87 = .ok (.iconst 1, 1) := by decide +kernel
theorem dX7_pairCost_88 : decode cX7_pairCost 88 = .ok (.if_icmp .ne 9, 3) := by decide +kernel
theorem dX7_pairCost_91 : decode cX7_pairCost 91 = .ok (.sipush 1000, 3) := by decide +kernel
theorem dX7_pairCost_94 : decode cX7_pairCost 94 = .ok (.goto 4, 3) := by decide +kernel
theorem dX7_pairCost_97 : decode cX7_pairCost 97 = .ok (.iconst 0, 1) := by decide +kernel
theorem dX7_pairCost_98 : decode cX7_pairCost 98 = .ok (.iadd, 1) := by decide +kernel
theorem dX7_pairCost_99 : decode cX7_pairCost 99 = .ok (.ireturn, 1) := by decide +kernel
set_option maxRecDepth 20000 in
theorem ggX7_gain_X7_pairCost : GoodIn wsX7_gain wsX7_pairCost := goodIn_r _ [5, 6, 7, 8, 9, 10, 11, 12, 13, 14, 15, 16, 17, 18, 19, 20, 21, 22, 23, 24, 25, 26, 27, 28, 29, 30, 31, 32, 33, 34, 35, 36, 37, 38, 39] (by decide +kernel) (by decide +kernel)
set_option maxRecDepth 20000 in
theorem gX7_gain_X7_pairCost : GoodIn wsX7_gain (wsV RX7 129 RX7 yX7_pairCost wsX7_pairCost) := goodIn_app (goodIn_of _ (by decide +kernel)) ggX7_gain_X7_pairCost
theorem dX7_gain_0 : decode cX7_gain 0 = .ok (.aload_n 0, 1) := by decide +kernel
theorem dX7_gain_1 : decode cX7_gain 1 = .ok (.iload_n 1, 1) := by decide +kernel
theorem dX7_gain_2 : decode cX7_gain 2 = .ok (.iload_n 2, 1) := by decide +kernel
theorem dX7_gain_3 : decode cX7_gain 3 = .ok (.iconst 1, 1) := by decide +kernel
theorem dX7_gain_4 : decode cX7_gain 4 = .ok (.invokevirtual 129, 3) := by decide +kernel
theorem dX7_gain_7 : decode cX7_gain 7 = .ok (.aload_n 0, 1) := by decide +kernel
theorem dX7_gain_8 : decode cX7_gain 8 = .ok (.iload_n 1, 1) := by decide +kernel
theorem dX7_gain_9 : decode cX7_gain 9 = .ok (.iload_n 2, 1) := by decide +kernel
theorem dX7_gain_10 : decode cX7_gain 10 = .ok (.iconst 0, 1) := by decide +kernel
theorem dX7_gain_11 : decode cX7_gain 11 = .ok (.invokevirtual 129, 3) := by decide +kernel
theorem dX7_gain_14 : decode cX7_gain 14 = .ok (.isub, 1) := by decide +kernel
theorem dX7_gain_15 : decode cX7_gain 15 = .ok (.ireturn, 1) := by decide +kernel
set_option maxRecDepth 20000 in
theorem ggX7_moved_X7_gain : GoodIn wsX7_moved wsX7_gain := goodIn_r _ [7, 8, 9, 10, 6, 11, 12, 13, 14, 15, 16, 17, 18, 19, 20, 21, 22, 23, 24, 25, 26, 27, 28, 29, 30, 31, 32, 33, 34, 35, 36, 37, 38, 39, 40, 41, 42, 43, 44, 45] (by decide +kernel) (by decide +kernel)
set_option maxRecDepth 20000 in
theorem gX7_moved_X7_gain : GoodIn wsX7_moved (wsV RX7 133 RX7 yX7_gain wsX7_gain) := goodIn_app (goodIn_of _ (by decide +kernel)) ggX7_moved_X7_gain
theorem dX7_moved_0 : decode cX7_moved 0 = .ok (.iconst 0, 1) := by decide +kernel
theorem dX7_moved_1 : decode cX7_moved 1 = .ok (.istore_n 3, 1) := by decide +kernel
theorem dX7_moved_2 : decode cX7_moved 2 = .ok (.iconst 0, 1) := by decide +kernel
theorem dX7_moved_3 : decode cX7_moved 3 = .ok (.istore 4, 2) := by decide +kernel
theorem dX7_moved_5 : decode cX7_moved 5 = .ok (.iload 4, 2) := by decide +kernel
theorem dX7_moved_7 : decode cX7_moved 7 = .ok (.aload_n 0, 1) := by decide +kernel
theorem dX7_moved_8 : decode cX7_moved 8 = .ok (.getfield 86, 3) := by decide +kernel
theorem dX7_moved_11 : decode cX7_moved 11 = .ok (.if_icmp .ge 67, 3) := by decide +kernel
theorem dX7_moved_14 : decode cX7_moved 14 = .ok (.iload 4, 2) := by decide +kernel
theorem dX7_moved_16 : decode cX7_moved 16 = .ok (.iload_n 1, 1) := by decide +kernel
theorem dX7_moved_17 : decode cX7_moved 17 = .ok (.if_icmp .eq 55, 3) := by decide +kernel
theorem dX7_moved_20 : decode cX7_moved 20 = .ok (.iload_n 3, 1) := by decide +kernel
theorem dX7_moved_21 : decode cX7_moved 21 = .ok (.aload_n 0, 1) := by decide +kernel
theorem dX7_moved_22 : decode cX7_moved 22 = .ok (.getfield 35, 3) := by decide +kernel
theorem dX7_moved_25 : decode cX7_moved 25 = .ok (.iload 4, 2) := by decide +kernel
theorem dX7_moved_27 : decode cX7_moved 27 = .ok (.iaload, 1) := by decide +kernel
theorem dX7_moved_28 : decode cX7_moved 28 = .ok (.iload_n 2, 1) := by decide +kernel
theorem dX7_moved_29 : decode cX7_moved 29 = .ok (.if_icmp .ne 13, 3) := by decide +kernel
theorem dX7_moved_32 : decode cX7_moved 32 = .ok (.aload_n 0, 1) := by decide +kernel
theorem dX7_moved_33 : decode cX7_moved 33 = .ok (.iload_n 1, 1) := by decide +kernel
theorem dX7_moved_34 : decode cX7_moved 34 = .ok (.iload 4, 2) := by decide +kernel
theorem dX7_moved_36 : decode cX7_moved 36 = .ok (.invokevirtual 133, 3) := by decide +kernel
theorem dX7_moved_39 : decode cX7_moved 39 = .ok (.goto 31, 3) := by decide +kernel
theorem dX7_moved_42 : decode cX7_moved 42 = .ok (.aload_n 0, 1) := by decide +kernel
theorem dX7_moved_43 : decode cX7_moved 43 = .ok (.getfield 35, 3) := by decide +kernel
theorem dX7_moved_46 : decode cX7_moved 46 = .ok (.iload 4, 2) := by decide +kernel
theorem dX7_moved_48 : decode cX7_moved 48 = .ok (.iaload, 1) := by decide +kernel
theorem dX7_moved_49 : decode cX7_moved 49 = .ok (.aload_n 0, 1) := by decide +kernel
theorem dX7_moved_50 : decode cX7_moved 50 = .ok (.getfield 35, 3) := by decide +kernel
theorem dX7_moved_53 : decode cX7_moved 53 = .ok (.iload_n 1, 1) := by decide +kernel
theorem dX7_moved_54 : decode cX7_moved 54 = .ok (.iaload, 1) := by decide +kernel
theorem dX7_moved_55 : decode cX7_moved 55 = .ok (.if_icmp .ne 14, 3) := by decide +kernel
theorem dX7_moved_58 : decode cX7_moved 58 = .ok (.aload_n 0, 1) := by decide +kernel
theorem dX7_moved_59 : decode cX7_moved 59 = .ok (.iload_n 1, 1) := by decide +kernel
theorem dX7_moved_60 : decode cX7_moved 60 = .ok (.iload 4, 2) := by decide +kernel
theorem dX7_moved_62 : decode cX7_moved 62 = .ok (.invokevirtual 133, 3) := by decide +kernel
theorem dX7_moved_65 : decode cX7_moved 65 = .ok (.ineg, 1) := by decide +kernel
theorem dX7_moved_66 : decode cX7_moved 66 = .ok (.goto 4, 3) := by decide +kernel
theorem dX7_moved_69 : decode cX7_moved 69 = .ok (.iconst 0, 1) := by decide +kernel
theorem dX7_moved_70 : decode cX7_moved 70 = .ok (.iadd, 1) := by decide +kernel
theorem dX7_moved_71 : decode cX7_moved 71 = .ok (.istore_n 3, 1) := by decide +kernel
theorem dX7_moved_72 : decode cX7_moved 72 = .ok (.iinc 4 1, 3) := by decide +kernel
theorem dX7_moved_75 : decode cX7_moved 75 = .ok (.goto (-70), 3) := by decide +kernel
theorem dX7_moved_78 : decode cX7_moved 78 = .ok (.iload_n 3, 1) := by decide +kernel
theorem dX7_moved_79 : decode cX7_moved 79 = .ok (.ireturn, 1) := by decide +kernel
set_option maxRecDepth 20000 in
theorem ggX7_melted_X7_gain : GoodIn wsX7_melted wsX7_gain := goodIn_r _ [7, 8, 9, 10, 6, 11, 12, 13, 14, 15, 16, 17, 18, 19, 20, 21, 22, 23, 24, 25, 26, 27, 28, 29, 30, 31, 32, 33, 34, 35, 36, 37, 38, 39, 40, 41, 42, 43, 44, 45] (by decide +kernel) (by decide +kernel)
set_option maxRecDepth 20000 in
theorem gX7_melted_X7_gain : GoodIn wsX7_melted (wsV RX7 133 RX7 yX7_gain wsX7_gain) := goodIn_app (goodIn_of _ (by decide +kernel)) ggX7_melted_X7_gain
theorem dX7_melted_0 : decode cX7_melted 0 = .ok (.iconst 0, 1) := by decide +kernel
theorem dX7_melted_1 : decode cX7_melted 1 = .ok (.istore_n 3, 1) := by decide +kernel
theorem dX7_melted_2 : decode cX7_melted 2 = .ok (.iconst 0, 1) := by decide +kernel
theorem dX7_melted_3 : decode cX7_melted 3 = .ok (.istore 4, 2) := by decide +kernel
theorem dX7_melted_5 : decode cX7_melted 5 = .ok (.iload 4, 2) := by decide +kernel
theorem dX7_melted_7 : decode cX7_melted 7 = .ok (.aload_n 0, 1) := by decide +kernel
theorem dX7_melted_8 : decode cX7_melted 8 = .ok (.getfield 86, 3) := by decide +kernel
theorem dX7_melted_11 : decode cX7_melted 11 = .ok (.if_icmp .ge 64, 3) := by decide +kernel
theorem dX7_melted_14 : decode cX7_melted 14 = .ok (.iconst 0, 1) := by decide +kernel
theorem dX7_melted_15 : decode cX7_melted 15 = .ok (.istore 5, 2) := by decide +kernel
theorem dX7_melted_17 : decode cX7_melted 17 = .ok (.iload 5, 2) := by decide +kernel
theorem dX7_melted_19 : decode cX7_melted 19 = .ok (.aload_n 0, 1) := by decide +kernel
theorem dX7_melted_20 : decode cX7_melted 20 = .ok (.getfield 86, 3) := by decide +kernel
theorem dX7_melted_23 : decode cX7_melted 23 = .ok (.if_icmp .ge 46, 3) := by decide +kernel
theorem dX7_melted_26 : decode cX7_melted 26 = .ok (.aload_n 0, 1) := by decide +kernel
theorem dX7_melted_27 : decode cX7_melted 27 = .ok (.getfield 35, 3) := by decide +kernel
theorem dX7_melted_30 : decode cX7_melted 30 = .ok (.iload 4, 2) := by decide +kernel
theorem dX7_melted_32 : decode cX7_melted 32 = .ok (.iaload, 1) := by decide +kernel
theorem dX7_melted_33 : decode cX7_melted 33 = .ok (.iload_n 1, 1) := by decide +kernel
theorem dX7_melted_34 : decode cX7_melted 34 = .ok (.if_icmp .ne 35, 3) := by decide +kernel
theorem dX7_melted_37 : decode cX7_melted 37 = .ok (.iload_n 3, 1) := by decide +kernel
theorem dX7_melted_38 : decode cX7_melted 38 = .ok (.aload_n 0, 1) := by decide +kernel
theorem dX7_melted_39 : decode cX7_melted 39 = .ok (.getfield 35, 3) := by decide +kernel
theorem dX7_melted_42 : decode cX7_melted 42 = .ok (.iload 5, 2) := by decide +kernel
theorem dX7_melted_44 : decode cX7_melted 44 = .ok (.iaload, 1) := by decide +kernel
theorem dX7_melted_45 : decode cX7_melted 45 = .ok (.iload_n 2, 1) := by decide +kernel
theorem dX7_melted_46 : decode cX7_melted 46 = .ok (.if_icmp .ne 14, 3) := by decide +kernel
theorem dX7_melted_49 : decode cX7_melted 49 = .ok (.aload_n 0, 1) := by decide +kernel
theorem dX7_melted_50 : decode cX7_melted 50 = .ok (.iload 4, 2) := by decide +kernel
theorem dX7_melted_52 : decode cX7_melted 52 = .ok (.iload 5, 2) := by decide +kernel
theorem dX7_melted_54 : decode cX7_melted 54 = .ok (.invokevirtual 133, 3) := by decide +kernel
theorem dX7_melted_57 : decode cX7_melted 57 = .ok (.goto 4, 3) := by decide +kernel
theorem dX7_melted_60 : decode cX7_melted 60 = .ok (.iconst 0, 1) := by decide +kernel
theorem dX7_melted_61 : decode cX7_melted 61 = .ok (.iadd, 1) := by decide +kernel
theorem dX7_melted_62 : decode cX7_melted 62 = .ok (.istore_n 3, 1) := by decide +kernel
theorem dX7_melted_63 : decode cX7_melted 63 = .ok (.iinc 5 1, 3) := by decide +kernel
theorem dX7_melted_66 : decode cX7_melted 66 = .ok (.goto (-49), 3) := by decide +kernel
theorem dX7_melted_69 : decode cX7_melted 69 = .ok (.iinc 4 1, 3) := by decide +kernel
theorem dX7_melted_72 : decode cX7_melted 72 = .ok (.goto (-67), 3) := by decide +kernel
theorem dX7_melted_75 : decode cX7_melted 75 = .ok (.iload_n 3, 1) := by decide +kernel
theorem dX7_melted_76 : decode cX7_melted 76 = .ok (.ireturn, 1) := by decide +kernel
theorem dX7_inHeap_0 : decode cX7_inHeap 0 = .ok (.iconst 0, 1) := by decide +kernel
theorem dX7_inHeap_1 : decode cX7_inHeap 1 = .ok (.istore_n 2, 1) := by decide +kernel
theorem dX7_inHeap_2 : decode cX7_inHeap 2 = .ok (.iconst 0, 1) := by decide +kernel
theorem dX7_inHeap_3 : decode cX7_inHeap 3 = .ok (.istore_n 3, 1) := by decide +kernel
theorem dX7_inHeap_4 : decode cX7_inHeap 4 = .ok (.iload_n 3, 1) := by decide +kernel
theorem dX7_inHeap_5 : decode cX7_inHeap 5 = .ok (.aload_n 0, 1) := by decide +kernel
theorem dX7_inHeap_6 : decode cX7_inHeap 6 = .ok (.getfield 86, 3) := by decide +kernel
theorem dX7_inHeap_9 : decode cX7_inHeap 9 = .ok (.if_icmp .ge 27, 3) := by decide +kernel
theorem dX7_inHeap_12 : decode cX7_inHeap 12 = .ok (.iload_n 2, 1) := by decide +kernel
theorem dX7_inHeap_13 : decode cX7_inHeap 13 = .ok (.aload_n 0, 1) := by decide +kernel
theorem dX7_inHeap_14 : decode cX7_inHeap 14 = .ok (.getfield 35, 3) := by decide +kernel
theorem dX7_inHeap_17 : decode cX7_inHeap 17 = .ok (.iload_n 3, 1) := by decide +kernel
theorem dX7_inHeap_18 : decode cX7_inHeap 18 = .ok (.iaload, 1) := by decide +kernel
theorem dX7_inHeap_19 : decode cX7_inHeap 19 = .ok (.iload_n 1, 1) := by decide +kernel
theorem dX7_inHeap_20 : decode cX7_inHeap 20 = .ok (.if_icmp .ne 7, 3) := by decide +kernel
theorem dX7_inHeap_23 : decode cX7_inHeap 23 = .ok (.iconst 1, 1) := by decide +kernel
theorem dX7_inHeap_24 : decode cX7_inHeap 24 = .ok (.goto 4, 3) := by decide +kernel
theorem dX7_inHeap_27 : decode cX7_inHeap 27 = .ok (.iconst 0, 1) := by decide +kernel
theorem dX7_inHeap_28 : decode cX7_inHeap 28 = .ok (.iadd, 1) := by decide +kernel
theorem dX7_inHeap_29 : decode cX7_inHeap 29 = .ok (.istore_n 2, 1) := by decide +kernel
theorem dX7_inHeap_30 : decode cX7_inHeap 30 = .ok (.iinc 3 1, 3) := by decide +kernel
theorem dX7_inHeap_33 : decode cX7_inHeap 33 = .ok (.goto (-29), 3) := by decide +kernel
theorem dX7_inHeap_36 : decode cX7_inHeap 36 = .ok (.iload_n 2, 1) := by decide +kernel
theorem dX7_inHeap_37 : decode cX7_inHeap 37 = .ok (.ireturn, 1) := by decide +kernel
theorem dX7_names_0 : decode cX7_names 0 = .ok (.iconst 0, 1) := by decide +kernel
theorem dX7_names_1 : decode cX7_names 1 = .ok (.istore_n 1, 1) := by decide +kernel
theorem dX7_names_2 : decode cX7_names 2 = .ok (.iload_n 1, 1) := by decide +kernel
theorem dX7_names_3 : decode cX7_names 3 = .ok (.aload_n 0, 1) := by decide +kernel
theorem dX7_names_4 : decode cX7_names 4 = .ok (.getfield 86, 3) := by decide +kernel
theorem dX7_names_7 : decode cX7_names 7 = .ok (.if_icmp .ge 39, 3) := by decide +kernel
theorem dX7_names_10 : decode cX7_names 10 = .ok (.iconst 0, 1) := by decide +kernel
theorem dX7_names_11 : decode cX7_names 11 = .ok (.istore_n 2, 1) := by decide +kernel
theorem dX7_names_12 : decode cX7_names 12 = .ok (.aload_n 0, 1) := by decide +kernel
theorem dX7_names_13 : decode cX7_names 13 = .ok (.getfield 35, 3) := by decide +kernel
theorem dX7_names_16 : decode cX7_names 16 = .ok (.iload_n 2, 1) := by decide +kernel
theorem dX7_names_17 : decode cX7_names 17 = .ok (.iaload, 1) := by decide +kernel
theorem dX7_names_18 : decode cX7_names 18 = .ok (.aload_n 0, 1) := by decide +kernel
theorem dX7_names_19 : decode cX7_names 19 = .ok (.getfield 35, 3) := by decide +kernel
theorem dX7_names_22 : decode cX7_names 22 = .ok (.iload_n 1, 1) := by decide +kernel
theorem dX7_names_23 : decode cX7_names 23 = .ok (.iaload, 1) := by decide +kernel
theorem dX7_names_24 : decode cX7_names 24 = .ok (.if_icmp .eq 9, 3) := by decide +kernel
theorem dX7_names_27 : decode cX7_names 27 = .ok (.iinc 2 1, 3) := by decide +kernel
theorem dX7_names_30 : decode cX7_names 30 = .ok (.goto (-18), 3) := by decide +kernel
theorem dX7_names_33 : decode cX7_names 33 = .ok (.aload_n 0, 1) := by decide +kernel
theorem dX7_names_34 : decode cX7_names 34 = .ok (.getfield 60, 3) := by decide +kernel
theorem dX7_names_37 : decode cX7_names 37 = .ok (.iload_n 1, 1) := by decide +kernel
theorem dX7_names_38 : decode cX7_names 38 = .ok (.iload_n 2, 1) := by decide +kernel
theorem dX7_names_39 : decode cX7_names 39 = .ok (.iastore, 1) := by decide +kernel
theorem dX7_names_40 : decode cX7_names 40 = .ok (.iinc 1 1, 3) := by decide +kernel
theorem dX7_names_43 : decode cX7_names 43 = .ok (.goto (-41), 3) := by decide +kernel
theorem dX7_names_46 : decode cX7_names 46 = .ok (.iconst 0, 1) := by decide +kernel
theorem dX7_names_47 : decode cX7_names 47 = .ok (.istore_n 1, 1) := by decide +kernel
theorem dX7_names_48 : decode cX7_names 48 = .ok (.iload_n 1, 1) := by decide +kernel
theorem dX7_names_49 : decode cX7_names 49 = .ok (.aload_n 0, 1) := by decide +kernel
theorem dX7_names_50 : decode cX7_names 50 = .ok (.getfield 86, 3) := by decide +kernel
theorem dX7_names_53 : decode cX7_names 53 = .ok (.if_icmp .ge 21, 3) := by decide +kernel
theorem dX7_names_56 : decode cX7_names 56 = .ok (.aload_n 0, 1) := by decide +kernel
theorem dX7_names_57 : decode cX7_names 57 = .ok (.getfield 35, 3) := by decide +kernel
theorem dX7_names_60 : decode cX7_names 60 = .ok (.iload_n 1, 1) := by decide +kernel
theorem dX7_names_61 : decode cX7_names 61 = .ok (.aload_n 0, 1) := by decide +kernel
theorem dX7_names_62 : decode cX7_names 62 = .ok (.getfield 60, 3) := by decide +kernel
theorem dX7_names_65 : decode cX7_names 65 = .ok (.iload_n 1, 1) := by decide +kernel
theorem dX7_names_66 : decode cX7_names 66 = .ok (.iaload, 1) := by decide +kernel
theorem dX7_names_67 : decode cX7_names 67 = .ok (.iastore, 1) := by decide +kernel
theorem dX7_names_68 : decode cX7_names 68 = .ok (.iinc 1 1, 3) := by decide +kernel
theorem dX7_names_71 : decode cX7_names 71 = .ok (.goto (-23), 3) := by decide +kernel
theorem dX7_names_74 : decode cX7_names 74 = .ok (.return_, 1) := by decide +kernel
theorem dX7_asks_0 : decode cX7_asks 0 = .ok (.iload_n 1, 1) := by decide +kernel
theorem dX7_asks_1 : decode cX7_asks 1 = .ok (.aload_n 0, 1) := by decide +kernel
theorem dX7_asks_2 : decode cX7_asks 2 = .ok (.getfield 136, 3) := by decide +kernel
theorem dX7_asks_5 : decode cX7_asks 5 = .ok (.if_icmp .ge 24, 3) := by decide +kernel
theorem dX7_asks_8 : decode cX7_asks 8 = .ok (.aload_n 0, 1) := by decide +kernel
theorem dX7_asks_9 : decode cX7_asks 9 = .ok (.iload_n 1, 1) := by decide +kernel
theorem dX7_asks_10 : decode cX7_asks 10 = .ok (.putfield 136, 3) := by decide +kernel
theorem dX7_asks_13 : decode cX7_asks 13 = .ok (.aload_n 0, 1) := by decide +kernel
theorem dX7_asks_14 : decode cX7_asks 14 = .ok (.iload_n 2, 1) := by decide +kernel
theorem dX7_asks_15 : decode cX7_asks 15 = .ok (.putfield 139, 3) := by decide +kernel
theorem dX7_asks_18 : decode cX7_asks 18 = .ok (.aload_n 0, 1) := by decide +kernel
theorem dX7_asks_19 : decode cX7_asks 19 = .ok (.iload_n 3, 1) := by decide +kernel
theorem dX7_asks_20 : decode cX7_asks 20 = .ok (.putfield 142, 3) := by decide +kernel
theorem dX7_asks_23 : decode cX7_asks 23 = .ok (.aload_n 0, 1) := by decide +kernel
theorem dX7_asks_24 : decode cX7_asks 24 = .ok (.iload 4, 2) := by decide +kernel
theorem dX7_asks_26 : decode cX7_asks 26 = .ok (.putfield 145, 3) := by decide +kernel
theorem dX7_asks_29 : decode cX7_asks 29 = .ok (.return_, 1) := by decide +kernel
set_option maxRecDepth 20000 in
theorem ggX7_findBest_X7_moved : GoodIn wsX7_findBest wsX7_moved := goodIn_r _ [8, 2, 3, 9, 10, 11, 7, 12, 13, 14, 15, 16, 17, 18, 19, 35, 36, 37, 38, 39, 40, 41, 42, 43, 44, 45, 46, 47, 48, 49, 50, 51, 52, 53, 54, 55, 56, 57, 58, 59, 60, 61, 62, 63, 64, 65] (by decide +kernel) (by decide +kernel)
set_option maxRecDepth 20000 in
theorem gX7_findBest_X7_moved : GoodIn wsX7_findBest (wsV RX7 149 RX7 yX7_moved wsX7_moved) := goodIn_app (goodIn_of _ (by decide +kernel)) ggX7_findBest_X7_moved
set_option maxRecDepth 20000 in
theorem ggX7_findBest_X7_asks : GoodIn wsX7_findBest wsX7_asks := goodIn_r _ [23, 1, 24, 25, 26, 35, 36, 37, 38, 39, 40, 41, 42, 43, 44, 45, 46, 47, 48, 49, 50, 51, 52, 53, 54, 55, 56, 57, 58, 59, 60, 61, 62, 63, 64, 65] (by decide +kernel) (by decide +kernel)
set_option maxRecDepth 20000 in
theorem gX7_findBest_X7_asks : GoodIn wsX7_findBest (wsV RX7 152 RX7 yX7_asks wsX7_asks) := goodIn_app (goodIn_of _ (by decide +kernel)) ggX7_findBest_X7_asks
set_option maxRecDepth 20000 in
theorem ggX7_findBest_X7_inHeap : GoodIn wsX7_findBest wsX7_inHeap := goodIn_r _ [30, 2, 3, 35, 36, 37, 38, 39, 40, 41, 42, 43, 44, 45, 46, 47, 48, 49, 50, 51, 52, 53, 54, 55, 56, 57, 58, 59, 60, 61, 62, 63, 64, 65] (by decide +kernel) (by decide +kernel)
set_option maxRecDepth 20000 in
theorem gX7_findBest_X7_inHeap : GoodIn wsX7_findBest (wsV RX7 156 RX7 yX7_inHeap wsX7_inHeap) := goodIn_app (goodIn_of _ (by decide +kernel)) ggX7_findBest_X7_inHeap
set_option maxRecDepth 20000 in
theorem ggX7_findBest_X7_melted : GoodIn wsX7_findBest wsX7_melted := goodIn_r _ [34, 2, 3, 9, 10, 11, 7, 12, 13, 14, 15, 16, 17, 18, 19, 35, 36, 37, 38, 39, 40, 41, 42, 43, 44, 45, 46, 47, 48, 49, 50, 51, 52, 53, 54, 55, 56, 57, 58, 59, 60, 61, 62, 63, 64, 65] (by decide +kernel) (by decide +kernel)
set_option maxRecDepth 20000 in
theorem gX7_findBest_X7_melted : GoodIn wsX7_findBest (wsV RX7 159 RX7 yX7_melted wsX7_melted) := goodIn_app (goodIn_of _ (by decide +kernel)) ggX7_findBest_X7_melted
theorem dX7_findBest_0 : decode cX7_findBest 0 = .ok (.aload_n 0, 1) := by decide +kernel
theorem dX7_findBest_1 : decode cX7_findBest 1 = .ok (.iconst 0, 1) := by decide +kernel
theorem dX7_findBest_2 : decode cX7_findBest 2 = .ok (.putfield 136, 3) := by decide +kernel
theorem dX7_findBest_5 : decode cX7_findBest 5 = .ok (.iconst 0, 1) := by decide +kernel
theorem dX7_findBest_6 : decode cX7_findBest 6 = .ok (.istore_n 1, 1) := by decide +kernel
theorem dX7_findBest_7 : decode cX7_findBest 7 = .ok (.iload_n 1, 1) := by decide +kernel
theorem dX7_findBest_8 : decode cX7_findBest 8 = .ok (.aload_n 0, 1) := by decide +kernel
theorem dX7_findBest_9 : decode cX7_findBest 9 = .ok (.getfield 86, 3) := by decide +kernel
theorem dX7_findBest_12 : decode cX7_findBest 12 = .ok (.if_icmp .ge 87, 3) := by decide +kernel
theorem dX7_findBest_15 : decode cX7_findBest 15 = .ok (.iconst 0, 1) := by decide +kernel
theorem dX7_findBest_16 : decode cX7_findBest 16 = .ok (.istore_n 2, 1) := by decide +kernel
theorem dX7_findBest_17 : decode cX7_findBest 17 = .ok (.iload_n 2, 1) := by decide +kernel
theorem dX7_findBest_18 : decode cX7_findBest 18 = .ok (.aload_n 0, 1) := by decide +kernel
theorem dX7_findBest_19 : decode cX7_findBest 19 = .ok (.getfield 86, 3) := by decide +kernel
theorem dX7_findBest_22 : decode cX7_findBest 22 = .ok (.if_icmp .ge 42, 3) := by decide +kernel
theorem dX7_findBest_25 : decode cX7_findBest 25 = .ok (.aload_n 0, 1) := by decide +kernel
theorem dX7_findBest_26 : decode cX7_findBest 26 = .ok (.getfield 35, 3) := by decide +kernel
theorem dX7_findBest_29 : decode cX7_findBest 29 = .ok (.iload_n 2, 1) := by decide +kernel
theorem dX7_findBest_30 : decode cX7_findBest 30 = .ok (.iaload, 1) := by decide +kernel
theorem dX7_findBest_31 : decode cX7_findBest 31 = .ok (.iload_n 2, 1) := by decide +kernel
theorem dX7_findBest_32 : decode cX7_findBest 32 = .ok (.if_icmp .ne 26, 3) := by decide +kernel
theorem dX7_findBest_35 : decode cX7_findBest 35 = .ok (.iload_n 2, 1) := by decide +kernel
theorem dX7_findBest_36 : decode cX7_findBest 36 = .ok (.aload_n 0, 1) := by decide +kernel
theorem dX7_findBest_37 : decode cX7_findBest 37 = .ok (.getfield 35, 3) := by decide +kernel
theorem dX7_findBest_40 : decode cX7_findBest 40 = .ok (.iload_n 1, 1) := by decide +kernel
theorem dX7_findBest_41 : decode cX7_findBest 41 = .ok (.iaload, 1) := by decide +kernel
theorem dX7_findBest_42 : decode cX7_findBest 42 = .ok (.if_icmp .eq 16, 3) := by decide +kernel
theorem dX7_findBest_45 : decode cX7_findBest 45 = .ok (.aload_n 0, 1) := by decide +kernel
theorem dX7_findBest_46 : decode cX7_findBest 46 = .ok (.aload_n 0, 1) := by decide +kernel
theorem dX7_findBest_47 : decode cX7_findBest 47 = .ok (.iload_n 1, 1) := by decide +kernel
theorem dX7_findBest_48 : decode cX7_findBest 48 = .ok (.iload_n 2, 1) := by decide +kernel
theorem dX7_findBest_49 : decode cX7_findBest 49 = .ok (.invokevirtual 149, 3) := by decide +kernel
theorem dX7_findBest_52 : decode cX7_findBest 52 = .ok (.iload_n 1, 1) := by decide +kernel
theorem dX7_findBest_53 : decode cX7_findBest 53 = .ok (.iload_n 2, 1) := by decide +kernel
theorem dX7_findBest_54 : decode cX7_findBest 54 = .ok (.iconst 0, 1) := by decide +kernel
theorem dX7_findBest_55 : decode cX7_findBest 55 = .ok (.invokevirtual 152, 3) := by decide +kernel
theorem dX7_findBest_58 : decode cX7_findBest 58 = .ok (.iinc 2 1, 3) := by decide +kernel
theorem dX7_findBest_61 : decode cX7_findBest 61 = .ok (.goto (-44), 3) := by decide +kernel
theorem dX7_findBest_64 : decode cX7_findBest 64 = .ok (.aload_n 0, 1) := by decide +kernel
theorem dX7_findBest_65 : decode cX7_findBest 65 = .ok (.aload_n 0, 1) := by decide +kernel
theorem dX7_findBest_66 : decode cX7_findBest 66 = .ok (.getfield 35, 3) := by decide +kernel
theorem dX7_findBest_69 : decode cX7_findBest 69 = .ok (.iload_n 1, 1) := by decide +kernel
theorem dX7_findBest_70 : decode cX7_findBest 70 = .ok (.iaload, 1) := by decide +kernel
theorem dX7_findBest_71 : decode cX7_findBest 71 = .ok (.invokevirtual 156, 3) := by decide +kernel
theorem dX7_findBest_74 : decode cX7_findBest 74 = .ok (.iconst 1, 1) := by decide +kernel
theorem dX7_findBest_75 : decode cX7_findBest 75 = .ok (.if_icmp .le 18, 3) := by decide +kernel
theorem dX7_findBest_78 : decode cX7_findBest 78 = .ok (.aload_n 0, 1) := by decide +kernel
theorem dX7_findBest_79 : decode cX7_findBest 79 = .ok (.aload_n 0, 1) := by decide +kernel
theorem dX7_findBest_80 : decode cX7_findBest 80 = .ok (.iload_n 1, 1) := by decide +kernel
theorem dX7_findBest_81 : decode cX7_findBest 81 = .ok (.bipush 100, 2) := by decide +kernel
theorem dX7_findBest_83 : decode cX7_findBest 83 = .ok (.invokevirtual 149, 3) := by decide +kernel
theorem dX7_findBest_86 : decode cX7_findBest 86 = .ok (.iload_n 1, 1) := by decide +kernel
theorem dX7_findBest_87 : decode cX7_findBest 87 = .ok (.bipush 100, 2) := by decide +kernel
theorem dX7_findBest_89 : decode cX7_findBest 89 = .ok (.iconst 0, 1) := by decide +kernel
theorem dX7_findBest_90 : decode cX7_findBest 90 = .ok (.invokevirtual 152, 3) := by decide +kernel
theorem dX7_findBest_93 : decode cX7_findBest 93 = .ok (.iinc 1 1, 3) := by decide +kernel
theorem dX7_findBest_96 : decode cX7_findBest 96 = .ok (.goto (-89), 3) := by decide +kernel
theorem dX7_findBest_99 : decode cX7_findBest 99 = .ok (.iconst 0, 1) := by decide +kernel
theorem dX7_findBest_100 : decode cX7_findBest 100 = .ok (.istore_n 1, 1) := by decide +kernel
theorem dX7_findBest_101 : decode cX7_findBest 101 = .ok (.iload_n 1, 1) := by decide +kernel
theorem dX7_findBest_102 : decode cX7_findBest 102 = .ok (.aload_n 0, 1) := by decide +kernel
theorem dX7_findBest_103 : decode cX7_findBest 103 = .ok (.getfield 86, 3) := by decide +kernel
theorem dX7_findBest_106 : decode cX7_findBest 106 = .ok (.if_icmp .ge 60, 3) := by decide +kernel
theorem dX7_findBest_109 : decode cX7_findBest 109 = .ok (.iload_n 1, 1) := by decide +kernel
theorem dX7_findBest_110 : decode cX7_findBest 110 = .ok (.iconst 1, 1) := by decide +kernel
theorem dX7_findBest_111 : decode cX7_findBest 111 = .ok (.iadd, 1) := by decide +kernel
theorem dX7_findBest_112 : decode cX7_findBest 112 = .ok (.istore_n 2, 1) := by decide +kernel
theorem dX7_findBest_113 : decode cX7_findBest 113 = .ok (.iload_n 2, 1) := by decide +kernel
theorem dX7_findBest_114 : decode cX7_findBest 114 = .ok (.aload_n 0, 1) := by decide +kernel
theorem dX7_findBest_115 : decode cX7_findBest 115 = .ok (.getfield 86, 3) := by decide +kernel
theorem dX7_findBest_118 : decode cX7_findBest 118 = .ok (.if_icmp .ge 42, 3) := by decide +kernel
theorem dX7_findBest_121 : decode cX7_findBest 121 = .ok (.aload_n 0, 1) := by decide +kernel
theorem dX7_findBest_122 : decode cX7_findBest 122 = .ok (.getfield 35, 3) := by decide +kernel
theorem dX7_findBest_125 : decode cX7_findBest 125 = .ok (.iload_n 1, 1) := by decide +kernel
theorem dX7_findBest_126 : decode cX7_findBest 126 = .ok (.iaload, 1) := by decide +kernel
theorem dX7_findBest_127 : decode cX7_findBest 127 = .ok (.iload_n 1, 1) := by decide +kernel
theorem dX7_findBest_128 : decode cX7_findBest 128 = .ok (.if_icmp .ne 26, 3) := by decide +kernel
theorem dX7_findBest_131 : decode cX7_findBest 131 = .ok (.aload_n 0, 1) := by decide +kernel
theorem dX7_findBest_132 : decode cX7_findBest 132 = .ok (.getfield 35, 3) := by decide +kernel
theorem dX7_findBest_135 : decode cX7_findBest 135 = .ok (.iload_n 2, 1) := by decide +kernel
theorem dX7_findBest_136 : decode cX7_findBest 136 = .ok (.iaload, 1) := by decide +kernel
theorem dX7_findBest_137 : decode cX7_findBest 137 = .ok (.iload_n 2, 1) := by decide +kernel
theorem dX7_findBest_138 : decode cX7_findBest 138 = .ok (.if_icmp .ne 16, 3) := by decide +kernel
theorem dX7_findBest_141 : decode cX7_findBest 141 = .ok (.aload_n 0, 1) := by decide +kernel
theorem dX7_findBest_142 : decode cX7_findBest 142 = .ok (.aload_n 0, 1) := by decide +kernel
theorem dX7_findBest_143 : decode cX7_findBest 143 = .ok (.iload_n 1, 1) := by decide +kernel
theorem dX7_findBest_144 : decode cX7_findBest 144 = .ok (.iload_n 2, 1) := by decide +kernel
theorem dX7_findBest_145 : decode cX7_findBest 145 = .ok (.invokevirtual 159, 3) := by decide +kernel
theorem dX7_findBest_148 : decode cX7_findBest 148 = .ok (.iload_n 1, 1) := by decide +kernel
theorem dX7_findBest_149 : decode cX7_findBest 149 = .ok (.iload_n 2, 1) := by decide +kernel
theorem dX7_findBest_150 : decode cX7_findBest 150 = .ok (.iconst 1, 1) := by decide +kernel
theorem dX7_findBest_151 : decode cX7_findBest 151 = .ok (.invokevirtual 152, 3) := by decide +kernel
theorem dX7_findBest_154 : decode cX7_findBest 154 = .ok (.iinc 2 1, 3) := by decide +kernel
theorem dX7_findBest_157 : decode cX7_findBest 157 = .ok (.goto (-44), 3) := by decide +kernel
theorem dX7_findBest_160 : decode cX7_findBest 160 = .ok (.iinc 1 1, 3) := by decide +kernel
theorem dX7_findBest_163 : decode cX7_findBest 163 = .ok (.goto (-62), 3) := by decide +kernel
theorem dX7_findBest_166 : decode cX7_findBest 166 = .ok (.return_, 1) := by decide +kernel
set_option maxRecDepth 20000 in
theorem ggX7_settles_X7_findDistances : GoodIn wsX7_settles wsX7_findDistances := goodIn_r _ [12, 2, 13, 14, 15, 16, 11, 17, 18, 19, 20, 21, 22, 23, 24, 25, 26, 27, 28, 29, 30, 31, 32, 33, 34, 35, 36, 37, 38, 39, 40, 41, 42, 43, 44, 45, 46, 47, 48, 49, 50, 86, 87, 88, 89, 90, 91, 92, 93, 94, 95, 96, 97, 98, 99, 100, 101, 102, 103, 104, 105, 106, 107, 108, 109, 110, 111, 112, 113, 114, 115, 116] (by decide +kernel) (by decide +kernel)
set_option maxRecDepth 20000 in
theorem gX7_settles_X7_findDistances : GoodIn wsX7_settles (wsV RX7 162 RX7 yX7_findDistances wsX7_findDistances) := goodIn_app (goodIn_of _ (by decide +kernel)) ggX7_settles_X7_findDistances
set_option maxRecDepth 20000 in
theorem ggX7_settles_X7_findBest : GoodIn wsX7_settles wsX7_findBest := goodIn_r _ [54, 1, 2, 4, 55, 56, 57, 11, 58, 59, 60, 61, 62, 63, 64, 65, 66, 13, 67, 68, 69, 70, 71, 72, 6, 5, 3, 73, 74, 75, 76, 77, 78, 79, 80, 86, 87, 88, 89, 90, 91, 92, 93, 94, 95, 96, 97, 98, 99, 100, 101, 102, 103, 104, 105, 106, 107, 108, 109, 110, 111, 112, 113, 114, 115, 116] (by decide +kernel) (by decide +kernel)
set_option maxRecDepth 20000 in
theorem gX7_settles_X7_findBest : GoodIn wsX7_settles (wsV RX7 165 RX7 yX7_findBest wsX7_findBest) := goodIn_app (goodIn_of _ (by decide +kernel)) ggX7_settles_X7_findBest
set_option maxRecDepth 20000 in
theorem ggX7_settles_X7_names : GoodIn wsX7_settles wsX7_names := goodIn_r _ [84, 2, 4, 85, 86, 87, 88, 89, 90, 91, 92, 93, 94, 95, 96, 97, 98, 99, 100, 101, 102, 103, 104, 105, 106, 107, 108, 109, 110, 111, 112, 113, 114, 115, 116] (by decide +kernel) (by decide +kernel)
set_option maxRecDepth 20000 in
theorem gX7_settles_X7_names : GoodIn wsX7_settles (wsV RX7 168 RX7 yX7_names wsX7_names) := goodIn_app (goodIn_of _ (by decide +kernel)) ggX7_settles_X7_names
theorem dX7_settles_0 : decode cX7_settles 0 = .ok (.aload_n 0, 1) := by decide +kernel
theorem dX7_settles_1 : decode cX7_settles 1 = .ok (.invokevirtual 162, 3) := by decide +kernel
theorem dX7_settles_4 : decode cX7_settles 4 = .ok (.aload_n 0, 1) := by decide +kernel
theorem dX7_settles_5 : decode cX7_settles 5 = .ok (.invokevirtual 165, 3) := by decide +kernel
theorem dX7_settles_8 : decode cX7_settles 8 = .ok (.aload_n 0, 1) := by decide +kernel
theorem dX7_settles_9 : decode cX7_settles 9 = .ok (.getfield 136, 3) := by decide +kernel
theorem dX7_settles_12 : decode cX7_settles 12 = .ok (.ifCond .ge 95, 3) := by decide +kernel
theorem dX7_settles_15 : decode cX7_settles 15 = .ok (.iconst 0, 1) := by decide +kernel
theorem dX7_settles_16 : decode cX7_settles 16 = .ok (.istore_n 1, 1) := by decide +kernel
theorem dX7_settles_17 : decode cX7_settles 17 = .ok (.iload_n 1, 1) := by decide +kernel
theorem dX7_settles_18 : decode cX7_settles 18 = .ok (.aload_n 0, 1) := by decide +kernel
theorem dX7_settles_19 : decode cX7_settles 19 = .ok (.getfield 86, 3) := by decide +kernel
theorem dX7_settles_22 : decode cX7_settles 22 = .ok (.if_icmp .ge 64, 3) := by decide +kernel
theorem dX7_settles_25 : decode cX7_settles 25 = .ok (.aload_n 0, 1) := by decide +kernel
theorem dX7_settles_26 : decode cX7_settles 26 = .ok (.getfield 145, 3) := by decide +kernel
theorem dX7_settles_29 : decode cX7_settles 29 = .ok (.ifCond .eq 19, 3) := by decide +kernel
theorem dX7_settles_32 : decode cX7_settles 32 = .ok (.aload_n 0, 1) := by decide +kernel
theorem dX7_settles_33 : decode cX7_settles 33 = .ok (.getfield 35, 3) := by decide +kernel
theorem dX7_settles_36 : decode cX7_settles 36 = .ok (.iload_n 1, 1) := by decide +kernel
theorem dX7_settles_37 : decode cX7_settles 37 = .ok (.iaload, 1) := by decide +kernel
theorem dX7_settles_38 : decode cX7_settles 38 = .ok (.aload_n 0, 1) := by decide +kernel
theorem dX7_settles_39 : decode cX7_settles 39 = .ok (.getfield 142, 3) := by decide +kernel
theorem dX7_settles_42 : decode cX7_settles 42 = .ok (.if_icmp .ne 38, 3) := by decide +kernel
theorem dX7_settles_45 : decode cX7_settles 45 = .ok (.goto 11, 3) := by decide +kernel
theorem dX7_settles_48 : decode cX7_settles 48 = .ok (.iload_n 1, 1) := by decide +kernel
theorem dX7_settles_49 : decode cX7_settles 49 = .ok (.aload_n 0, 1) := by decide +kernel
theorem dX7_settles_50 : decode cX7_settles 50 = .ok (.getfield 139, 3) := by decide +kernel
theorem dX7_settles_53 : decode cX7_settles 53 = .ok (.if_icmp .ne 27, 3) := by decide +kernel
theorem dX7_settles_56 : decode cX7_settles 56 = .ok (.aload_n 0, 1) := by decide +kernel
theorem dX7_settles_57 : decode cX7_settles 57 = .ok (.getfield 35, 3) := by decide +kernel
theorem dX7_settles_60 : decode cX7_settles 60 = .ok (.iload_n 1, 1) := by decide +kernel
theorem dX7_settles_61 : decode cX7_settles 61 = .ok (.aload_n 0, 1) := by decide +kernel
end
section
theorem dX7_settles_62 : decode cX7_settles 62 = .ok (.getfield 145, 3) := by decide +kernel
theorem dX7_settles_65 : decode cX7_settles 65 = .ok (.ifCond .eq 10, 3) := by decide +kernel
theorem dX7_settles_68 : decode cX7_settles 68 = .ok (.aload_n 0, 1) := by decide +kernel
theorem dX7_settles_69 : decode cX7_settles 69 = .ok (.getfield 139, 3) := by decide +kernel
theorem dX7_settles_72 : decode cX7_settles 72 = .ok (.goto 7, 3) := by decide +kernel
theorem dX7_settles_75 : decode cX7_settles 75 = .ok (.aload_n 0, 1) := by decide +kernel
theorem dX7_settles_76 : decode cX7_settles 76 = .ok (.getfield 142, 3) := by decide +kernel
theorem dX7_settles_79 : decode cX7_settles 79 = .ok (.iastore, 1) := by decide +kernel
theorem dX7_settles_80 : decode cX7_settles 80 = .ok (.iinc 1 1, 3) := by decide +kernel
theorem dX7_settles_83 : decode cX7_settles 83 = .ok (.goto (-66), 3) := by decide +kernel
theorem dX7_settles_86 : decode cX7_settles 86 = .ok (.aload_n 0, 1) := by decide +kernel
theorem dX7_settles_87 : decode cX7_settles 87 = .ok (.invokevirtual 168, 3) := by decide +kernel
theorem dX7_settles_90 : decode cX7_settles 90 = .ok (.aload_n 0, 1) := by decide +kernel
theorem dX7_settles_91 : decode cX7_settles 91 = .ok (.dup, 1) := by decide +kernel
theorem dX7_settles_92 : decode cX7_settles 92 = .ok (.getfield 171, 3) := by decide +kernel
theorem dX7_settles_95 : decode cX7_settles 95 = .ok (.iconst 1, 1) := by decide +kernel
theorem dX7_settles_96 : decode cX7_settles 96 = .ok (.iadd, 1) := by decide +kernel
theorem dX7_settles_97 : decode cX7_settles 97 = .ok (.putfield 171, 3) := by decide +kernel
theorem dX7_settles_100 : decode cX7_settles 100 = .ok (.aload_n 0, 1) := by decide +kernel
theorem dX7_settles_101 : decode cX7_settles 101 = .ok (.invokevirtual 165, 3) := by decide +kernel
theorem dX7_settles_104 : decode cX7_settles 104 = .ok (.goto (-96), 3) := by decide +kernel
theorem dX7_settles_107 : decode cX7_settles 107 = .ok (.return_, 1) := by decide +kernel
set_option maxRecDepth 20000 in
theorem ggX7_resettle_X7_settles : GoodIn wsX7_resettle wsX7_settles := goodIn_r _ [8, 9, 2, 10, 3, 11, 12, 13, 14, 15, 16, 7, 17, 18, 19, 20, 21, 22, 23, 24, 25, 26, 27, 28, 29, 30, 31, 32, 33, 34, 35, 36, 37, 38, 39, 40, 41, 42, 43, 44, 45, 46, 47, 48, 49, 50, 51, 52, 53, 54, 55, 56, 57, 58, 59, 60, 61, 62, 63, 64, 65, 66, 67, 68, 69, 70, 71, 72, 73, 74, 75, 76, 77, 78, 79, 80, 81, 82, 83, 84, 85, 86, 87, 88, 89, 90, 95, 96, 97, 98, 99, 100, 101, 102, 103, 104, 105, 106, 107, 108, 109, 110, 111, 112, 113, 114, 115, 116, 117, 118, 119, 120, 121, 122, 123, 124, 125] (by decide +kernel) (by decide +kernel)
set_option maxRecDepth 20000 in
theorem gX7_resettle_X7_settles : GoodIn wsX7_resettle (wsV RX7 93 RX7 yX7_settles wsX7_settles) := goodIn_app (goodIn_of _ (by decide +kernel)) ggX7_resettle_X7_settles
set_option maxRecDepth 20000 in
theorem ggX7_resettle_X7_heaps : GoodIn wsX7_resettle wsX7_heaps := goodIn_r _ [94, 2, 3, 95, 96, 97, 98, 99, 100, 101, 102, 103, 104, 105, 106, 107, 108, 109, 110, 111, 112, 113, 114, 115, 116, 117, 118, 119, 120, 121, 122, 123, 124, 125] (by decide +kernel) (by decide +kernel)
set_option maxRecDepth 20000 in
theorem gX7_resettle_X7_heaps : GoodIn wsX7_resettle (wsV RX7 174 RX7 yX7_heaps wsX7_heaps) := goodIn_app (goodIn_of _ (by decide +kernel)) ggX7_resettle_X7_heaps
theorem dX7_resettle_0 : decode cX7_resettle 0 = .ok (.aload_n 0, 1) := by decide +kernel
theorem dX7_resettle_1 : decode cX7_resettle 1 = .ok (.iconst 0, 1) := by decide +kernel
theorem dX7_resettle_2 : decode cX7_resettle 2 = .ok (.putfield 1, 3) := by decide +kernel
theorem dX7_resettle_5 : decode cX7_resettle 5 = .ok (.iconst 0, 1) := by decide +kernel
theorem dX7_resettle_6 : decode cX7_resettle 6 = .ok (.istore_n 1, 1) := by decide +kernel
theorem dX7_resettle_7 : decode cX7_resettle 7 = .ok (.iload_n 1, 1) := by decide +kernel
theorem dX7_resettle_8 : decode cX7_resettle 8 = .ok (.aload_n 0, 1) := by decide +kernel
theorem dX7_resettle_9 : decode cX7_resettle 9 = .ok (.getfield 86, 3) := by decide +kernel
theorem dX7_resettle_12 : decode cX7_resettle 12 = .ok (.if_icmp .ge 16, 3) := by decide +kernel
theorem dX7_resettle_15 : decode cX7_resettle 15 = .ok (.aload_n 0, 1) := by decide +kernel
theorem dX7_resettle_16 : decode cX7_resettle 16 = .ok (.getfield 35, 3) := by decide +kernel
theorem dX7_resettle_19 : decode cX7_resettle 19 = .ok (.iload_n 1, 1) := by decide +kernel
theorem dX7_resettle_20 : decode cX7_resettle 20 = .ok (.iload_n 1, 1) := by decide +kernel
theorem dX7_resettle_21 : decode cX7_resettle 21 = .ok (.iastore, 1) := by decide +kernel
theorem dX7_resettle_22 : decode cX7_resettle 22 = .ok (.iinc 1 1, 3) := by decide +kernel
theorem dX7_resettle_25 : decode cX7_resettle 25 = .ok (.goto (-18), 3) := by decide +kernel
theorem dX7_resettle_28 : decode cX7_resettle 28 = .ok (.aload_n 0, 1) := by decide +kernel
theorem dX7_resettle_29 : decode cX7_resettle 29 = .ok (.invokevirtual 93, 3) := by decide +kernel
theorem dX7_resettle_32 : decode cX7_resettle 32 = .ok (.aload_n 0, 1) := by decide +kernel
theorem dX7_resettle_33 : decode cX7_resettle 33 = .ok (.invokevirtual 174, 3) := by decide +kernel
theorem dX7_resettle_36 : decode cX7_resettle 36 = .ok (.ireturn, 1) := by decide +kernel
theorem dX7_heaps_0 : decode cX7_heaps 0 = .ok (.iconst 0, 1) := by decide +kernel
theorem dX7_heaps_1 : decode cX7_heaps 1 = .ok (.istore_n 1, 1) := by decide +kernel
theorem dX7_heaps_2 : decode cX7_heaps 2 = .ok (.iconst 0, 1) := by decide +kernel
theorem dX7_heaps_3 : decode cX7_heaps 3 = .ok (.istore_n 2, 1) := by decide +kernel
theorem dX7_heaps_4 : decode cX7_heaps 4 = .ok (.iload_n 2, 1) := by decide +kernel
theorem dX7_heaps_5 : decode cX7_heaps 5 = .ok (.aload_n 0, 1) := by decide +kernel
theorem dX7_heaps_6 : decode cX7_heaps 6 = .ok (.getfield 86, 3) := by decide +kernel
theorem dX7_heaps_9 : decode cX7_heaps 9 = .ok (.if_icmp .ge 27, 3) := by decide +kernel
theorem dX7_heaps_12 : decode cX7_heaps 12 = .ok (.iload_n 1, 1) := by decide +kernel
theorem dX7_heaps_13 : decode cX7_heaps 13 = .ok (.aload_n 0, 1) := by decide +kernel
theorem dX7_heaps_14 : decode cX7_heaps 14 = .ok (.getfield 35, 3) := by decide +kernel
theorem dX7_heaps_17 : decode cX7_heaps 17 = .ok (.iload_n 2, 1) := by decide +kernel
theorem dX7_heaps_18 : decode cX7_heaps 18 = .ok (.iaload, 1) := by decide +kernel
theorem dX7_heaps_19 : decode cX7_heaps 19 = .ok (.iload_n 2, 1) := by decide +kernel
theorem dX7_heaps_20 : decode cX7_heaps 20 = .ok (.if_icmp .ne 7, 3) := by decide +kernel
theorem dX7_heaps_23 : decode cX7_heaps 23 = .ok (.iconst 1, 1) := by decide +kernel
theorem dX7_heaps_24 : decode cX7_heaps 24 = .ok (.goto 4, 3) := by decide +kernel
theorem dX7_heaps_27 : decode cX7_heaps 27 = .ok (.iconst 0, 1) := by decide +kernel
theorem dX7_heaps_28 : decode cX7_heaps 28 = .ok (.iadd, 1) := by decide +kernel
theorem dX7_heaps_29 : decode cX7_heaps 29 = .ok (.istore_n 1, 1) := by decide +kernel
theorem dX7_heaps_30 : decode cX7_heaps 30 = .ok (.iinc 2 1, 3) := by decide +kernel
theorem dX7_heaps_33 : decode cX7_heaps 33 = .ok (.goto (-29), 3) := by decide +kernel
theorem dX7_heaps_36 : decode cX7_heaps 36 = .ok (.iload_n 1, 1) := by decide +kernel
theorem dX7_heaps_37 : decode cX7_heaps 37 = .ok (.ireturn, 1) := by decide +kernel
set_option maxRecDepth 20000 in
theorem ggX7_areTwo_X7_isReport : GoodIn wsX7_areTwo wsX7_isReport := goodIn_r _ [5, 6, 7, 8, 9, 10, 11, 12, 13, 14, 15, 16, 17, 18, 19, 20, 21, 22, 23, 24, 25, 26, 27, 28, 29, 30, 31, 32, 33, 34, 35, 36, 37] (by decide +kernel) (by decide +kernel)
set_option maxRecDepth 20000 in
theorem gX7_areTwo_X7_isReport : GoodIn wsX7_areTwo (wsV RX7 178 RX7 yX7_isReport wsX7_isReport) := goodIn_app (goodIn_of _ (by decide +kernel)) ggX7_areTwo_X7_isReport
theorem dX7_areTwo_0 : decode cX7_areTwo 0 = .ok (.aload_n 0, 1) := by decide +kernel
theorem dX7_areTwo_1 : decode cX7_areTwo 1 = .ok (.iload_n 1, 1) := by decide +kernel
theorem dX7_areTwo_2 : decode cX7_areTwo 2 = .ok (.invokevirtual 178, 3) := by decide +kernel
theorem dX7_areTwo_5 : decode cX7_areTwo 5 = .ok (.ifCond .eq 20, 3) := by decide +kernel
theorem dX7_areTwo_8 : decode cX7_areTwo 8 = .ok (.aload_n 0, 1) := by decide +kernel
theorem dX7_areTwo_9 : decode cX7_areTwo 9 = .ok (.iload_n 2, 1) := by decide +kernel
theorem dX7_areTwo_10 : decode cX7_areTwo 10 = .ok (.invokevirtual 178, 3) := by decide +kernel
theorem dX7_areTwo_13 : decode cX7_areTwo 13 = .ok (.ifCond .eq 12, 3) := by decide +kernel
theorem dX7_areTwo_16 : decode cX7_areTwo 16 = .ok (.iload_n 1, 1) := by decide +kernel
theorem dX7_areTwo_17 : decode cX7_areTwo 17 = .ok (.iload_n 2, 1) := by decide +kernel
theorem dX7_areTwo_18 : decode cX7_areTwo 18 = .ok (.if_icmp .eq 7, 3) := by decide +kernel
theorem dX7_areTwo_21 : decode cX7_areTwo 21 = .ok (.iconst 1, 1) := by decide +kernel
theorem dX7_areTwo_22 : decode cX7_areTwo 22 = .ok (.goto 4, 3) := by decide +kernel
theorem dX7_areTwo_25 : decode cX7_areTwo 25 = .ok (.iconst 0, 1) := by decide +kernel
theorem dX7_areTwo_26 : decode cX7_areTwo 26 = .ok (.ireturn, 1) := by decide +kernel
set_option maxRecDepth 20000 in
theorem ggX7_tells_X7_settles : GoodIn wsX7_tells wsX7_settles := goodIn_r _ [6, 7, 8, 9, 10, 11, 12, 13, 14, 15, 16, 5, 17, 18, 19, 20, 21, 22, 23, 24, 25, 26, 27, 28, 29, 30, 31, 32, 33, 34, 35, 36, 37, 38, 39, 40, 41, 42, 43, 44, 45, 46, 47, 48, 49, 50, 51, 52, 53, 54, 55, 56, 57, 58, 59, 60, 61, 62, 63, 64, 65, 66, 67, 68, 69, 70, 71, 1, 72, 73, 74, 75, 76, 77, 78, 79, 80, 81, 82, 83, 84, 85, 86, 87, 88, 89, 90, 91, 92, 93, 94, 95, 96, 97, 98, 99, 100, 101, 102, 103, 104, 105, 106, 107, 108, 109, 110, 111, 112, 113, 114, 115, 116, 117, 118, 119, 120] (by decide +kernel) (by decide +kernel)
set_option maxRecDepth 20000 in
theorem gX7_tells_X7_settles : GoodIn wsX7_tells (wsV RX7 93 RX7 yX7_settles wsX7_settles) := goodIn_app (goodIn_of _ (by decide +kernel)) ggX7_tells_X7_settles
theorem dX7_tells_0 : decode cX7_tells 0 = .ok (.aload_n 0, 1) := by decide +kernel
theorem dX7_tells_1 : decode cX7_tells 1 = .ok (.getfield 57, 3) := by decide +kernel
theorem dX7_tells_4 : decode cX7_tells 4 = .ok (.bipush 40, 2) := by decide +kernel
theorem dX7_tells_6 : decode cX7_tells 6 = .ok (.iload_n 1, 1) := by decide +kernel
theorem dX7_tells_7 : decode cX7_tells 7 = .ok (.imul, 1) := by decide +kernel
theorem dX7_tells_8 : decode cX7_tells 8 = .ok (.iload_n 2, 1) := by decide +kernel
theorem dX7_tells_9 : decode cX7_tells 9 = .ok (.iadd, 1) := by decide +kernel
theorem dX7_tells_10 : decode cX7_tells 10 = .ok (.iload_n 3, 1) := by decide +kernel
theorem dX7_tells_11 : decode cX7_tells 11 = .ok (.iastore, 1) := by decide +kernel
theorem dX7_tells_12 : decode cX7_tells 12 = .ok (.aload_n 0, 1) := by decide +kernel
theorem dX7_tells_13 : decode cX7_tells 13 = .ok (.getfield 57, 3) := by decide +kernel
theorem dX7_tells_16 : decode cX7_tells 16 = .ok (.bipush 40, 2) := by decide +kernel
theorem dX7_tells_18 : decode cX7_tells 18 = .ok (.iload_n 2, 1) := by decide +kernel
theorem dX7_tells_19 : decode cX7_tells 19 = .ok (.imul, 1) := by decide +kernel
theorem dX7_tells_20 : decode cX7_tells 20 = .ok (.iload_n 1, 1) := by decide +kernel
theorem dX7_tells_21 : decode cX7_tells 21 = .ok (.iadd, 1) := by decide +kernel
theorem dX7_tells_22 : decode cX7_tells 22 = .ok (.iload_n 3, 1) := by decide +kernel
theorem dX7_tells_23 : decode cX7_tells 23 = .ok (.iastore, 1) := by decide +kernel
theorem dX7_tells_24 : decode cX7_tells 24 = .ok (.aload_n 0, 1) := by decide +kernel
theorem dX7_tells_25 : decode cX7_tells 25 = .ok (.invokevirtual 93, 3) := by decide +kernel
theorem dX7_tells_28 : decode cX7_tells 28 = .ok (.return_, 1) := by decide +kernel
set_option maxRecDepth 20000 in
theorem ggX7_pair_X7_areTwo : GoodIn wsX7_pair wsX7_areTwo := goodIn_r _ [6, 7, 8, 9, 5, 10, 11, 103, 104, 105, 106, 107, 108, 109, 110, 111, 112, 113, 114, 115, 116, 117, 118, 119, 120, 121, 122, 123, 124, 125, 126, 127, 128, 129, 130, 131, 132, 133] (by decide +kernel) (by decide +kernel)
set_option maxRecDepth 20000 in
theorem gX7_pair_X7_areTwo : GoodIn wsX7_pair (wsV RX7 181 RX7 yX7_areTwo wsX7_areTwo) := goodIn_app (goodIn_of _ (by decide +kernel)) ggX7_pair_X7_areTwo
set_option maxRecDepth 20000 in
theorem ggX7_pair_X7_tells : GoodIn wsX7_pair wsX7_tells := goodIn_r _ [15, 16, 17, 18, 19, 5, 20, 21, 11, 22, 23, 24, 25, 26, 27, 28, 29, 30, 31, 32, 33, 34, 35, 36, 37, 38, 39, 40, 41, 42, 43, 44, 45, 46, 47, 48, 49, 50, 51, 52, 53, 54, 55, 56, 57, 58, 59, 60, 61, 62, 63, 64, 65, 66, 67, 68, 69, 70, 71, 72, 73, 74, 75, 76, 77, 78, 79, 80, 81, 82, 83, 84, 85, 86, 87, 88, 89, 90, 91, 92, 93, 94, 95, 96, 97, 98, 99, 100, 101, 102, 103, 104, 105, 106, 107, 108, 109, 110, 111, 112, 113, 114, 115, 116, 117, 118, 119, 120, 121, 122, 123, 124, 125, 126, 127, 128, 129, 130, 131, 132, 133] (by decide +kernel) (by decide +kernel)
set_option maxRecDepth 20000 in
theorem gX7_pair_X7_tells : GoodIn wsX7_pair (wsV RX7 184 RX7 yX7_tells wsX7_tells) := goodIn_app (goodIn_of _ (by decide +kernel)) ggX7_pair_X7_tells
theorem dX7_pair_0 : decode cX7_pair 0 = .ok (.aload_n 0, 1) := by decide +kernel
theorem dX7_pair_1 : decode cX7_pair 1 = .ok (.iconst 0, 1) := by decide +kernel
theorem dX7_pair_2 : decode cX7_pair 2 = .ok (.putfield 1, 3) := by decide +kernel
theorem dX7_pair_5 : decode cX7_pair 5 = .ok (.aload_n 0, 1) := by decide +kernel
theorem dX7_pair_6 : decode cX7_pair 6 = .ok (.iload_n 1, 1) := by decide +kernel
theorem dX7_pair_7 : decode cX7_pair 7 = .ok (.iload_n 2, 1) := by decide +kernel
theorem dX7_pair_8 : decode cX7_pair 8 = .ok (.invokevirtual 181, 3) := by decide +kernel
theorem dX7_pair_11 : decode cX7_pair 11 = .ok (.ifCond .ne 5, 3) := by decide +kernel
theorem dX7_pair_14 : decode cX7_pair 14 = .ok (.iconst 0, 1) := by decide +kernel
theorem dX7_pair_15 : decode cX7_pair 15 = .ok (.ireturn, 1) := by decide +kernel
theorem dX7_pair_16 : decode cX7_pair 16 = .ok (.aload_n 0, 1) := by decide +kernel
theorem dX7_pair_17 : decode cX7_pair 17 = .ok (.iload_n 1, 1) := by decide +kernel
theorem dX7_pair_18 : decode cX7_pair 18 = .ok (.iload_n 2, 1) := by decide +kernel
theorem dX7_pair_19 : decode cX7_pair 19 = .ok (.iload_n 3, 1) := by decide +kernel
theorem dX7_pair_20 : decode cX7_pair 20 = .ok (.ifCond .eq 7, 3) := by decide +kernel
theorem dX7_pair_23 : decode cX7_pair 23 = .ok (.iconst 1, 1) := by decide +kernel
theorem dX7_pair_24 : decode cX7_pair 24 = .ok (.goto 4, 3) := by decide +kernel
theorem dX7_pair_27 : decode cX7_pair 27 = .ok (.iconst 2, 1) := by decide +kernel
theorem dX7_pair_28 : decode cX7_pair 28 = .ok (.invokevirtual 184, 3) := by decide +kernel
theorem dX7_pair_31 : decode cX7_pair 31 = .ok (.iconst 1, 1) := by decide +kernel
theorem dX7_pair_32 : decode cX7_pair 32 = .ok (.ireturn, 1) := by decide +kernel
set_option maxRecDepth 20000 in
theorem ggX7_free_X7_areTwo : GoodIn wsX7_free wsX7_areTwo := goodIn_r _ [7, 8, 9, 10, 6, 11, 12, 103, 104, 105, 106, 107, 108, 109, 110, 111, 112, 113, 114, 115, 116, 117, 118, 119, 120, 121, 122, 123, 124, 125, 126, 127, 128, 129, 130, 131, 132, 133] (by decide +kernel) (by decide +kernel)
set_option maxRecDepth 20000 in
theorem gX7_free_X7_areTwo : GoodIn wsX7_free (wsV RX7 181 RX7 yX7_areTwo wsX7_areTwo) := goodIn_app (goodIn_of _ (by decide +kernel)) ggX7_free_X7_areTwo
set_option maxRecDepth 20000 in
theorem ggX7_free_X7_tells : GoodIn wsX7_free wsX7_tells := goodIn_r _ [16, 2, 17, 18, 19, 6, 20, 21, 12, 22, 23, 24, 25, 26, 27, 28, 29, 30, 31, 32, 33, 34, 35, 36, 37, 38, 39, 40, 41, 42, 43, 44, 45, 46, 47, 48, 49, 50, 51, 52, 53, 54, 55, 56, 57, 58, 59, 60, 61, 62, 63, 64, 65, 66, 67, 68, 69, 70, 71, 72, 73, 74, 75, 76, 77, 78, 79, 80, 81, 82, 83, 84, 85, 86, 87, 88, 89, 90, 91, 92, 93, 94, 95, 96, 97, 98, 99, 100, 101, 102, 103, 104, 105, 106, 107, 108, 109, 110, 111, 112, 113, 114, 115, 116, 117, 118, 119, 120, 121, 122, 123, 124, 125, 126, 127, 128, 129, 130, 131, 132, 133] (by decide +kernel) (by decide +kernel)
set_option maxRecDepth 20000 in
theorem gX7_free_X7_tells : GoodIn wsX7_free (wsV RX7 184 RX7 yX7_tells wsX7_tells) := goodIn_app (goodIn_of _ (by decide +kernel)) ggX7_free_X7_tells
theorem dX7_free_0 : decode cX7_free 0 = .ok (.aload_n 0, 1) := by decide +kernel
theorem dX7_free_1 : decode cX7_free 1 = .ok (.iconst 0, 1) := by decide +kernel
theorem dX7_free_2 : decode cX7_free 2 = .ok (.putfield 1, 3) := by decide +kernel
theorem dX7_free_5 : decode cX7_free 5 = .ok (.aload_n 0, 1) := by decide +kernel
theorem dX7_free_6 : decode cX7_free 6 = .ok (.iload_n 1, 1) := by decide +kernel
theorem dX7_free_7 : decode cX7_free 7 = .ok (.iload_n 2, 1) := by decide +kernel
theorem dX7_free_8 : decode cX7_free 8 = .ok (.invokevirtual 181, 3) := by decide +kernel
theorem dX7_free_11 : decode cX7_free 11 = .ok (.ifCond .eq 17, 3) := by decide +kernel
theorem dX7_free_14 : decode cX7_free 14 = .ok (.aload_n 0, 1) := by decide +kernel
theorem dX7_free_15 : decode cX7_free 15 = .ok (.getfield 57, 3) := by decide +kernel
theorem dX7_free_18 : decode cX7_free 18 = .ok (.bipush 40, 2) := by decide +kernel
theorem dX7_free_20 : decode cX7_free 20 = .ok (.iload_n 1, 1) := by decide +kernel
theorem dX7_free_21 : decode cX7_free 21 = .ok (.imul, 1) := by decide +kernel
theorem dX7_free_22 : decode cX7_free 22 = .ok (.iload_n 2, 1) := by decide +kernel
theorem dX7_free_23 : decode cX7_free 23 = .ok (.iadd, 1) := by decide +kernel
theorem dX7_free_24 : decode cX7_free 24 = .ok (.iaload, 1) := by decide +kernel
theorem dX7_free_25 : decode cX7_free 25 = .ok (.ifCond .ne 5, 3) := by decide +kernel
theorem dX7_free_28 : decode cX7_free 28 = .ok (.iconst 0, 1) := by decide +kernel
theorem dX7_free_29 : decode cX7_free 29 = .ok (.ireturn, 1) := by decide +kernel
theorem dX7_free_30 : decode cX7_free 30 = .ok (.aload_n 0, 1) := by decide +kernel
theorem dX7_free_31 : decode cX7_free 31 = .ok (.iload_n 1, 1) := by decide +kernel
theorem dX7_free_32 : decode cX7_free 32 = .ok (.iload_n 2, 1) := by decide +kernel
theorem dX7_free_33 : decode cX7_free 33 = .ok (.iconst 0, 1) := by decide +kernel
theorem dX7_free_34 : decode cX7_free 34 = .ok (.invokevirtual 184, 3) := by decide +kernel
theorem dX7_free_37 : decode cX7_free 37 = .ok (.iconst 1, 1) := by decide +kernel
theorem dX7_free_38 : decode cX7_free 38 = .ok (.ireturn, 1) := by decide +kernel
set_option maxRecDepth 20000 in
theorem ggX7_mark_X7_settles : GoodIn wsX7_mark wsX7_settles := goodIn_r _ [7, 8, 9, 10, 11, 12, 13, 14, 15, 16, 17, 6, 18, 19, 20, 21, 22, 23, 24, 25, 26, 27, 28, 29, 30, 31, 32, 33, 34, 35, 36, 37, 38, 39, 40, 41, 42, 43, 44, 45, 46, 47, 48, 49, 50, 51, 52, 53, 54, 55, 56, 57, 58, 59, 60, 61, 62, 63, 64, 65, 66, 67, 68, 69, 70, 71, 72, 73, 2, 74, 75, 76, 77, 78, 79, 80, 81, 82, 83, 84, 85, 86, 87, 88, 89, 90, 91, 92, 93, 94, 95, 96, 97, 98, 99, 100, 101, 102, 103, 104, 105, 106, 107, 108, 109, 110, 111, 112, 113, 114, 115, 116, 117, 118, 119, 120, 121] (by decide +kernel) (by decide +kernel)
set_option maxRecDepth 20000 in
theorem gX7_mark_X7_settles : GoodIn wsX7_mark (wsV RX7 93 RX7 yX7_settles wsX7_settles) := goodIn_app (goodIn_of _ (by decide +kernel)) ggX7_mark_X7_settles
theorem dX7_mark_0 : decode cX7_mark 0 = .ok (.aload_n 0, 1) := by decide +kernel
theorem dX7_mark_1 : decode cX7_mark 1 = .ok (.iconst 0, 1) := by decide +kernel
theorem dX7_mark_2 : decode cX7_mark 2 = .ok (.putfield 1, 3) := by decide +kernel
theorem dX7_mark_5 : decode cX7_mark 5 = .ok (.iload_n 1, 1) := by decide +kernel
theorem dX7_mark_6 : decode cX7_mark 6 = .ok (.ifCond .lt 9, 3) := by decide +kernel
theorem dX7_mark_9 : decode cX7_mark 9 = .ok (.iload_n 1, 1) := by decide +kernel
theorem dX7_mark_10 : decode cX7_mark 10 = .ok (.bipush 40, 2) := by decide +kernel
theorem dX7_mark_12 : decode cX7_mark 12 = .ok (.if_icmp .le 5, 3) := by decide +kernel
theorem dX7_mark_15 : decode cX7_mark 15 = .ok (.iconst 0, 1) := by decide +kernel
theorem dX7_mark_16 : decode cX7_mark 16 = .ok (.ireturn, 1) := by decide +kernel
theorem dX7_mark_17 : decode cX7_mark 17 = .ok (.aload_n 0, 1) := by decide +kernel
theorem dX7_mark_18 : decode cX7_mark 18 = .ok (.iload_n 1, 1) := by decide +kernel
theorem dX7_mark_19 : decode cX7_mark 19 = .ok (.putfield 54, 3) := by decide +kernel
theorem dX7_mark_22 : decode cX7_mark 22 = .ok (.aload_n 0, 1) := by decide +kernel
theorem dX7_mark_23 : decode cX7_mark 23 = .ok (.invokevirtual 93, 3) := by decide +kernel
theorem dX7_mark_26 : decode cX7_mark 26 = .ok (.iconst 1, 1) := by decide +kernel
theorem dX7_mark_27 : decode cX7_mark 27 = .ok (.ireturn, 1) := by decide +kernel
set_option maxRecDepth 20000 in
theorem ggX7_distance_X7_isReport : GoodIn wsX7_distance wsX7_isReport := goodIn_r _ [7, 8, 9, 10, 11, 12, 13, 14, 15, 16, 17, 18, 19, 20, 21, 22, 23, 24, 25, 26, 27, 28, 29, 30, 31, 32, 33, 34, 35, 36, 37, 38, 39] (by decide +kernel) (by decide +kernel)
set_option maxRecDepth 20000 in
theorem gX7_distance_X7_isReport : GoodIn wsX7_distance (wsV RX7 178 RX7 yX7_isReport wsX7_isReport) := goodIn_app (goodIn_of _ (by decide +kernel)) ggX7_distance_X7_isReport
theorem dX7_distance_0 : decode cX7_distance 0 = .ok (.aload_n 0, 1) := by decide +kernel
theorem dX7_distance_1 : decode cX7_distance 1 = .ok (.iconst 0, 1) := by decide +kernel
theorem dX7_distance_2 : decode cX7_distance 2 = .ok (.putfield 1, 3) := by decide +kernel
theorem dX7_distance_5 : decode cX7_distance 5 = .ok (.aload_n 0, 1) := by decide +kernel
theorem dX7_distance_6 : decode cX7_distance 6 = .ok (.iload_n 1, 1) := by decide +kernel
theorem dX7_distance_7 : decode cX7_distance 7 = .ok (.invokevirtual 178, 3) := by decide +kernel
theorem dX7_distance_10 : decode cX7_distance 10 = .ok (.ifCond .eq 25, 3) := by decide +kernel
theorem dX7_distance_13 : decode cX7_distance 13 = .ok (.aload_n 0, 1) := by decide +kernel
theorem dX7_distance_14 : decode cX7_distance 14 = .ok (.iload_n 2, 1) := by decide +kernel
theorem dX7_distance_15 : decode cX7_distance 15 = .ok (.invokevirtual 178, 3) := by decide +kernel
theorem dX7_distance_18 : decode cX7_distance 18 = .ok (.ifCond .eq 17, 3) := by decide +kernel
theorem dX7_distance_21 : decode cX7_distance 21 = .ok (.aload_n 0, 1) := by decide +kernel
theorem dX7_distance_22 : decode cX7_distance 22 = .ok (.getfield 47, 3) := by decide +kernel
theorem dX7_distance_25 : decode cX7_distance 25 = .ok (.bipush 40, 2) := by decide +kernel
theorem dX7_distance_27 : decode cX7_distance 27 = .ok (.iload_n 1, 1) := by decide +kernel
theorem dX7_distance_28 : decode cX7_distance 28 = .ok (.imul, 1) := by decide +kernel
theorem dX7_distance_29 : decode cX7_distance 29 = .ok (.iload_n 2, 1) := by decide +kernel
theorem dX7_distance_30 : decode cX7_distance 30 = .ok (.iadd, 1) := by decide +kernel
theorem dX7_distance_31 : decode cX7_distance 31 = .ok (.iaload, 1) := by decide +kernel
theorem dX7_distance_32 : decode cX7_distance 32 = .ok (.goto 4, 3) := by decide +kernel
theorem dX7_distance_35 : decode cX7_distance 35 = .ok (.iconst (-1), 1) := by decide +kernel
theorem dX7_distance_36 : decode cX7_distance 36 = .ok (.ireturn, 1) := by decide +kernel
set_option maxRecDepth 20000 in
theorem ggX7_heap_X7_isReport : GoodIn wsX7_heap wsX7_isReport := goodIn_r _ [7, 8, 9, 10, 11, 12, 13, 14, 15, 16, 17, 18, 19, 20, 21, 22, 23, 24, 25, 26, 27, 28, 29, 30, 31, 32, 33, 34, 35, 36, 37, 38, 39] (by decide +kernel) (by decide +kernel)
set_option maxRecDepth 20000 in
theorem gX7_heap_X7_isReport : GoodIn wsX7_heap (wsV RX7 178 RX7 yX7_isReport wsX7_isReport) := goodIn_app (goodIn_of _ (by decide +kernel)) ggX7_heap_X7_isReport
theorem dX7_heap_0 : decode cX7_heap 0 = .ok (.aload_n 0, 1) := by decide +kernel
theorem dX7_heap_1 : decode cX7_heap 1 = .ok (.iconst 0, 1) := by decide +kernel
theorem dX7_heap_2 : decode cX7_heap 2 = .ok (.putfield 1, 3) := by decide +kernel
theorem dX7_heap_5 : decode cX7_heap 5 = .ok (.aload_n 0, 1) := by decide +kernel
theorem dX7_heap_6 : decode cX7_heap 6 = .ok (.iload_n 1, 1) := by decide +kernel
theorem dX7_heap_7 : decode cX7_heap 7 = .ok (.invokevirtual 178, 3) := by decide +kernel
theorem dX7_heap_10 : decode cX7_heap 10 = .ok (.ifCond .eq 12, 3) := by decide +kernel
theorem dX7_heap_13 : decode cX7_heap 13 = .ok (.aload_n 0, 1) := by decide +kernel
theorem dX7_heap_14 : decode cX7_heap 14 = .ok (.getfield 35, 3) := by decide +kernel
theorem dX7_heap_17 : decode cX7_heap 17 = .ok (.iload_n 1, 1) := by decide +kernel
theorem dX7_heap_18 : decode cX7_heap 18 = .ok (.iaload, 1) := by decide +kernel
theorem dX7_heap_19 : decode cX7_heap 19 = .ok (.goto 4, 3) := by decide +kernel
theorem dX7_heap_22 : decode cX7_heap 22 = .ok (.iconst (-1), 1) := by decide +kernel
theorem dX7_heap_23 : decode cX7_heap 23 = .ok (.ireturn, 1) := by decide +kernel
set_option maxRecDepth 20000 in
theorem ggX7_cost_X7_areTwo : GoodIn wsX7_cost wsX7_areTwo := goodIn_r _ [8, 9, 10, 11, 7, 12, 3, 20, 21, 22, 23, 24, 25, 26, 27, 28, 29, 30, 31, 32, 33, 34, 35, 36, 37, 38, 39, 40, 41, 42, 43, 44, 45, 46, 47, 48, 49, 50] (by decide +kernel) (by decide +kernel)
set_option maxRecDepth 20000 in
theorem gX7_cost_X7_areTwo : GoodIn wsX7_cost (wsV RX7 181 RX7 yX7_areTwo wsX7_areTwo) := goodIn_app (goodIn_of _ (by decide +kernel)) ggX7_cost_X7_areTwo
set_option maxRecDepth 20000 in
theorem ggX7_cost_X7_pairCost : GoodIn wsX7_cost wsX7_pairCost := goodIn_r _ [16, 17, 18, 19, 20, 21, 22, 23, 24, 25, 26, 27, 28, 29, 30, 31, 32, 33, 34, 35, 36, 37, 38, 39, 40, 41, 42, 43, 44, 45, 46, 47, 48, 49, 50] (by decide +kernel) (by decide +kernel)
set_option maxRecDepth 20000 in
theorem gX7_cost_X7_pairCost : GoodIn wsX7_cost (wsV RX7 129 RX7 yX7_pairCost wsX7_pairCost) := goodIn_app (goodIn_of _ (by decide +kernel)) ggX7_cost_X7_pairCost
theorem dX7_cost_0 : decode cX7_cost 0 = .ok (.aload_n 0, 1) := by decide +kernel
theorem dX7_cost_1 : decode cX7_cost 1 = .ok (.iconst 0, 1) := by decide +kernel
theorem dX7_cost_2 : decode cX7_cost 2 = .ok (.putfield 1, 3) := by decide +kernel
theorem dX7_cost_5 : decode cX7_cost 5 = .ok (.iload_n 2, 1) := by decide +kernel
theorem dX7_cost_6 : decode cX7_cost 6 = .ok (.iconst (-1), 1) := by decide +kernel
theorem dX7_cost_7 : decode cX7_cost 7 = .ok (.if_icmp .eq 43, 3) := by decide +kernel
theorem dX7_cost_10 : decode cX7_cost 10 = .ok (.aload_n 0, 1) := by decide +kernel
theorem dX7_cost_11 : decode cX7_cost 11 = .ok (.iload_n 1, 1) := by decide +kernel
theorem dX7_cost_12 : decode cX7_cost 12 = .ok (.iload_n 2, 1) := by decide +kernel
theorem dX7_cost_13 : decode cX7_cost 13 = .ok (.invokevirtual 181, 3) := by decide +kernel
theorem dX7_cost_16 : decode cX7_cost 16 = .ok (.ifCond .eq 32, 3) := by decide +kernel
theorem dX7_cost_19 : decode cX7_cost 19 = .ok (.aload_n 0, 1) := by decide +kernel
theorem dX7_cost_20 : decode cX7_cost 20 = .ok (.iload_n 1, 1) := by decide +kernel
theorem dX7_cost_21 : decode cX7_cost 21 = .ok (.iload_n 2, 1) := by decide +kernel
theorem dX7_cost_22 : decode cX7_cost 22 = .ok (.aload_n 0, 1) := by decide +kernel
theorem dX7_cost_23 : decode cX7_cost 23 = .ok (.getfield 35, 3) := by decide +kernel
theorem dX7_cost_26 : decode cX7_cost 26 = .ok (.iload_n 1, 1) := by decide +kernel
theorem dX7_cost_27 : decode cX7_cost 27 = .ok (.iaload, 1) := by decide +kernel
theorem dX7_cost_28 : decode cX7_cost 28 = .ok (.aload_n 0, 1) := by decide +kernel
theorem dX7_cost_29 : decode cX7_cost 29 = .ok (.getfield 35, 3) := by decide +kernel
theorem dX7_cost_32 : decode cX7_cost 32 = .ok (.iload_n 2, 1) := by decide +kernel
theorem dX7_cost_33 : decode cX7_cost 33 = .ok (.iaload, 1) := by decide +kernel
theorem dX7_cost_34 : decode cX7_cost 34 = .ok (.if_icmp .ne 7, 3) := by decide +kernel
theorem dX7_cost_37 : decode cX7_cost 37 = .ok (.iconst 1, 1) := by decide +kernel
theorem dX7_cost_38 : decode cX7_cost 38 = .ok (.goto 4, 3) := by decide +kernel
theorem dX7_cost_41 : decode cX7_cost 41 = .ok (.iconst 0, 1) := by decide +kernel
theorem dX7_cost_42 : decode cX7_cost 42 = .ok (.invokevirtual 129, 3) := by decide +kernel
theorem dX7_cost_45 : decode cX7_cost 45 = .ok (.goto 4, 3) := by decide +kernel
theorem dX7_cost_48 : decode cX7_cost 48 = .ok (.iconst (-1), 1) := by decide +kernel
theorem dX7_cost_49 : decode cX7_cost 49 = .ok (.ireturn, 1) := by decide +kernel
theorem dX7_cost_50 : decode cX7_cost 50 = .ok (.iconst 0, 1) := by decide +kernel
theorem dX7_cost_51 : decode cX7_cost 51 = .ok (.istore_n 3, 1) := by decide +kernel
theorem dX7_cost_52 : decode cX7_cost 52 = .ok (.iconst 0, 1) := by decide +kernel
theorem dX7_cost_53 : decode cX7_cost 53 = .ok (.istore 4, 2) := by decide +kernel
theorem dX7_cost_55 : decode cX7_cost 55 = .ok (.iload 4, 2) := by decide +kernel
theorem dX7_cost_57 : decode cX7_cost 57 = .ok (.aload_n 0, 1) := by decide +kernel
theorem dX7_cost_58 : decode cX7_cost 58 = .ok (.getfield 86, 3) := by decide +kernel
theorem dX7_cost_61 : decode cX7_cost 61 = .ok (.if_icmp .ge 58, 3) := by decide +kernel
theorem dX7_cost_64 : decode cX7_cost 64 = .ok (.iconst 0, 1) := by decide +kernel
theorem dX7_cost_65 : decode cX7_cost 65 = .ok (.istore 5, 2) := by decide +kernel
theorem dX7_cost_67 : decode cX7_cost 67 = .ok (.iload 5, 2) := by decide +kernel
theorem dX7_cost_69 : decode cX7_cost 69 = .ok (.iload 4, 2) := by decide +kernel
theorem dX7_cost_71 : decode cX7_cost 71 = .ok (.if_icmp .ge 42, 3) := by decide +kernel
theorem dX7_cost_74 : decode cX7_cost 74 = .ok (.iload_n 3, 1) := by decide +kernel
theorem dX7_cost_75 : decode cX7_cost 75 = .ok (.aload_n 0, 1) := by decide +kernel
theorem dX7_cost_76 : decode cX7_cost 76 = .ok (.iload 4, 2) := by decide +kernel
theorem dX7_cost_78 : decode cX7_cost 78 = .ok (.iload 5, 2) := by decide +kernel
theorem dX7_cost_80 : decode cX7_cost 80 = .ok (.aload_n 0, 1) := by decide +kernel
theorem dX7_cost_81 : decode cX7_cost 81 = .ok (.getfield 35, 3) := by decide +kernel
theorem dX7_cost_84 : decode cX7_cost 84 = .ok (.iload 4, 2) := by decide +kernel
theorem dX7_cost_86 : decode cX7_cost 86 = .ok (.iaload, 1) := by decide +kernel
theorem dX7_cost_87 : decode cX7_cost 87 = .ok (.aload_n 0, 1) := by decide +kernel
theorem dX7_cost_88 : decode cX7_cost 88 = .ok (.getfield 35, 3) := by decide +kernel
theorem dX7_cost_91 : decode cX7_cost 91 = .ok (.iload 5, 2) := by decide +kernel
theorem dX7_cost_93 : decode cX7_cost 93 = .ok (.iaload, 1) := by decide +kernel
theorem dX7_cost_94 : decode cX7_cost 94 = .ok (.if_icmp .ne 7, 3) := by decide +kernel
theorem dX7_cost_97 : decode cX7_cost 97 = .ok (.iconst 1, 1) := by decide +kernel
theorem dX7_cost_98 : decode cX7_cost 98 = .ok (.goto 4, 3) := by decide +kernel
theorem dX7_cost_101 : decode cX7_cost 101 = .ok (.iconst 0, 1) := by decide +kernel
theorem dX7_cost_102 : decode cX7_cost 102 = .ok (.invokevirtual 129, 3) := by decide +kernel
theorem dX7_cost_105 : decode cX7_cost 105 = .ok (.iadd, 1) := by decide +kernel
theorem dX7_cost_106 : decode cX7_cost 106 = .ok (.istore_n 3, 1) := by decide +kernel
theorem dX7_cost_107 : decode cX7_cost 107 = .ok (.iinc 5 1, 3) := by decide +kernel
theorem dX7_cost_110 : decode cX7_cost 110 = .ok (.goto (-43), 3) := by decide +kernel
theorem dX7_cost_113 : decode cX7_cost 113 = .ok (.iinc 4 1, 3) := by decide +kernel
theorem dX7_cost_116 : decode cX7_cost 116 = .ok (.goto (-61), 3) := by decide +kernel
theorem dX7_cost_119 : decode cX7_cost 119 = .ok (.iload_n 3, 1) := by decide +kernel
theorem dX7_cost_120 : decode cX7_cost 120 = .ok (.ireturn, 1) := by decide +kernel
set_option maxRecDepth 20000 in
theorem ggX7_row_X7_isReport : GoodIn wsX7_row wsX7_isReport := goodIn_r _ [8, 9, 10, 11, 12, 13, 14, 15, 16, 17, 18, 19, 20, 21, 22, 23, 24, 25, 26, 27, 28, 29, 30, 31, 32, 33, 34, 35, 36, 37, 38, 39, 40] (by decide +kernel) (by decide +kernel)
set_option maxRecDepth 20000 in
theorem gX7_row_X7_isReport : GoodIn wsX7_row (wsV RX7 178 RX7 yX7_isReport wsX7_isReport) := goodIn_app (goodIn_of _ (by decide +kernel)) ggX7_row_X7_isReport
theorem dX7_row_0 : decode cX7_row 0 = .ok (.aload_n 0, 1) := by decide +kernel
theorem dX7_row_1 : decode cX7_row 1 = .ok (.iconst 0, 1) := by decide +kernel
theorem dX7_row_2 : decode cX7_row 2 = .ok (.putfield 1, 3) := by decide +kernel
theorem dX7_row_5 : decode cX7_row 5 = .ok (.aload_n 0, 1) := by decide +kernel
theorem dX7_row_6 : decode cX7_row 6 = .ok (.iload_n 1, 1) := by decide +kernel
theorem dX7_row_7 : decode cX7_row 7 = .ok (.invokevirtual 178, 3) := by decide +kernel
theorem dX7_row_10 : decode cX7_row 10 = .ok (.ifCond .eq 17, 3) := by decide +kernel
theorem dX7_row_13 : decode cX7_row 13 = .ok (.iload_n 2, 1) := by decide +kernel
theorem dX7_row_14 : decode cX7_row 14 = .ok (.ifCond .lt 13, 3) := by decide +kernel
theorem dX7_row_17 : decode cX7_row 17 = .ok (.iload_n 2, 1) := by decide +kernel
theorem dX7_row_18 : decode cX7_row 18 = .ok (.aload_n 0, 1) := by decide +kernel
theorem dX7_row_19 : decode cX7_row 19 = .ok (.getfield 26, 3) := by decide +kernel
theorem dX7_row_22 : decode cX7_row 22 = .ok (.iload_n 1, 1) := by decide +kernel
theorem dX7_row_23 : decode cX7_row 23 = .ok (.iaload, 1) := by decide +kernel
theorem dX7_row_24 : decode cX7_row 24 = .ok (.if_icmp .lt 7, 3) := by decide +kernel
theorem dX7_row_27 : decode cX7_row 27 = .ok (.iconst (-1), 1) := by decide +kernel
theorem dX7_row_28 : decode cX7_row 28 = .ok (.goto 14, 3) := by decide +kernel
theorem dX7_row_31 : decode cX7_row 31 = .ok (.aload_n 0, 1) := by decide +kernel
theorem dX7_row_32 : decode cX7_row 32 = .ok (.getfield 23, 3) := by decide +kernel
theorem dX7_row_35 : decode cX7_row 35 = .ok (.bipush 12, 2) := by decide +kernel
theorem dX7_row_37 : decode cX7_row 37 = .ok (.iload_n 1, 1) := by decide +kernel
theorem dX7_row_38 : decode cX7_row 38 = .ok (.imul, 1) := by decide +kernel
theorem dX7_row_39 : decode cX7_row 39 = .ok (.iload_n 2, 1) := by decide +kernel
theorem dX7_row_40 : decode cX7_row 40 = .ok (.iadd, 1) := by decide +kernel
theorem dX7_row_41 : decode cX7_row 41 = .ok (.iaload, 1) := by decide +kernel
theorem dX7_row_42 : decode cX7_row 42 = .ok (.ireturn, 1) := by decide +kernel
set_option maxRecDepth 20000 in
theorem ggX7_common_X7_isCommon : GoodIn wsX7_common wsX7_isCommon := goodIn_r _ [6, 7, 8, 9, 10, 5, 11, 12, 13, 14, 15, 16, 17, 18, 19, 20, 21, 22, 23, 24, 25, 26, 27, 28, 29, 30, 31, 32, 33, 34, 35, 36, 37, 38, 39, 40, 41, 42, 43, 44] (by decide +kernel) (by decide +kernel)
set_option maxRecDepth 20000 in
theorem gX7_common_X7_isCommon : GoodIn wsX7_common (wsV RX7 99 RX7 yX7_isCommon wsX7_isCommon) := goodIn_app (goodIn_of _ (by decide +kernel)) ggX7_common_X7_isCommon
theorem dX7_common_0 : decode cX7_common 0 = .ok (.aload_n 0, 1) := by decide +kernel
theorem dX7_common_1 : decode cX7_common 1 = .ok (.iconst 0, 1) := by decide +kernel
theorem dX7_common_2 : decode cX7_common 2 = .ok (.putfield 1, 3) := by decide +kernel
theorem dX7_common_5 : decode cX7_common 5 = .ok (.aload_n 0, 1) := by decide +kernel
theorem dX7_common_6 : decode cX7_common 6 = .ok (.iload_n 1, 1) := by decide +kernel
theorem dX7_common_7 : decode cX7_common 7 = .ok (.invokevirtual 99, 3) := by decide +kernel
theorem dX7_common_10 : decode cX7_common 10 = .ok (.ifCond .eq 7, 3) := by decide +kernel
theorem dX7_common_13 : decode cX7_common 13 = .ok (.iconst 1, 1) := by decide +kernel
theorem dX7_common_14 : decode cX7_common 14 = .ok (.goto 4, 3) := by decide +kernel
theorem dX7_common_17 : decode cX7_common 17 = .ok (.iconst 0, 1) := by decide +kernel
theorem dX7_common_18 : decode cX7_common 18 = .ok (.ireturn, 1) := by decide +kernel
set_option maxRecDepth 20000 in
theorem ggX7_findShared_X7_stands : GoodIn wsX7_findShared wsX7_stands := goodIn_r _ [9, 10, 11, 12, 13, 14, 15, 16, 17, 18, 19, 20, 21, 22, 23, 24, 25, 26, 27, 28, 29, 30, 31, 32, 33, 34, 35, 36, 37, 38, 39, 40, 41, 42] (by decide +kernel) (by decide +kernel)
set_option maxRecDepth 20000 in
theorem gX7_findShared_X7_stands : GoodIn wsX7_findShared (wsV RX7 96 RX7 yX7_stands wsX7_stands) := goodIn_app (goodIn_of _ (by decide +kernel)) ggX7_findShared_X7_stands
theorem dX7_findShared_0 : decode cX7_findShared 0 = .ok (.aload_n 0, 1) := by decide +kernel
theorem dX7_findShared_1 : decode cX7_findShared 1 = .ok (.iconst 0, 1) := by decide +kernel
theorem dX7_findShared_2 : decode cX7_findShared 2 = .ok (.putfield 188, 3) := by decide +kernel
theorem dX7_findShared_5 : decode cX7_findShared 5 = .ok (.iconst 1, 1) := by decide +kernel
theorem dX7_findShared_6 : decode cX7_findShared 6 = .ok (.istore_n 2, 1) := by decide +kernel
theorem dX7_findShared_7 : decode cX7_findShared 7 = .ok (.iload_n 2, 1) := by decide +kernel
theorem dX7_findShared_8 : decode cX7_findShared 8 = .ok (.sipush 500, 3) := by decide +kernel
theorem dX7_findShared_11 : decode cX7_findShared 11 = .ok (.if_icmp .gt 93, 3) := by decide +kernel
theorem dX7_findShared_14 : decode cX7_findShared 14 = .ok (.iconst 1, 1) := by decide +kernel
theorem dX7_findShared_15 : decode cX7_findShared 15 = .ok (.istore_n 3, 1) := by decide +kernel
theorem dX7_findShared_16 : decode cX7_findShared 16 = .ok (.iconst 0, 1) := by decide +kernel
theorem dX7_findShared_17 : decode cX7_findShared 17 = .ok (.istore 4, 2) := by decide +kernel
theorem dX7_findShared_19 : decode cX7_findShared 19 = .ok (.iload 4, 2) := by decide +kernel
theorem dX7_findShared_21 : decode cX7_findShared 21 = .ok (.aload_n 0, 1) := by decide +kernel
theorem dX7_findShared_22 : decode cX7_findShared 22 = .ok (.getfield 86, 3) := by decide +kernel
theorem dX7_findShared_25 : decode cX7_findShared 25 = .ok (.if_icmp .ge 40, 3) := by decide +kernel
theorem dX7_findShared_28 : decode cX7_findShared 28 = .ok (.iload_n 3, 1) := by decide +kernel
theorem dX7_findShared_29 : decode cX7_findShared 29 = .ok (.ifCond .eq 36, 3) := by decide +kernel
theorem dX7_findShared_32 : decode cX7_findShared 32 = .ok (.aload_n 0, 1) := by decide +kernel
theorem dX7_findShared_33 : decode cX7_findShared 33 = .ok (.getfield 35, 3) := by decide +kernel
theorem dX7_findShared_36 : decode cX7_findShared 36 = .ok (.iload 4, 2) := by decide +kernel
theorem dX7_findShared_38 : decode cX7_findShared 38 = .ok (.iaload, 1) := by decide +kernel
theorem dX7_findShared_39 : decode cX7_findShared 39 = .ok (.iload_n 1, 1) := by decide +kernel
theorem dX7_findShared_40 : decode cX7_findShared 40 = .ok (.if_icmp .ne 13, 3) := by decide +kernel
theorem dX7_findShared_43 : decode cX7_findShared 43 = .ok (.aload_n 0, 1) := by decide +kernel
theorem dX7_findShared_44 : decode cX7_findShared 44 = .ok (.iload_n 2, 1) := by decide +kernel
theorem dX7_findShared_45 : decode cX7_findShared 45 = .ok (.iload 4, 2) := by decide +kernel
theorem dX7_findShared_47 : decode cX7_findShared 47 = .ok (.invokevirtual 96, 3) := by decide +kernel
theorem dX7_findShared_50 : decode cX7_findShared 50 = .ok (.ifCond .eq 7, 3) := by decide +kernel
theorem dX7_findShared_53 : decode cX7_findShared 53 = .ok (.iconst 1, 1) := by decide +kernel
theorem dX7_findShared_54 : decode cX7_findShared 54 = .ok (.goto 4, 3) := by decide +kernel
theorem dX7_findShared_57 : decode cX7_findShared 57 = .ok (.iconst 0, 1) := by decide +kernel
theorem dX7_findShared_58 : decode cX7_findShared 58 = .ok (.istore_n 3, 1) := by decide +kernel
theorem dX7_findShared_59 : decode cX7_findShared 59 = .ok (.iinc 4 1, 3) := by decide +kernel
theorem dX7_findShared_62 : decode cX7_findShared 62 = .ok (.goto (-43), 3) := by decide +kernel
theorem dX7_findShared_65 : decode cX7_findShared 65 = .ok (.iload_n 3, 1) := by decide +kernel
theorem dX7_findShared_66 : decode cX7_findShared 66 = .ok (.ifCond .eq 32, 3) := by decide +kernel
theorem dX7_findShared_69 : decode cX7_findShared 69 = .ok (.aload_n 0, 1) := by decide +kernel
theorem dX7_findShared_70 : decode cX7_findShared 70 = .ok (.getfield 188, 3) := by decide +kernel
theorem dX7_findShared_73 : decode cX7_findShared 73 = .ok (.bipush 12, 2) := by decide +kernel
theorem dX7_findShared_75 : decode cX7_findShared 75 = .ok (.if_icmp .ge 23, 3) := by decide +kernel
theorem dX7_findShared_78 : decode cX7_findShared 78 = .ok (.aload_n 0, 1) := by decide +kernel
theorem dX7_findShared_79 : decode cX7_findShared 79 = .ok (.getfield 69, 3) := by decide +kernel
theorem dX7_findShared_82 : decode cX7_findShared 82 = .ok (.aload_n 0, 1) := by decide +kernel
theorem dX7_findShared_83 : decode cX7_findShared 83 = .ok (.getfield 188, 3) := by decide +kernel
theorem dX7_findShared_86 : decode cX7_findShared 86 = .ok (.iload_n 2, 1) := by decide +kernel
theorem dX7_findShared_87 : decode cX7_findShared 87 = .ok (.iastore, 1) := by decide +kernel
theorem dX7_findShared_88 : decode cX7_findShared 88 = .ok (.aload_n 0, 1) := by decide +kernel
theorem dX7_findShared_89 : decode cX7_findShared 89 = .ok (.dup, 1) := by decide +kernel
theorem dX7_findShared_90 : decode cX7_findShared 90 = .ok (.getfield 188, 3) := by decide +kernel
theorem dX7_findShared_93 : decode cX7_findShared 93 = .ok (.iconst 1, 1) := by decide +kernel
theorem dX7_findShared_94 : decode cX7_findShared 94 = .ok (.iadd, 1) := by decide +kernel
theorem dX7_findShared_95 : decode cX7_findShared 95 = .ok (.putfield 188, 3) := by decide +kernel
theorem dX7_findShared_98 : decode cX7_findShared 98 = .ok (.iinc 2 1, 3) := by decide +kernel
theorem dX7_findShared_101 : decode cX7_findShared 101 = .ok (.goto (-94), 3) := by decide +kernel
theorem dX7_findShared_104 : decode cX7_findShared 104 = .ok (.return_, 1) := by decide +kernel
set_option maxRecDepth 20000 in
theorem ggX7_isMark_X7_stands : GoodIn wsX7_isMark wsX7_stands := goodIn_r _ [8, 9, 10, 11, 12, 13, 14, 15, 16, 17, 18, 19, 20, 21, 22, 23, 24, 25, 26, 27, 28, 29, 30, 31, 32, 33, 34, 35, 36, 37, 38, 39, 40, 41] (by decide +kernel) (by decide +kernel)
set_option maxRecDepth 20000 in
theorem gX7_isMark_X7_stands : GoodIn wsX7_isMark (wsV RX7 96 RX7 yX7_stands wsX7_stands) := goodIn_app (goodIn_of _ (by decide +kernel)) ggX7_isMark_X7_stands
theorem dX7_isMark_0 : decode cX7_isMark 0 = .ok (.iconst 1, 1) := by decide +kernel
theorem dX7_isMark_1 : decode cX7_isMark 1 = .ok (.istore_n 3, 1) := by decide +kernel
theorem dX7_isMark_2 : decode cX7_isMark 2 = .ok (.iconst 0, 1) := by decide +kernel
theorem dX7_isMark_3 : decode cX7_isMark 3 = .ok (.istore 4, 2) := by decide +kernel
theorem dX7_isMark_5 : decode cX7_isMark 5 = .ok (.iload 4, 2) := by decide +kernel
theorem dX7_isMark_7 : decode cX7_isMark 7 = .ok (.aload_n 0, 1) := by decide +kernel
theorem dX7_isMark_8 : decode cX7_isMark 8 = .ok (.getfield 86, 3) := by decide +kernel
theorem dX7_isMark_11 : decode cX7_isMark 11 = .ok (.if_icmp .ge 81, 3) := by decide +kernel
theorem dX7_isMark_14 : decode cX7_isMark 14 = .ok (.iload_n 3, 1) := by decide +kernel
theorem dX7_isMark_15 : decode cX7_isMark 15 = .ok (.ifCond .eq 77, 3) := by decide +kernel
theorem dX7_isMark_18 : decode cX7_isMark 18 = .ok (.aload_n 0, 1) := by decide +kernel
theorem dX7_isMark_19 : decode cX7_isMark 19 = .ok (.getfield 35, 3) := by decide +kernel
theorem dX7_isMark_22 : decode cX7_isMark 22 = .ok (.iload 4, 2) := by decide +kernel
theorem dX7_isMark_24 : decode cX7_isMark 24 = .ok (.iaload, 1) := by decide +kernel
theorem dX7_isMark_25 : decode cX7_isMark 25 = .ok (.iload_n 1, 1) := by decide +kernel
theorem dX7_isMark_26 : decode cX7_isMark 26 = .ok (.if_icmp .eq 60, 3) := by decide +kernel
theorem dX7_isMark_29 : decode cX7_isMark 29 = .ok (.iconst 1, 1) := by decide +kernel
theorem dX7_isMark_30 : decode cX7_isMark 30 = .ok (.istore 5, 2) := by decide +kernel
theorem dX7_isMark_32 : decode cX7_isMark 32 = .ok (.iconst 0, 1) := by decide +kernel
theorem dX7_isMark_33 : decode cX7_isMark 33 = .ok (.istore 6, 2) := by decide +kernel
theorem dX7_isMark_35 : decode cX7_isMark 35 = .ok (.iload 6, 2) := by decide +kernel
theorem dX7_isMark_37 : decode cX7_isMark 37 = .ok (.iload_n 2, 1) := by decide +kernel
theorem dX7_isMark_38 : decode cX7_isMark 38 = .ok (.if_icmp .ge 37, 3) := by decide +kernel
theorem dX7_isMark_41 : decode cX7_isMark 41 = .ok (.iload 5, 2) := by decide +kernel
theorem dX7_isMark_43 : decode cX7_isMark 43 = .ok (.ifCond .eq 23, 3) := by decide +kernel
theorem dX7_isMark_46 : decode cX7_isMark 46 = .ok (.aload_n 0, 1) := by decide +kernel
theorem dX7_isMark_47 : decode cX7_isMark 47 = .ok (.aload_n 0, 1) := by decide +kernel
theorem dX7_isMark_48 : decode cX7_isMark 48 = .ok (.getfield 66, 3) := by decide +kernel
theorem dX7_isMark_51 : decode cX7_isMark 51 = .ok (.iload 6, 2) := by decide +kernel
theorem dX7_isMark_53 : decode cX7_isMark 53 = .ok (.iaload, 1) := by decide +kernel
theorem dX7_isMark_54 : decode cX7_isMark 54 = .ok (.iload 4, 2) := by decide +kernel
theorem dX7_isMark_56 : decode cX7_isMark 56 = .ok (.invokevirtual 96, 3) := by decide +kernel
theorem dX7_isMark_59 : decode cX7_isMark 59 = .ok (.ifCond .eq 7, 3) := by decide +kernel
theorem dX7_isMark_62 : decode cX7_isMark 62 = .ok (.iconst 1, 1) := by decide +kernel
theorem dX7_isMark_63 : decode cX7_isMark 63 = .ok (.goto 4, 3) := by decide +kernel
theorem dX7_isMark_66 : decode cX7_isMark 66 = .ok (.iconst 0, 1) := by decide +kernel
theorem dX7_isMark_67 : decode cX7_isMark 67 = .ok (.istore 5, 2) := by decide +kernel
theorem dX7_isMark_69 : decode cX7_isMark 69 = .ok (.iinc 6 1, 3) := by decide +kernel
theorem dX7_isMark_72 : decode cX7_isMark 72 = .ok (.goto (-37), 3) := by decide +kernel
theorem dX7_isMark_75 : decode cX7_isMark 75 = .ok (.iload 5, 2) := by decide +kernel
theorem dX7_isMark_77 : decode cX7_isMark 77 = .ok (.ifCond .ne 7, 3) := by decide +kernel
theorem dX7_isMark_80 : decode cX7_isMark 80 = .ok (.iconst 1, 1) := by decide +kernel
theorem dX7_isMark_81 : decode cX7_isMark 81 = .ok (.goto 4, 3) := by decide +kernel
theorem dX7_isMark_84 : decode cX7_isMark 84 = .ok (.iconst 0, 1) := by decide +kernel
theorem dX7_isMark_85 : decode cX7_isMark 85 = .ok (.istore_n 3, 1) := by decide +kernel
theorem dX7_isMark_86 : decode cX7_isMark 86 = .ok (.iinc 4 1, 3) := by decide +kernel
theorem dX7_isMark_89 : decode cX7_isMark 89 = .ok (.goto (-84), 3) := by decide +kernel
theorem dX7_isMark_92 : decode cX7_isMark 92 = .ok (.iload_n 3, 1) := by decide +kernel
theorem dX7_isMark_93 : decode cX7_isMark 93 = .ok (.ireturn, 1) := by decide +kernel
set_option maxRecDepth 20000 in
theorem ggX7_seeks_X7_isMark : GoodIn wsX7_seeks wsX7_isMark := goodIn_r _ [8, 9, 10, 2, 11, 12, 13, 7, 14, 15, 16, 20, 21, 22, 23, 24, 25, 26, 27, 28, 29, 30, 31, 32, 33, 34, 35, 36, 37, 38, 39, 40, 41, 42, 43, 44, 45, 46, 47, 48, 49, 50] (by decide +kernel) (by decide +kernel)
set_option maxRecDepth 20000 in
theorem gX7_seeks_X7_isMark : GoodIn wsX7_seeks (wsV RX7 191 RX7 yX7_isMark wsX7_isMark) := goodIn_app (goodIn_of _ (by decide +kernel)) ggX7_seeks_X7_isMark
set_option maxRecDepth 20000 in
theorem ggX7_seeks_X7_seeks : GoodIn wsX7_seeks wsX7_seeks := goodIn_r _ [0, 1, 2, 3, 4, 5, 6, 7, 8, 9, 10, 11, 12, 13, 14, 15, 16, 17, 18, 19, 20, 21, 22, 23, 24, 25, 26, 27, 28, 29, 30, 31, 32, 33, 34, 35, 36, 37, 38, 39, 40, 41, 42, 43, 44, 45, 46, 47, 48, 49, 50] (by decide +kernel) (by decide +kernel)
set_option maxRecDepth 20000 in
theorem gX7_seeks_X7_seeks : GoodIn wsX7_seeks (wsV RX7 194 RX7 yX7_seeks wsX7_seeks) := goodIn_app (goodIn_of _ (by decide +kernel)) ggX7_seeks_X7_seeks
theorem dX7_seeks_0 : decode cX7_seeks 0 = .ok (.iload_n 3, 1) := by decide +kernel
theorem dX7_seeks_1 : decode cX7_seeks 1 = .ok (.iload_n 2, 1) := by decide +kernel
theorem dX7_seeks_2 : decode cX7_seeks 2 = .ok (.if_icmp .ne 10, 3) := by decide +kernel
theorem dX7_seeks_5 : decode cX7_seeks 5 = .ok (.aload_n 0, 1) := by decide +kernel
theorem dX7_seeks_6 : decode cX7_seeks 6 = .ok (.iload_n 1, 1) := by decide +kernel
theorem dX7_seeks_7 : decode cX7_seeks 7 = .ok (.iload_n 2, 1) := by decide +kernel
theorem dX7_seeks_8 : decode cX7_seeks 8 = .ok (.invokevirtual 191, 3) := by decide +kernel
theorem dX7_seeks_11 : decode cX7_seeks 11 = .ok (.ireturn, 1) := by decide +kernel
theorem dX7_seeks_12 : decode cX7_seeks 12 = .ok (.iload 4, 2) := by decide +kernel
theorem dX7_seeks_14 : decode cX7_seeks 14 = .ok (.istore 5, 2) := by decide +kernel
theorem dX7_seeks_16 : decode cX7_seeks 16 = .ok (.iload 5, 2) := by decide +kernel
theorem dX7_seeks_18 : decode cX7_seeks 18 = .ok (.aload_n 0, 1) := by decide +kernel
theorem dX7_seeks_19 : decode cX7_seeks 19 = .ok (.getfield 188, 3) := by decide +kernel
theorem dX7_seeks_22 : decode cX7_seeks 22 = .ok (.if_icmp .ge 40, 3) := by decide +kernel
theorem dX7_seeks_25 : decode cX7_seeks 25 = .ok (.aload_n 0, 1) := by decide +kernel
theorem dX7_seeks_26 : decode cX7_seeks 26 = .ok (.getfield 66, 3) := by decide +kernel
theorem dX7_seeks_29 : decode cX7_seeks 29 = .ok (.iload_n 3, 1) := by decide +kernel
theorem dX7_seeks_30 : decode cX7_seeks 30 = .ok (.aload_n 0, 1) := by decide +kernel
theorem dX7_seeks_31 : decode cX7_seeks 31 = .ok (.getfield 69, 3) := by decide +kernel
theorem dX7_seeks_34 : decode cX7_seeks 34 = .ok (.iload 5, 2) := by decide +kernel
theorem dX7_seeks_36 : decode cX7_seeks 36 = .ok (.iaload, 1) := by decide +kernel
theorem dX7_seeks_37 : decode cX7_seeks 37 = .ok (.iastore, 1) := by decide +kernel
theorem dX7_seeks_38 : decode cX7_seeks 38 = .ok (.aload_n 0, 1) := by decide +kernel
theorem dX7_seeks_39 : decode cX7_seeks 39 = .ok (.iload_n 1, 1) := by decide +kernel
theorem dX7_seeks_40 : decode cX7_seeks 40 = .ok (.iload_n 2, 1) := by decide +kernel
theorem dX7_seeks_41 : decode cX7_seeks 41 = .ok (.iload_n 3, 1) := by decide +kernel
theorem dX7_seeks_42 : decode cX7_seeks 42 = .ok (.iconst 1, 1) := by decide +kernel
theorem dX7_seeks_43 : decode cX7_seeks 43 = .ok (.iadd, 1) := by decide +kernel
theorem dX7_seeks_44 : decode cX7_seeks 44 = .ok (.iload 5, 2) := by decide +kernel
theorem dX7_seeks_46 : decode cX7_seeks 46 = .ok (.iconst 1, 1) := by decide +kernel
theorem dX7_seeks_47 : decode cX7_seeks 47 = .ok (.iadd, 1) := by decide +kernel
theorem dX7_seeks_48 : decode cX7_seeks 48 = .ok (.invokevirtual 194, 3) := by decide +kernel
theorem dX7_seeks_51 : decode cX7_seeks 51 = .ok (.ifCond .eq 5, 3) := by decide +kernel
theorem dX7_seeks_54 : decode cX7_seeks 54 = .ok (.iconst 1, 1) := by decide +kernel
theorem dX7_seeks_55 : decode cX7_seeks 55 = .ok (.ireturn, 1) := by decide +kernel
theorem dX7_seeks_56 : decode cX7_seeks 56 = .ok (.iinc 5 1, 3) := by decide +kernel
theorem dX7_seeks_59 : decode cX7_seeks 59 = .ok (.goto (-43), 3) := by decide +kernel
theorem dX7_seeks_62 : decode cX7_seeks 62 = .ok (.iconst 0, 1) := by decide +kernel
theorem dX7_seeks_63 : decode cX7_seeks 63 = .ok (.ireturn, 1) := by decide +kernel
set_option maxRecDepth 20000 in
theorem ggX7_sign_X7_isReport : GoodIn wsX7_sign wsX7_isReport := goodIn_r _ [10, 11, 32, 33, 34, 35, 36, 37, 38, 39, 40, 41, 42, 43, 44, 45, 46, 47, 48, 49, 50, 51, 52, 53, 54, 55, 56, 57, 58, 59, 60, 61, 62] (by decide +kernel) (by decide +kernel)
set_option maxRecDepth 20000 in
theorem gX7_sign_X7_isReport : GoodIn wsX7_sign (wsV RX7 178 RX7 yX7_isReport wsX7_isReport) := goodIn_app (goodIn_of _ (by decide +kernel)) ggX7_sign_X7_isReport
set_option maxRecDepth 20000 in
theorem ggX7_sign_X7_findShared : GoodIn wsX7_sign wsX7_findShared := goodIn_r _ [15, 16, 11, 2, 17, 18, 19, 20, 9, 21, 22, 23, 32, 33, 34, 35, 36, 37, 38, 39, 40, 41, 42, 43, 44, 45, 46, 47, 48, 49, 50, 51, 52, 53, 54, 55, 56, 57, 58, 59, 60, 61, 62] (by decide +kernel) (by decide +kernel)
set_option maxRecDepth 20000 in
theorem gX7_sign_X7_findShared : GoodIn wsX7_sign (wsV RX7 198 RX7 yX7_findShared wsX7_findShared) := goodIn_app (goodIn_of _ (by decide +kernel)) ggX7_sign_X7_findShared
set_option maxRecDepth 20000 in
theorem ggX7_sign_X7_seeks : GoodIn wsX7_sign wsX7_seeks := goodIn_r _ [27, 16, 5, 17, 28, 29, 30, 9, 31, 11, 2, 18, 19, 20, 21, 22, 23, 24, 25, 26, 32, 33, 34, 35, 36, 37, 38, 39, 40, 41, 42, 43, 44, 45, 46, 47, 48, 49, 50, 51, 52, 53, 54, 55, 56, 57, 58, 59, 60, 61, 62] (by decide +kernel) (by decide +kernel)
set_option maxRecDepth 20000 in
theorem gX7_sign_X7_seeks : GoodIn wsX7_sign (wsV RX7 194 RX7 yX7_seeks wsX7_seeks) := goodIn_app (goodIn_of _ (by decide +kernel)) ggX7_sign_X7_seeks
theorem dX7_sign_0 : decode cX7_sign 0 = .ok (.aload_n 0, 1) := by decide +kernel
theorem dX7_sign_1 : decode cX7_sign 1 = .ok (.iconst 0, 1) := by decide +kernel
theorem dX7_sign_2 : decode cX7_sign 2 = .ok (.putfield 1, 3) := by decide +kernel
theorem dX7_sign_5 : decode cX7_sign 5 = .ok (.aload_n 0, 1) := by decide +kernel
theorem dX7_sign_6 : decode cX7_sign 6 = .ok (.iload_n 1, 1) := by decide +kernel
theorem dX7_sign_7 : decode cX7_sign 7 = .ok (.invokevirtual 178, 3) := by decide +kernel
theorem dX7_sign_10 : decode cX7_sign 10 = .ok (.ifCond .ne 5, 3) := by decide +kernel
theorem dX7_sign_13 : decode cX7_sign 13 = .ok (.iconst (-1), 1) := by decide +kernel
theorem dX7_sign_14 : decode cX7_sign 14 = .ok (.ireturn, 1) := by decide +kernel
theorem dX7_sign_15 : decode cX7_sign 15 = .ok (.aload_n 0, 1) := by decide +kernel
theorem dX7_sign_16 : decode cX7_sign 16 = .ok (.aload_n 0, 1) := by decide +kernel
theorem dX7_sign_17 : decode cX7_sign 17 = .ok (.getfield 35, 3) := by decide +kernel
theorem dX7_sign_20 : decode cX7_sign 20 = .ok (.iload_n 1, 1) := by decide +kernel
theorem dX7_sign_21 : decode cX7_sign 21 = .ok (.iaload, 1) := by decide +kernel
theorem dX7_sign_22 : decode cX7_sign 22 = .ok (.invokevirtual 198, 3) := by decide +kernel
theorem dX7_sign_25 : decode cX7_sign 25 = .ok (.iconst 0, 1) := by decide +kernel
theorem dX7_sign_26 : decode cX7_sign 26 = .ok (.istore_n 2, 1) := by decide +kernel
theorem dX7_sign_27 : decode cX7_sign 27 = .ok (.iload_n 2, 1) := by decide +kernel
theorem dX7_sign_28 : decode cX7_sign 28 = .ok (.iconst 3, 1) := by decide +kernel
theorem dX7_sign_29 : decode cX7_sign 29 = .ok (.if_icmp .gt 57, 3) := by decide +kernel
theorem dX7_sign_32 : decode cX7_sign 32 = .ok (.aload_n 0, 1) := by decide +kernel
theorem dX7_sign_33 : decode cX7_sign 33 = .ok (.aload_n 0, 1) := by decide +kernel
theorem dX7_sign_34 : decode cX7_sign 34 = .ok (.getfield 35, 3) := by decide +kernel
theorem dX7_sign_37 : decode cX7_sign 37 = .ok (.iload_n 1, 1) := by decide +kernel
theorem dX7_sign_38 : decode cX7_sign 38 = .ok (.iaload, 1) := by decide +kernel
theorem dX7_sign_39 : decode cX7_sign 39 = .ok (.iload_n 2, 1) := by decide +kernel
theorem dX7_sign_40 : decode cX7_sign 40 = .ok (.iconst 0, 1) := by decide +kernel
theorem dX7_sign_41 : decode cX7_sign 41 = .ok (.iconst 0, 1) := by decide +kernel
theorem dX7_sign_42 : decode cX7_sign 42 = .ok (.invokevirtual 194, 3) := by decide +kernel
theorem dX7_sign_45 : decode cX7_sign 45 = .ok (.ifCond .eq 35, 3) := by decide +kernel
theorem dX7_sign_48 : decode cX7_sign 48 = .ok (.aload_n 0, 1) := by decide +kernel
theorem dX7_sign_49 : decode cX7_sign 49 = .ok (.iload_n 2, 1) := by decide +kernel
theorem dX7_sign_50 : decode cX7_sign 50 = .ok (.putfield 202, 3) := by decide +kernel
theorem dX7_sign_53 : decode cX7_sign 53 = .ok (.iconst 0, 1) := by decide +kernel
theorem dX7_sign_54 : decode cX7_sign 54 = .ok (.istore_n 3, 1) := by decide +kernel
theorem dX7_sign_55 : decode cX7_sign 55 = .ok (.iload_n 3, 1) := by decide +kernel
theorem dX7_sign_56 : decode cX7_sign 56 = .ok (.iload_n 2, 1) := by decide +kernel
theorem dX7_sign_57 : decode cX7_sign 57 = .ok (.if_icmp .ge 21, 3) := by decide +kernel
theorem dX7_sign_60 : decode cX7_sign 60 = .ok (.aload_n 0, 1) := by decide +kernel
theorem dX7_sign_61 : decode cX7_sign 61 = .ok (.getfield 63, 3) := by decide +kernel
theorem dX7_sign_64 : decode cX7_sign 64 = .ok (.iload_n 3, 1) := by decide +kernel
theorem dX7_sign_65 : decode cX7_sign 65 = .ok (.aload_n 0, 1) := by decide +kernel
theorem dX7_sign_66 : decode cX7_sign 66 = .ok (.getfield 66, 3) := by decide +kernel
theorem dX7_sign_69 : decode cX7_sign 69 = .ok (.iload_n 3, 1) := by decide +kernel
theorem dX7_sign_70 : decode cX7_sign 70 = .ok (.iaload, 1) := by decide +kernel
theorem dX7_sign_71 : decode cX7_sign 71 = .ok (.iastore, 1) := by decide +kernel
theorem dX7_sign_72 : decode cX7_sign 72 = .ok (.iinc 3 1, 3) := by decide +kernel
theorem dX7_sign_75 : decode cX7_sign 75 = .ok (.goto (-20), 3) := by decide +kernel
theorem dX7_sign_78 : decode cX7_sign 78 = .ok (.iload_n 2, 1) := by decide +kernel
theorem dX7_sign_79 : decode cX7_sign 79 = .ok (.ireturn, 1) := by decide +kernel
theorem dX7_sign_80 : decode cX7_sign 80 = .ok (.iinc 2 1, 3) := by decide +kernel
theorem dX7_sign_83 : decode cX7_sign 83 = .ok (.goto (-56), 3) := by decide +kernel
theorem dX7_sign_86 : decode cX7_sign 86 = .ok (.iconst (-1), 1) := by decide +kernel
theorem dX7_sign_87 : decode cX7_sign 87 = .ok (.ireturn, 1) := by decide +kernel
theorem dX7_signed_0 : decode cX7_signed 0 = .ok (.aload_n 0, 1) := by decide +kernel
theorem dX7_signed_1 : decode cX7_signed 1 = .ok (.iconst 0, 1) := by decide +kernel
theorem dX7_signed_2 : decode cX7_signed 2 = .ok (.putfield 1, 3) := by decide +kernel
theorem dX7_signed_5 : decode cX7_signed 5 = .ok (.iload_n 1, 1) := by decide +kernel
theorem dX7_signed_6 : decode cX7_signed 6 = .ok (.ifCond .lt 11, 3) := by decide +kernel
theorem dX7_signed_9 : decode cX7_signed 9 = .ok (.iload_n 1, 1) := by decide +kernel
theorem dX7_signed_10 : decode cX7_signed 10 = .ok (.aload_n 0, 1) := by decide +kernel
theorem dX7_signed_11 : decode cX7_signed 11 = .ok (.getfield 202, 3) := by decide +kernel
theorem dX7_signed_14 : decode cX7_signed 14 = .ok (.if_icmp .lt 7, 3) := by decide +kernel
theorem dX7_signed_17 : decode cX7_signed 17 = .ok (.iconst (-1), 1) := by decide +kernel
theorem dX7_signed_18 : decode cX7_signed 18 = .ok (.goto 9, 3) := by decide +kernel
theorem dX7_signed_21 : decode cX7_signed 21 = .ok (.aload_n 0, 1) := by decide +kernel
theorem dX7_signed_22 : decode cX7_signed 22 = .ok (.getfield 63, 3) := by decide +kernel
theorem dX7_signed_25 : decode cX7_signed 25 = .ok (.iload_n 1, 1) := by decide +kernel
theorem dX7_signed_26 : decode cX7_signed 26 = .ok (.iaload, 1) := by decide +kernel
theorem dX7_signed_27 : decode cX7_signed 27 = .ok (.ireturn, 1) := by decide +kernel
set_option maxRecDepth 20000 in
theorem ggX7_fix_X7_isReport : GoodIn wsX7_fix wsX7_isReport := goodIn_r _ [7, 8, 14, 15, 16, 17, 18, 19, 20, 21, 22, 23, 24, 25, 26, 27, 28, 29, 30, 31, 32, 33, 34, 35, 36, 37, 38, 39, 40, 41, 42, 43, 44] (by decide +kernel) (by decide +kernel)
set_option maxRecDepth 20000 in
theorem gX7_fix_X7_isReport : GoodIn wsX7_fix (wsV RX7 178 RX7 yX7_isReport wsX7_isReport) := goodIn_app (goodIn_of _ (by decide +kernel)) ggX7_fix_X7_isReport
set_option maxRecDepth 20000 in
theorem ggX7_fix_X7_isVersion : GoodIn wsX7_fix wsX7_isVersion := goodIn_r _ [12, 13, 14, 15, 16, 17, 18, 19, 20, 21, 22, 23, 24, 25, 26, 27, 28, 29, 30, 31, 32, 33, 34, 35, 36, 37, 38, 39, 40, 41, 42, 43, 44] (by decide +kernel) (by decide +kernel)
set_option maxRecDepth 20000 in
theorem gX7_fix_X7_isVersion : GoodIn wsX7_fix (wsV RX7 72 RX7 yX7_isVersion wsX7_isVersion) := goodIn_app (goodIn_of _ (by decide +kernel)) ggX7_fix_X7_isVersion
theorem dX7_fix_0 : decode cX7_fix 0 = .ok (.aload_n 0, 1) := by decide +kernel
theorem dX7_fix_1 : decode cX7_fix 1 = .ok (.iconst 0, 1) := by decide +kernel
theorem dX7_fix_2 : decode cX7_fix 2 = .ok (.putfield 1, 3) := by decide +kernel
theorem dX7_fix_5 : decode cX7_fix 5 = .ok (.aload_n 0, 1) := by decide +kernel
theorem dX7_fix_6 : decode cX7_fix 6 = .ok (.iload_n 1, 1) := by decide +kernel
theorem dX7_fix_7 : decode cX7_fix 7 = .ok (.invokevirtual 178, 3) := by decide +kernel
theorem dX7_fix_10 : decode cX7_fix 10 = .ok (.ifCond .eq 11, 3) := by decide +kernel
theorem dX7_fix_13 : decode cX7_fix 13 = .ok (.aload_n 0, 1) := by decide +kernel
theorem dX7_fix_14 : decode cX7_fix 14 = .ok (.iload_n 2, 1) := by decide +kernel
theorem dX7_fix_15 : decode cX7_fix 15 = .ok (.invokevirtual 72, 3) := by decide +kernel
theorem dX7_fix_18 : decode cX7_fix 18 = .ok (.ifCond .ne 5, 3) := by decide +kernel
theorem dX7_fix_21 : decode cX7_fix 21 = .ok (.iconst 0, 1) := by decide +kernel
theorem dX7_fix_22 : decode cX7_fix 22 = .ok (.ireturn, 1) := by decide +kernel
theorem dX7_fix_23 : decode cX7_fix 23 = .ok (.aload_n 0, 1) := by decide +kernel
theorem dX7_fix_24 : decode cX7_fix 24 = .ok (.getfield 32, 3) := by decide +kernel
theorem dX7_fix_27 : decode cX7_fix 27 = .ok (.iload_n 1, 1) := by decide +kernel
theorem dX7_fix_28 : decode cX7_fix 28 = .ok (.iload_n 2, 1) := by decide +kernel
theorem dX7_fix_29 : decode cX7_fix 29 = .ok (.iastore, 1) := by decide +kernel
theorem dX7_fix_30 : decode cX7_fix 30 = .ok (.iconst 1, 1) := by decide +kernel
theorem dX7_fix_31 : decode cX7_fix 31 = .ok (.ireturn, 1) := by decide +kernel
set_option maxRecDepth 20000 in
theorem ggX7_cameBack_X7_isBehind : GoodIn wsX7_cameBack wsX7_isBehind := goodIn_r _ [9, 10, 11, 12, 13, 14, 15, 16, 17, 18, 19, 20, 21, 22, 23, 24, 25, 26, 27, 28, 29, 30, 31, 32, 33, 34, 35, 36, 37, 38, 39, 40, 41] (by decide +kernel) (by decide +kernel)
set_option maxRecDepth 20000 in
theorem gX7_cameBack_X7_isBehind : GoodIn wsX7_cameBack (wsV RX7 76 RX7 yX7_isBehind wsX7_isBehind) := goodIn_app (goodIn_of _ (by decide +kernel)) ggX7_cameBack_X7_isBehind
theorem dX7_cameBack_0 : decode cX7_cameBack 0 = .ok (.iconst 0, 1) := by decide +kernel
theorem dX7_cameBack_1 : decode cX7_cameBack 1 = .ok (.istore_n 2, 1) := by decide +kernel
theorem dX7_cameBack_2 : decode cX7_cameBack 2 = .ok (.iconst 0, 1) := by decide +kernel
theorem dX7_cameBack_3 : decode cX7_cameBack 3 = .ok (.istore_n 3, 1) := by decide +kernel
theorem dX7_cameBack_4 : decode cX7_cameBack 4 = .ok (.iload_n 3, 1) := by decide +kernel
theorem dX7_cameBack_5 : decode cX7_cameBack 5 = .ok (.aload_n 0, 1) := by decide +kernel
theorem dX7_cameBack_6 : decode cX7_cameBack 6 = .ok (.getfield 86, 3) := by decide +kernel
theorem dX7_cameBack_9 : decode cX7_cameBack 9 = .ok (.if_icmp .ge 62, 3) := by decide +kernel
theorem dX7_cameBack_12 : decode cX7_cameBack 12 = .ok (.iload_n 2, 1) := by decide +kernel
theorem dX7_cameBack_13 : decode cX7_cameBack 13 = .ok (.ifCond .ne 46, 3) := by decide +kernel
theorem dX7_cameBack_16 : decode cX7_cameBack 16 = .ok (.aload_n 0, 1) := by decide +kernel
theorem dX7_cameBack_17 : decode cX7_cameBack 17 = .ok (.getfield 35, 3) := by decide +kernel
theorem dX7_cameBack_20 : decode cX7_cameBack 20 = .ok (.iload_n 3, 1) := by decide +kernel
theorem dX7_cameBack_21 : decode cX7_cameBack 21 = .ok (.iaload, 1) := by decide +kernel
theorem dX7_cameBack_22 : decode cX7_cameBack 22 = .ok (.aload_n 0, 1) := by decide +kernel
theorem dX7_cameBack_23 : decode cX7_cameBack 23 = .ok (.getfield 35, 3) := by decide +kernel
theorem dX7_cameBack_26 : decode cX7_cameBack 26 = .ok (.iload_n 1, 1) := by decide +kernel
theorem dX7_cameBack_27 : decode cX7_cameBack 27 = .ok (.iaload, 1) := by decide +kernel
theorem dX7_cameBack_28 : decode cX7_cameBack 28 = .ok (.if_icmp .ne 35, 3) := by decide +kernel
theorem dX7_cameBack_31 : decode cX7_cameBack 31 = .ok (.aload_n 0, 1) := by decide +kernel
theorem dX7_cameBack_32 : decode cX7_cameBack 32 = .ok (.getfield 32, 3) := by decide +kernel
theorem dX7_cameBack_35 : decode cX7_cameBack 35 = .ok (.iload_n 3, 1) := by decide +kernel
theorem dX7_cameBack_36 : decode cX7_cameBack 36 = .ok (.iaload, 1) := by decide +kernel
theorem dX7_cameBack_37 : decode cX7_cameBack 37 = .ok (.ifCond .lt 26, 3) := by decide +kernel
theorem dX7_cameBack_40 : decode cX7_cameBack 40 = .ok (.aload_n 0, 1) := by decide +kernel
theorem dX7_cameBack_41 : decode cX7_cameBack 41 = .ok (.aload_n 0, 1) := by decide +kernel
theorem dX7_cameBack_42 : decode cX7_cameBack 42 = .ok (.getfield 29, 3) := by decide +kernel
theorem dX7_cameBack_45 : decode cX7_cameBack 45 = .ok (.iload_n 1, 1) := by decide +kernel
theorem dX7_cameBack_46 : decode cX7_cameBack 46 = .ok (.iaload, 1) := by decide +kernel
theorem dX7_cameBack_47 : decode cX7_cameBack 47 = .ok (.aload_n 0, 1) := by decide +kernel
theorem dX7_cameBack_48 : decode cX7_cameBack 48 = .ok (.getfield 32, 3) := by decide +kernel
theorem dX7_cameBack_51 : decode cX7_cameBack 51 = .ok (.iload_n 3, 1) := by decide +kernel
theorem dX7_cameBack_52 : decode cX7_cameBack 52 = .ok (.iaload, 1) := by decide +kernel
theorem dX7_cameBack_53 : decode cX7_cameBack 53 = .ok (.invokevirtual 76, 3) := by decide +kernel
theorem dX7_cameBack_56 : decode cX7_cameBack 56 = .ok (.ifCond .eq 7, 3) := by decide +kernel
theorem dX7_cameBack_59 : decode cX7_cameBack 59 = .ok (.iconst 1, 1) := by decide +kernel
theorem dX7_cameBack_60 : decode cX7_cameBack 60 = .ok (.goto 4, 3) := by decide +kernel
theorem dX7_cameBack_63 : decode cX7_cameBack 63 = .ok (.iconst 0, 1) := by decide +kernel
theorem dX7_cameBack_64 : decode cX7_cameBack 64 = .ok (.istore_n 2, 1) := by decide +kernel
theorem dX7_cameBack_65 : decode cX7_cameBack 65 = .ok (.iinc 3 1, 3) := by decide +kernel
theorem dX7_cameBack_68 : decode cX7_cameBack 68 = .ok (.goto (-64), 3) := by decide +kernel
theorem dX7_cameBack_71 : decode cX7_cameBack 71 = .ok (.iload_n 2, 1) := by decide +kernel
theorem dX7_cameBack_72 : decode cX7_cameBack 72 = .ok (.ireturn, 1) := by decide +kernel
set_option maxRecDepth 20000 in
theorem ggX7_look_X7_isReport : GoodIn wsX7_look wsX7_isReport := goodIn_r _ [10, 11, 25, 26, 27, 28, 29, 30, 31, 32, 33, 34, 35, 36, 37, 38, 39, 40, 41, 42, 43, 44, 45, 46, 47, 48, 49, 50, 51, 52, 53, 54, 55] (by decide +kernel) (by decide +kernel)
set_option maxRecDepth 20000 in
theorem gX7_look_X7_isReport : GoodIn wsX7_look (wsV RX7 178 RX7 yX7_isReport wsX7_isReport) := goodIn_app (goodIn_of _ (by decide +kernel)) ggX7_look_X7_isReport
set_option maxRecDepth 20000 in
theorem ggX7_look_X7_cameBack : GoodIn wsX7_look wsX7_cameBack := goodIn_r _ [15, 11, 5, 4, 2, 16, 17, 18, 9, 19, 20, 25, 26, 27, 28, 29, 30, 31, 32, 33, 34, 35, 36, 37, 38, 39, 40, 41, 42, 43, 44, 45, 46, 47, 48, 49, 50, 51, 52, 53, 54, 55] (by decide +kernel) (by decide +kernel)
set_option maxRecDepth 20000 in
theorem gX7_look_X7_cameBack : GoodIn wsX7_look (wsV RX7 205 RX7 yX7_cameBack wsX7_cameBack) := goodIn_app (goodIn_of _ (by decide +kernel)) ggX7_look_X7_cameBack
set_option maxRecDepth 20000 in
theorem ggX7_look_X7_inHeap : GoodIn wsX7_look wsX7_inHeap := goodIn_r _ [24, 11, 5, 25, 26, 27, 28, 29, 30, 31, 32, 33, 34, 35, 36, 37, 38, 39, 40, 41, 42, 43, 44, 45, 46, 47, 48, 49, 50, 51, 52, 53, 54, 55] (by decide +kernel) (by decide +kernel)
set_option maxRecDepth 20000 in
theorem gX7_look_X7_inHeap : GoodIn wsX7_look (wsV RX7 156 RX7 yX7_inHeap wsX7_inHeap) := goodIn_app (goodIn_of _ (by decide +kernel)) ggX7_look_X7_inHeap
theorem dX7_look_0 : decode cX7_look 0 = .ok (.aload_n 0, 1) := by decide +kernel
theorem dX7_look_1 : decode cX7_look 1 = .ok (.aload_n 0, 1) := by decide +kernel
theorem dX7_look_2 : decode cX7_look 2 = .ok (.iload_n 1, 1) := by decide +kernel
theorem dX7_look_3 : decode cX7_look 3 = .ok (.invokevirtual 178, 3) := by decide +kernel
theorem dX7_look_6 : decode cX7_look 6 = .ok (.ifCond .eq 16, 3) := by decide +kernel
theorem dX7_look_9 : decode cX7_look 9 = .ok (.iload_n 2, 1) := by decide +kernel
theorem dX7_look_10 : decode cX7_look 10 = .ok (.ifCond .lt 12, 3) := by decide +kernel
theorem dX7_look_13 : decode cX7_look 13 = .ok (.iload_n 2, 1) := by decide +kernel
theorem dX7_look_14 : decode cX7_look 14 = .ok (.iconst 4, 1) := by decide +kernel
theorem dX7_look_15 : decode cX7_look 15 = .ok (.if_icmp .gt 7, 3) := by decide +kernel
theorem dX7_look_18 : decode cX7_look 18 = .ok (.iconst 0, 1) := by decide +kernel
theorem dX7_look_19 : decode cX7_look 19 = .ok (.goto 4, 3) := by decide +kernel
theorem dX7_look_22 : decode cX7_look 22 = .ok (.iconst 1, 1) := by decide +kernel
theorem dX7_look_23 : decode cX7_look 23 = .ok (.putfield 1, 3) := by decide +kernel
theorem dX7_look_26 : decode cX7_look 26 = .ok (.aload_n 0, 1) := by decide +kernel
theorem dX7_look_27 : decode cX7_look 27 = .ok (.getfield 1, 3) := by decide +kernel
theorem dX7_look_30 : decode cX7_look 30 = .ok (.ifCond .le 5, 3) := by decide +kernel
theorem dX7_look_33 : decode cX7_look 33 = .ok (.iconst 0, 1) := by decide +kernel
theorem dX7_look_34 : decode cX7_look 34 = .ok (.ireturn, 1) := by decide +kernel
theorem dX7_look_35 : decode cX7_look 35 = .ok (.iload_n 2, 1) := by decide +kernel
theorem dX7_look_36 : decode cX7_look 36 = .ok (.ifCond .ne 12, 3) := by decide +kernel
theorem dX7_look_39 : decode cX7_look 39 = .ok (.aload_n 0, 1) := by decide +kernel
theorem dX7_look_40 : decode cX7_look 40 = .ok (.getfield 29, 3) := by decide +kernel
theorem dX7_look_43 : decode cX7_look 43 = .ok (.iload_n 1, 1) := by decide +kernel
theorem dX7_look_44 : decode cX7_look 44 = .ok (.iaload, 1) := by decide +kernel
theorem dX7_look_45 : decode cX7_look 45 = .ok (.goto 62, 3) := by decide +kernel
theorem dX7_look_48 : decode cX7_look 48 = .ok (.iload_n 2, 1) := by decide +kernel
theorem dX7_look_49 : decode cX7_look 49 = .ok (.iconst 1, 1) := by decide +kernel
theorem dX7_look_50 : decode cX7_look 50 = .ok (.if_icmp .ne 12, 3) := by decide +kernel
theorem dX7_look_53 : decode cX7_look 53 = .ok (.aload_n 0, 1) := by decide +kernel
theorem dX7_look_54 : decode cX7_look 54 = .ok (.getfield 26, 3) := by decide +kernel
theorem dX7_look_57 : decode cX7_look 57 = .ok (.iload_n 1, 1) := by decide +kernel
theorem dX7_look_58 : decode cX7_look 58 = .ok (.iaload, 1) := by decide +kernel
theorem dX7_look_59 : decode cX7_look 59 = .ok (.goto 48, 3) := by decide +kernel
theorem dX7_look_62 : decode cX7_look 62 = .ok (.iload_n 2, 1) := by decide +kernel
theorem dX7_look_63 : decode cX7_look 63 = .ok (.iconst 2, 1) := by decide +kernel
theorem dX7_look_64 : decode cX7_look 64 = .ok (.if_icmp .ne 12, 3) := by decide +kernel
theorem dX7_look_67 : decode cX7_look 67 = .ok (.aload_n 0, 1) := by decide +kernel
theorem dX7_look_68 : decode cX7_look 68 = .ok (.getfield 32, 3) := by decide +kernel
theorem dX7_look_71 : decode cX7_look 71 = .ok (.iload_n 1, 1) := by decide +kernel
theorem dX7_look_72 : decode cX7_look 72 = .ok (.iaload, 1) := by decide +kernel
theorem dX7_look_73 : decode cX7_look 73 = .ok (.goto 34, 3) := by decide +kernel
theorem dX7_look_76 : decode cX7_look 76 = .ok (.iload_n 2, 1) := by decide +kernel
theorem dX7_look_77 : decode cX7_look 77 = .ok (.iconst 3, 1) := by decide +kernel
theorem dX7_look_78 : decode cX7_look 78 = .ok (.if_icmp .ne 19, 3) := by decide +kernel
theorem dX7_look_81 : decode cX7_look 81 = .ok (.aload_n 0, 1) := by decide +kernel
theorem dX7_look_82 : decode cX7_look 82 = .ok (.iload_n 1, 1) := by decide +kernel
theorem dX7_look_83 : decode cX7_look 83 = .ok (.invokevirtual 205, 3) := by decide +kernel
theorem dX7_look_86 : decode cX7_look 86 = .ok (.ifCond .eq 7, 3) := by decide +kernel
theorem dX7_look_89 : decode cX7_look 89 = .ok (.iconst 1, 1) := by decide +kernel
theorem dX7_look_90 : decode cX7_look 90 = .ok (.goto 17, 3) := by decide +kernel
theorem dX7_look_93 : decode cX7_look 93 = .ok (.iconst 0, 1) := by decide +kernel
theorem dX7_look_94 : decode cX7_look 94 = .ok (.goto 13, 3) := by decide +kernel
theorem dX7_look_97 : decode cX7_look 97 = .ok (.aload_n 0, 1) := by decide +kernel
theorem dX7_look_98 : decode cX7_look 98 = .ok (.aload_n 0, 1) := by decide +kernel
theorem dX7_look_99 : decode cX7_look 99 = .ok (.getfield 35, 3) := by decide +kernel
theorem dX7_look_102 : decode cX7_look 102 = .ok (.iload_n 1, 1) := by decide +kernel
theorem dX7_look_103 : decode cX7_look 103 = .ok (.iaload, 1) := by decide +kernel
theorem dX7_look_104 : decode cX7_look 104 = .ok (.invokevirtual 156, 3) := by decide +kernel
theorem dX7_look_107 : decode cX7_look 107 = .ok (.ireturn, 1) := by decide +kernel
set_option maxRecDepth 20000 in
theorem ggX7_count_X7_heaps : GoodIn wsX7_count wsX7_heaps := goodIn_r _ [11, 2, 12, 34, 35, 36, 37, 38, 39, 40, 41, 42, 43, 44, 45, 46, 47, 48, 49, 50, 51, 52, 53, 54, 55, 56, 57, 58, 59, 60, 61, 62, 63, 64] (by decide +kernel) (by decide +kernel)
set_option maxRecDepth 20000 in
theorem gX7_count_X7_heaps : GoodIn wsX7_count (wsV RX7 174 RX7 yX7_heaps wsX7_heaps) := goodIn_app (goodIn_of _ (by decide +kernel)) ggX7_count_X7_heaps
set_option maxRecDepth 20000 in
theorem ggX7_count_X7_isCommon : GoodIn wsX7_count wsX7_isCommon := goodIn_r _ [16, 2, 17, 18, 19, 10, 20, 21, 22, 34, 35, 36, 37, 38, 39, 40, 41, 42, 43, 44, 45, 46, 47, 48, 49, 50, 51, 52, 53, 54, 55, 56, 57, 58, 59, 60, 61, 62, 63, 64] (by decide +kernel) (by decide +kernel)
set_option maxRecDepth 20000 in
theorem gX7_count_X7_isCommon : GoodIn wsX7_count (wsV RX7 99 RX7 yX7_isCommon wsX7_isCommon) := goodIn_app (goodIn_of _ (by decide +kernel)) ggX7_count_X7_isCommon
set_option maxRecDepth 20000 in
theorem ggX7_count_X7_cameBack : GoodIn wsX7_count wsX7_cameBack := goodIn_r _ [26, 2, 12, 27, 28, 29, 30, 31, 10, 32, 33, 34, 35, 36, 37, 38, 39, 40, 41, 42, 43, 44, 45, 46, 47, 48, 49, 50, 51, 52, 53, 54, 55, 56, 57, 58, 59, 60, 61, 62, 63, 64] (by decide +kernel) (by decide +kernel)
set_option maxRecDepth 20000 in
theorem gX7_count_X7_cameBack : GoodIn wsX7_count (wsV RX7 205 RX7 yX7_cameBack wsX7_cameBack) := goodIn_app (goodIn_of _ (by decide +kernel)) ggX7_count_X7_cameBack
theorem dX7_count_0 : decode cX7_count 0 = .ok (.aload_n 0, 1) := by decide +kernel
theorem dX7_count_1 : decode cX7_count 1 = .ok (.iconst 0, 1) := by decide +kernel
theorem dX7_count_2 : decode cX7_count 2 = .ok (.putfield 1, 3) := by decide +kernel
theorem dX7_count_5 : decode cX7_count 5 = .ok (.iconst 0, 1) := by decide +kernel
theorem dX7_count_6 : decode cX7_count 6 = .ok (.istore_n 2, 1) := by decide +kernel
theorem dX7_count_7 : decode cX7_count 7 = .ok (.iload_n 1, 1) := by decide +kernel
theorem dX7_count_8 : decode cX7_count 8 = .ok (.tableswitch 145 0 7 #[48, 53, 58, 63, 68, 73, 106, 111], 48) := by decide +kernel
theorem dX7_count_56 : decode cX7_count 56 = .ok (.aload_n 0, 1) := by decide +kernel
theorem dX7_count_57 : decode cX7_count 57 = .ok (.getfield 86, 3) := by decide +kernel
theorem dX7_count_60 : decode cX7_count 60 = .ok (.ireturn, 1) := by decide +kernel
theorem dX7_count_61 : decode cX7_count 61 = .ok (.aload_n 0, 1) := by decide +kernel
theorem dX7_count_62 : decode cX7_count 62 = .ok (.invokevirtual 174, 3) := by decide +kernel
theorem dX7_count_65 : decode cX7_count 65 = .ok (.ireturn, 1) := by decide +kernel
theorem dX7_count_66 : decode cX7_count 66 = .ok (.aload_n 0, 1) := by decide +kernel
theorem dX7_count_67 : decode cX7_count 67 = .ok (.getfield 13, 3) := by decide +kernel
theorem dX7_count_70 : decode cX7_count 70 = .ok (.ireturn, 1) := by decide +kernel
theorem dX7_count_71 : decode cX7_count 71 = .ok (.aload_n 0, 1) := by decide +kernel
theorem dX7_count_72 : decode cX7_count 72 = .ok (.getfield 54, 3) := by decide +kernel
theorem dX7_count_75 : decode cX7_count 75 = .ok (.ireturn, 1) := by decide +kernel
theorem dX7_count_76 : decode cX7_count 76 = .ok (.aload_n 0, 1) := by decide +kernel
theorem dX7_count_77 : decode cX7_count 77 = .ok (.getfield 80, 3) := by decide +kernel
theorem dX7_count_80 : decode cX7_count 80 = .ok (.ireturn, 1) := by decide +kernel
theorem dX7_count_81 : decode cX7_count 81 = .ok (.iconst 1, 1) := by decide +kernel
theorem dX7_count_82 : decode cX7_count 82 = .ok (.istore_n 3, 1) := by decide +kernel
theorem dX7_count_83 : decode cX7_count 83 = .ok (.iload_n 3, 1) := by decide +kernel
theorem dX7_count_84 : decode cX7_count 84 = .ok (.sipush 500, 3) := by decide +kernel
theorem dX7_count_87 : decode cX7_count 87 = .ok (.if_icmp .gt 25, 3) := by decide +kernel
theorem dX7_count_90 : decode cX7_count 90 = .ok (.iload_n 2, 1) := by decide +kernel
theorem dX7_count_91 : decode cX7_count 91 = .ok (.aload_n 0, 1) := by decide +kernel
theorem dX7_count_92 : decode cX7_count 92 = .ok (.iload_n 3, 1) := by decide +kernel
theorem dX7_count_93 : decode cX7_count 93 = .ok (.invokevirtual 99, 3) := by decide +kernel
theorem dX7_count_96 : decode cX7_count 96 = .ok (.ifCond .eq 7, 3) := by decide +kernel
theorem dX7_count_99 : decode cX7_count 99 = .ok (.iconst 1, 1) := by decide +kernel
theorem dX7_count_100 : decode cX7_count 100 = .ok (.goto 4, 3) := by decide +kernel
theorem dX7_count_103 : decode cX7_count 103 = .ok (.iconst 0, 1) := by decide +kernel
theorem dX7_count_104 : decode cX7_count 104 = .ok (.iadd, 1) := by decide +kernel
theorem dX7_count_105 : decode cX7_count 105 = .ok (.istore_n 2, 1) := by decide +kernel
theorem dX7_count_106 : decode cX7_count 106 = .ok (.iinc 3 1, 3) := by decide +kernel
theorem dX7_count_109 : decode cX7_count 109 = .ok (.goto (-26), 3) := by decide +kernel
theorem dX7_count_112 : decode cX7_count 112 = .ok (.iload_n 2, 1) := by decide +kernel
theorem dX7_count_113 : decode cX7_count 113 = .ok (.ireturn, 1) := by decide +kernel
theorem dX7_count_114 : decode cX7_count 114 = .ok (.aload_n 0, 1) := by decide +kernel
theorem dX7_count_115 : decode cX7_count 115 = .ok (.getfield 171, 3) := by decide +kernel
theorem dX7_count_118 : decode cX7_count 118 = .ok (.ireturn, 1) := by decide +kernel
theorem dX7_count_119 : decode cX7_count 119 = .ok (.iconst 0, 1) := by decide +kernel
theorem dX7_count_120 : decode cX7_count 120 = .ok (.istore_n 3, 1) := by decide +kernel
theorem dX7_count_121 : decode cX7_count 121 = .ok (.iload_n 3, 1) := by decide +kernel
theorem dX7_count_122 : decode cX7_count 122 = .ok (.aload_n 0, 1) := by decide +kernel
theorem dX7_count_123 : decode cX7_count 123 = .ok (.getfield 86, 3) := by decide +kernel
theorem dX7_count_126 : decode cX7_count 126 = .ok (.if_icmp .ge 25, 3) := by decide +kernel
theorem dX7_count_129 : decode cX7_count 129 = .ok (.iload_n 2, 1) := by decide +kernel
theorem dX7_count_130 : decode cX7_count 130 = .ok (.aload_n 0, 1) := by decide +kernel
theorem dX7_count_131 : decode cX7_count 131 = .ok (.iload_n 3, 1) := by decide +kernel
theorem dX7_count_132 : decode cX7_count 132 = .ok (.invokevirtual 205, 3) := by decide +kernel
theorem dX7_count_135 : decode cX7_count 135 = .ok (.ifCond .eq 7, 3) := by decide +kernel
theorem dX7_count_138 : decode cX7_count 138 = .ok (.iconst 1, 1) := by decide +kernel
theorem dX7_count_139 : decode cX7_count 139 = .ok (.goto 4, 3) := by decide +kernel
theorem dX7_count_142 : decode cX7_count 142 = .ok (.iconst 0, 1) := by decide +kernel
theorem dX7_count_143 : decode cX7_count 143 = .ok (.iadd, 1) := by decide +kernel
theorem dX7_count_144 : decode cX7_count 144 = .ok (.istore_n 2, 1) := by decide +kernel
theorem dX7_count_145 : decode cX7_count 145 = .ok (.iinc 3 1, 3) := by decide +kernel
theorem dX7_count_148 : decode cX7_count 148 = .ok (.goto (-27), 3) := by decide +kernel
theorem dX7_count_151 : decode cX7_count 151 = .ok (.iload_n 2, 1) := by decide +kernel
theorem dX7_count_152 : decode cX7_count 152 = .ok (.ireturn, 1) := by decide +kernel
theorem dX7_count_153 : decode cX7_count 153 = .ok (.iconst (-1), 1) := by decide +kernel
theorem dX7_count_154 : decode cX7_count 154 = .ok (.ireturn, 1) := by decide +kernel
theorem dJ13_bitCount_95d88_0 : decode cJ13_bitCount_95d88 0 = .ok (.lload_n 0, 1) := by decide +kernel
theorem dJ13_bitCount_95d88_1 : decode cJ13_bitCount_95d88 1 = .ok (.lload_n 0, 1) := by decide +kernel
theorem dJ13_bitCount_95d88_2 : decode cJ13_bitCount_95d88 2 = .ok (.iconst 1, 1) := by decide +kernel
theorem dJ13_bitCount_95d88_3 : decode cJ13_bitCount_95d88 3 = .ok (.lushr, 1) := by decide +kernel
theorem dJ13_bitCount_95d88_4 : decode cJ13_bitCount_95d88 4 = .ok (.ldc2_w 314, 3) := by decide +kernel
theorem dJ13_bitCount_95d88_7 : decode cJ13_bitCount_95d88 7 = .ok (.land, 1) := by decide +kernel
theorem dJ13_bitCount_95d88_8 : decode cJ13_bitCount_95d88 8 = .ok (.lsub, 1) := by decide +kernel
theorem dJ13_bitCount_95d88_9 : decode cJ13_bitCount_95d88 9 = .ok (.lstore_n 0, 1) := by decide +kernel
theorem dJ13_bitCount_95d88_10 : decode cJ13_bitCount_95d88 10 = .ok (.lload_n 0, 1) := by decide +kernel
theorem dJ13_bitCount_95d88_11 : decode cJ13_bitCount_95d88 11 = .ok (.ldc2_w 316, 3) := by decide +kernel
theorem dJ13_bitCount_95d88_14 : decode cJ13_bitCount_95d88 14 = .ok (.land, 1) := by decide +kernel
theorem dJ13_bitCount_95d88_15 : decode cJ13_bitCount_95d88 15 = .ok (.lload_n 0, 1) := by decide +kernel
theorem dJ13_bitCount_95d88_16 : decode cJ13_bitCount_95d88 16 = .ok (.iconst 2, 1) := by decide +kernel
theorem dJ13_bitCount_95d88_17 : decode cJ13_bitCount_95d88 17 = .ok (.lushr, 1) := by decide +kernel
theorem dJ13_bitCount_95d88_18 : decode cJ13_bitCount_95d88 18 = .ok (.ldc2_w 316, 3) := by decide +kernel
theorem dJ13_bitCount_95d88_21 : decode cJ13_bitCount_95d88 21 = .ok (.land, 1) := by decide +kernel
theorem dJ13_bitCount_95d88_22 : decode cJ13_bitCount_95d88 22 = .ok (.ladd, 1) := by decide +kernel
theorem dJ13_bitCount_95d88_23 : decode cJ13_bitCount_95d88 23 = .ok (.lstore_n 0, 1) := by decide +kernel
theorem dJ13_bitCount_95d88_24 : decode cJ13_bitCount_95d88 24 = .ok (.lload_n 0, 1) := by decide +kernel
theorem dJ13_bitCount_95d88_25 : decode cJ13_bitCount_95d88 25 = .ok (.lload_n 0, 1) := by decide +kernel
theorem dJ13_bitCount_95d88_26 : decode cJ13_bitCount_95d88 26 = .ok (.iconst 4, 1) := by decide +kernel
theorem dJ13_bitCount_95d88_27 : decode cJ13_bitCount_95d88 27 = .ok (.lushr, 1) := by decide +kernel
theorem dJ13_bitCount_95d88_28 : decode cJ13_bitCount_95d88 28 = .ok (.ladd, 1) := by decide +kernel
theorem dJ13_bitCount_95d88_29 : decode cJ13_bitCount_95d88 29 = .ok (.ldc2_w 318, 3) := by decide +kernel
theorem dJ13_bitCount_95d88_32 : decode cJ13_bitCount_95d88 32 = .ok (.land, 1) := by decide +kernel
theorem dJ13_bitCount_95d88_33 : decode cJ13_bitCount_95d88 33 = .ok (.lstore_n 0, 1) := by decide +kernel
theorem dJ13_bitCount_95d88_34 : decode cJ13_bitCount_95d88 34 = .ok (.lload_n 0, 1) := by decide +kernel
theorem dJ13_bitCount_95d88_35 : decode cJ13_bitCount_95d88 35 = .ok (.lload_n 0, 1) := by decide +kernel
theorem dJ13_bitCount_95d88_36 : decode cJ13_bitCount_95d88 36 = .ok (.bipush 8, 2) := by decide +kernel
theorem dJ13_bitCount_95d88_38 : decode cJ13_bitCount_95d88 38 = .ok (.lushr, 1) := by decide +kernel
theorem dJ13_bitCount_95d88_39 : decode cJ13_bitCount_95d88 39 = .ok (.ladd, 1) := by decide +kernel
theorem dJ13_bitCount_95d88_40 : decode cJ13_bitCount_95d88 40 = .ok (.lstore_n 0, 1) := by decide +kernel
theorem dJ13_bitCount_95d88_41 : decode cJ13_bitCount_95d88 41 = .ok (.lload_n 0, 1) := by decide +kernel
theorem dJ13_bitCount_95d88_42 : decode cJ13_bitCount_95d88 42 = .ok (.lload_n 0, 1) := by decide +kernel
theorem dJ13_bitCount_95d88_43 : decode cJ13_bitCount_95d88 43 = .ok (.bipush 16, 2) := by decide +kernel
theorem dJ13_bitCount_95d88_45 : decode cJ13_bitCount_95d88 45 = .ok (.lushr, 1) := by decide +kernel
theorem dJ13_bitCount_95d88_46 : decode cJ13_bitCount_95d88 46 = .ok (.ladd, 1) := by decide +kernel
theorem dJ13_bitCount_95d88_47 : decode cJ13_bitCount_95d88 47 = .ok (.lstore_n 0, 1) := by decide +kernel
theorem dJ13_bitCount_95d88_48 : decode cJ13_bitCount_95d88 48 = .ok (.lload_n 0, 1) := by decide +kernel
theorem dJ13_bitCount_95d88_49 : decode cJ13_bitCount_95d88 49 = .ok (.lload_n 0, 1) := by decide +kernel
theorem dJ13_bitCount_95d88_50 : decode cJ13_bitCount_95d88 50 = .ok (.bipush 32, 2) := by decide +kernel
theorem dJ13_bitCount_95d88_52 : decode cJ13_bitCount_95d88 52 = .ok (.lushr, 1) := by decide +kernel
theorem dJ13_bitCount_95d88_53 : decode cJ13_bitCount_95d88 53 = .ok (.ladd, 1) := by decide +kernel
theorem dJ13_bitCount_95d88_54 : decode cJ13_bitCount_95d88 54 = .ok (.lstore_n 0, 1) := by decide +kernel
theorem dJ13_bitCount_95d88_55 : decode cJ13_bitCount_95d88 55 = .ok (.lload_n 0, 1) := by decide +kernel
theorem dJ13_bitCount_95d88_56 : decode cJ13_bitCount_95d88 56 = .ok (.l2i, 1) := by decide +kernel
theorem dJ13_bitCount_95d88_57 : decode cJ13_bitCount_95d88 57 = .ok (.bipush 127, 2) := by decide +kernel
theorem dJ13_bitCount_95d88_59 : decode cJ13_bitCount_95d88 59 = .ok (.iand, 1) := by decide +kernel
theorem dJ13_bitCount_95d88_60 : decode cJ13_bitCount_95d88 60 = .ok (.ireturn, 1) := by decide +kernel
theorem dJ9_max_7cf53_0 : decode cJ9_max_7cf53 0 = .ok (.iload_n 0, 1) := by decide +kernel
theorem dJ9_max_7cf53_1 : decode cJ9_max_7cf53 1 = .ok (.iload_n 1, 1) := by decide +kernel
theorem dJ9_max_7cf53_2 : decode cJ9_max_7cf53 2 = .ok (.if_icmp .lt 7, 3) := by decide +kernel
theorem dJ9_max_7cf53_5 : decode cJ9_max_7cf53 5 = .ok (.iload_n 0, 1) := by decide +kernel
theorem dJ9_max_7cf53_6 : decode cJ9_max_7cf53 6 = .ok (.goto 4, 3) := by decide +kernel
theorem dJ9_max_7cf53_9 : decode cJ9_max_7cf53 9 = .ok (.iload_n 1, 1) := by decide +kernel
theorem dJ9_max_7cf53_10 : decode cJ9_max_7cf53 10 = .ok (.ireturn, 1) := by decide +kernel
theorem dJ9_min_7cf53_0 : decode cJ9_min_7cf53 0 = .ok (.iload_n 0, 1) := by decide +kernel
theorem dJ9_min_7cf53_1 : decode cJ9_min_7cf53 1 = .ok (.iload_n 1, 1) := by decide +kernel
theorem dJ9_min_7cf53_2 : decode cJ9_min_7cf53 2 = .ok (.if_icmp .gt 7, 3) := by decide +kernel
theorem dJ9_min_7cf53_5 : decode cJ9_min_7cf53 5 = .ok (.iload_n 0, 1) := by decide +kernel
theorem dJ9_min_7cf53_6 : decode cJ9_min_7cf53 6 = .ok (.goto 4, 3) := by decide +kernel
theorem dJ9_min_7cf53_9 : decode cJ9_min_7cf53 9 = .ok (.iload_n 1, 1) := by decide +kernel
theorem dJ9_min_7cf53_10 : decode cJ9_min_7cf53 10 = .ok (.ireturn, 1) := by decide +kernel
theorem dJ7_fill_53178_0 : decode cJ7_fill_53178 0 = .ok (.iconst 0, 1) := by decide +kernel
theorem dJ7_fill_53178_1 : decode cJ7_fill_53178 1 = .ok (.istore_n 2, 1) := by decide +kernel
theorem dJ7_fill_53178_2 : decode cJ7_fill_53178 2 = .ok (.aload_n 0, 1) := by decide +kernel
theorem dJ7_fill_53178_3 : decode cJ7_fill_53178 3 = .ok (.arraylength, 1) := by decide +kernel
theorem dJ7_fill_53178_4 : decode cJ7_fill_53178 4 = .ok (.istore_n 3, 1) := by decide +kernel
theorem dJ7_fill_53178_5 : decode cJ7_fill_53178 5 = .ok (.iload_n 2, 1) := by decide +kernel
theorem dJ7_fill_53178_6 : decode cJ7_fill_53178 6 = .ok (.iload_n 3, 1) := by decide +kernel
theorem dJ7_fill_53178_7 : decode cJ7_fill_53178 7 = .ok (.if_icmp .ge 13, 3) := by decide +kernel
theorem dJ7_fill_53178_10 : decode cJ7_fill_53178 10 = .ok (.aload_n 0, 1) := by decide +kernel
theorem dJ7_fill_53178_11 : decode cJ7_fill_53178 11 = .ok (.iload_n 2, 1) := by decide +kernel
theorem dJ7_fill_53178_12 : decode cJ7_fill_53178 12 = .ok (.iload_n 1, 1) := by decide +kernel
theorem dJ7_fill_53178_13 : decode cJ7_fill_53178 13 = .ok (.iastore, 1) := by decide +kernel
theorem dJ7_fill_53178_14 : decode cJ7_fill_53178 14 = .ok (.iinc 2 1, 3) := by decide +kernel
theorem dJ7_fill_53178_17 : decode cJ7_fill_53178 17 = .ok (.goto (-12), 3) := by decide +kernel
theorem dJ7_fill_53178_20 : decode cJ7_fill_53178 20 = .ok (.return_, 1) := by decide +kernel
set_option maxRecDepth 20000 in
theorem ggL_look_X6_look : GoodIn wsL_look wsX6_look := goodIn_ca (goodIn_r _ [6, 7, 8, 9, 10, 11, 12, 13, 14, 15, 16, 17, 18, 19, 20, 21, 22, 23, 24, 25, 26, 27, 28, 29, 30, 31, 32, 33, 34, 5, 35, 36, 37, 38, 39, 40, 41, 42, 43, 44, 45, 46, 47, 48, 49, 50, 51, 52, 53, 54, 55, 56, 57, 58, 59, 60, 61, 62, 63, 64, 65, 66, 67, 68, 69, 70, 71, 72, 73, 74, 75, 76, 77, 78, 79, 80, 81, 82, 83, 84, 85, 86] (by decide +kernel) (by decide +kernel)) (goodIn_sub (fun _ h => List.mem_cons_of_mem _ (List.mem_append_right _ h)) (by decide +kernel))
set_option maxRecDepth 20000 in
theorem gL_look_X6_look : GoodIn wsL_look (wsV RL 7 RX6 yX6_look wsX6_look) := goodIn_app (goodIn_of _ (by decide +kernel)) ggL_look_X6_look
theorem dL_look_0 : decode cL_look 0 = .ok (.aload_n 3, 1) := by decide +kernel
theorem dL_look_1 : decode cL_look 1 = .ok (.iconst 0, 1) := by decide +kernel
theorem dL_look_2 : decode cL_look 2 = .ok (.aload_n 0, 1) := by decide +kernel
theorem dL_look_3 : decode cL_look 3 = .ok (.iload_n 1, 1) := by decide +kernel
theorem dL_look_4 : decode cL_look 4 = .ok (.iload_n 2, 1) := by decide +kernel
theorem dL_look_5 : decode cL_look 5 = .ok (.invokevirtual 7, 3) := by decide +kernel
theorem dL_look_8 : decode cL_look 8 = .ok (.i2l, 1) := by decide +kernel
theorem dL_look_9 : decode cL_look 9 = .ok (.lastore, 1) := by decide +kernel
theorem dL_look_10 : decode cL_look 10 = .ok (.goto 7, 3) := by decide +kernel
theorem dL_look_13 : decode cL_look 13 = .ok (.astore 4, 2) := by decide +kernel
theorem dL_look_15 : decode cL_look 15 = .ok (.iconst 1, 1) := by decide +kernel
theorem dL_look_16 : decode cL_look 16 = .ok (.ireturn, 1) := by decide +kernel
theorem dL_look_17 : decode cL_look 17 = .ok (.iconst 0, 1) := by decide +kernel
theorem dL_look_18 : decode cL_look 18 = .ok (.ireturn, 1) := by decide +kernel
set_option maxRecDepth 20000 in
theorem ggL_law_X6_init : GoodIn wsL_law wsX6_init := goodIn_r _ [9, 10, 11, 12, 13, 14, 15, 16, 17, 18, 19, 20, 21, 22, 23, 24, 25, 26, 27, 28, 29, 30, 31, 32, 33, 34, 35, 36, 37, 38, 39, 40, 41, 42, 43, 44, 45, 46, 47, 48, 49, 50, 51, 52, 53, 54, 55, 56, 6, 57, 58, 59, 60, 61, 62, 63, 64, 65, 66, 67, 68, 69, 70, 71, 72, 73, 74, 75, 76, 77, 78, 79, 80, 81, 82, 83, 84, 85, 86, 87, 88, 89, 90, 91, 92, 93, 94, 95, 96, 97, 98, 99, 100, 723, 724, 686, 687, 688, 689, 690, 691, 725, 726, 727, 728, 729, 730, 731, 732, 733, 734, 735, 736, 737, 738, 739, 740, 741, 742, 743, 744, 745, 746, 747, 748, 749, 750, 751, 752, 753, 754, 755, 756, 757] (by decide +kernel) (by decide +kernel)
set_option maxRecDepth 20000 in
theorem gL_law_X6_init : GoodIn wsL_law (wsX6_init) := ggL_law_X6_init
set_option maxRecDepth 20000 in
theorem ggL_law_X7_init : GoodIn wsL_law wsX7_init := goodIn_r _ [103, 104, 11, 12, 105, 40, 106, 107, 108, 109, 110, 111, 112, 113, 114, 115, 116, 66, 117, 118, 119, 120, 121, 122, 123, 692, 693, 694, 695, 696, 697, 698, 699, 700, 701, 702, 703, 704, 705, 706, 707, 708, 709, 710, 711, 712, 713, 714, 715, 716, 717, 718, 719, 720, 721, 722] (by decide +kernel) (by decide +kernel)
set_option maxRecDepth 20000 in
theorem gL_law_X7_init : GoodIn wsL_law (wsX7_init) := ggL_law_X7_init
set_option maxRecDepth 20000 in
theorem ggL_law_X6_frame : GoodIn wsL_law wsX6_frame := goodIn_r _ [127, 16, 128, 129, 130, 15, 131, 42, 41, 686, 687, 688, 689, 690, 691, 723, 724] (by decide +kernel) (by decide +kernel)
set_option maxRecDepth 20000 in
theorem gL_law_X6_frame : GoodIn wsL_law (wsV RL 19 RX6 yX6_frame wsX6_frame) := goodIn_app (goodIn_of _ (by decide +kernel)) ggL_law_X6_frame
set_option maxRecDepth 20000 in
theorem ggL_law_X7_frame : GoodIn wsL_law wsX7_frame := goodIn_r _ [135, 136, 137, 107, 692, 693, 694, 695, 696, 697, 698, 699, 700, 701, 702, 703, 704, 705, 706, 707, 708, 709, 710, 711, 712, 713, 714, 715, 716, 717, 718, 719, 720, 721, 722] (by decide +kernel) (by decide +kernel)
set_option maxRecDepth 20000 in
theorem gL_law_X7_frame : GoodIn wsL_law (wsV RL 23 RX7 yX7_frame wsX7_frame) := goodIn_app (goodIn_of _ (by decide +kernel)) ggL_law_X7_frame
set_option maxRecDepth 20000 in
theorem ggL_law_X6_version : GoodIn wsL_law wsX6_version := goodIn_r _ [141, 20, 142, 143, 144, 19, 145, 48, 47, 146, 147, 148, 149, 686, 687, 688, 689, 690, 691, 725, 726] (by decide +kernel) (by decide +kernel)
set_option maxRecDepth 20000 in
theorem gL_law_X6_version : GoodIn wsL_law (wsV RL 24 RX6 yX6_version wsX6_version) := goodIn_app (goodIn_of _ (by decide +kernel)) ggL_law_X6_version
set_option maxRecDepth 20000 in
theorem ggL_law_X7_version : GoodIn wsL_law wsX7_version := goodIn_r _ [153, 136, 105, 106, 154, 155, 156, 5, 157, 692, 693, 694, 695, 696, 697, 698, 699, 700, 701, 702, 703, 704, 705, 706, 707, 708, 709, 710, 711, 712, 713, 714, 715, 716, 717, 718, 719, 720, 721, 722] (by decide +kernel) (by decide +kernel)
set_option maxRecDepth 20000 in
theorem gL_law_X7_version : GoodIn wsL_law (wsV RL 27 RX7 yX7_version wsX7_version) := goodIn_app (goodIn_of _ (by decide +kernel)) ggL_law_X7_version
set_option maxRecDepth 20000 in
theorem ggL_law_X6_report : GoodIn wsL_law wsX6_report := goodIn_r _ [161, 16, 20, 24, 28, 32, 162, 163, 164, 15, 165, 42, 166, 147, 148, 19, 149, 48, 167, 168, 169, 23, 170, 58, 171, 172, 173, 174, 175, 176, 177, 178, 179, 180, 181, 182, 41, 183, 184, 185, 186, 187, 188, 189, 190, 54, 53, 57, 55, 56, 191, 192, 193, 194, 195, 196, 197, 198, 199, 200, 201, 202, 203, 204, 205, 27, 206, 67, 68, 207, 208, 209, 210, 211, 212, 213, 214, 64, 65, 215, 216, 217, 218, 219, 220, 221, 222, 223, 224, 225, 226, 227, 228, 229, 230, 231, 232, 233, 234, 235, 236, 237, 69, 238, 239, 240, 241, 242, 243, 244, 245, 246, 247, 248, 249, 250, 31, 251, 85, 79, 86, 252, 253, 254, 255, 82, 80, 81, 256, 71, 72, 73, 257, 258, 259, 260, 261, 89, 88, 262, 263, 264, 265, 83, 87, 78, 266, 267, 268, 269, 270, 271, 272, 273, 84, 274, 275, 276, 277, 90, 91, 92, 278, 279, 280, 281, 282, 283, 284, 285, 286, 287, 288, 289, 686, 687, 688, 689, 690, 691, 723, 724, 725, 726, 727, 728, 729, 730, 731, 732, 733, 734, 735, 736, 737, 738, 739, 740, 741, 742, 743, 744, 745, 746, 747, 748, 749, 750, 751, 752] (by decide +kernel) (by decide +kernel)
set_option maxRecDepth 20000 in
theorem gL_law_X6_report : GoodIn wsL_law (wsV RL 28 RX6 yX6_report wsX6_report) := goodIn_app (goodIn_of _ (by decide +kernel)) ggL_law_X6_report
set_option maxRecDepth 20000 in
theorem ggL_law_X7_report : GoodIn wsL_law wsX7_report := goodIn_r _ [293, 136, 137, 294, 108, 107, 109, 110, 111, 112, 154, 155, 156, 5, 157, 105, 295, 296, 297, 298, 299, 300, 301, 302, 303, 304, 305, 306, 307, 308, 309, 310, 311, 312, 313, 314, 315, 116, 316, 317, 318, 319, 117, 320, 321, 322, 323, 324, 325, 326, 327, 328, 329, 330, 331, 113, 332, 114, 333, 115, 334, 335, 336, 337, 338, 339, 340, 341, 342, 343, 344, 345, 346, 347, 348, 349, 350, 351, 352, 353, 354, 355, 356, 357, 358, 359, 360, 361, 362, 119, 118, 363, 364, 365, 366, 367, 368, 369, 370, 371, 372, 373, 374, 375, 376, 377, 378, 120, 692, 693, 694, 695, 696, 697, 698, 699, 700, 701, 702, 703, 704, 705, 706, 707, 708, 709, 710, 711, 712, 713, 714, 715, 716, 717, 718, 719, 720, 721, 722] (by decide +kernel) (by decide +kernel)
set_option maxRecDepth 20000 in
theorem gL_law_X7_report : GoodIn wsL_law (wsV RL 31 RX7 yX7_report wsX7_report) := goodIn_app (goodIn_of _ (by decide +kernel)) ggL_law_X7_report
set_option maxRecDepth 20000 in
theorem ggL_law_X6_pair : GoodIn wsL_law wsX6_pair := goodIn_r _ [382, 24, 32, 28, 383, 384, 385, 23, 386, 387, 388, 389, 390, 58, 391, 392, 393, 31, 394, 78, 257, 258, 259, 260, 261, 89, 88, 262, 263, 264, 265, 85, 83, 79, 87, 256, 71, 72, 73, 266, 267, 268, 27, 269, 68, 270, 271, 272, 273, 86, 84, 274, 275, 276, 277, 90, 91, 92, 278, 279, 280, 281, 81, 282, 283, 284, 285, 286, 287, 288, 289, 252, 253, 254, 255, 82, 80, 686, 687, 688, 689, 690, 691, 727, 728, 729, 730, 731, 732, 738, 739, 740, 741, 742, 743, 744, 745, 746, 747, 748, 749, 750, 751, 752, 733, 734, 735, 736, 737] (by decide +kernel) (by decide +kernel)
set_option maxRecDepth 20000 in
theorem gL_law_X6_pair : GoodIn wsL_law (wsV RL 32 RX6 yX6_pair wsX6_pair) := goodIn_app (goodIn_of _ (by decide +kernel)) ggL_law_X6_pair
set_option maxRecDepth 20000 in
theorem ggL_law_X7_pair : GoodIn wsL_law wsX7_pair := goodIn_r _ [398, 136, 399, 400, 401, 5, 402, 403, 404, 405, 406, 294, 407, 408, 409, 410, 119, 303, 304, 305, 306, 307, 308, 112, 309, 310, 311, 312, 313, 314, 315, 116, 316, 317, 318, 319, 117, 320, 321, 322, 323, 324, 325, 326, 327, 109, 108, 328, 329, 330, 331, 113, 332, 114, 333, 115, 334, 335, 336, 337, 338, 339, 340, 341, 342, 343, 344, 345, 346, 347, 348, 349, 350, 351, 352, 353, 354, 355, 356, 357, 358, 359, 360, 361, 362, 118, 363, 364, 365, 366, 367, 368, 369, 370, 371, 372, 373, 374, 375, 376, 377, 378, 120, 692, 693, 694, 695, 696, 697, 698, 699, 700, 701, 702, 703, 704, 705, 706, 707, 708, 709, 710, 711, 712, 713, 714, 715, 716, 717, 718, 719, 720, 721, 722] (by decide +kernel) (by decide +kernel)
set_option maxRecDepth 20000 in
theorem gL_law_X7_pair : GoodIn wsL_law (wsV RL 36 RX7 yX7_pair wsX7_pair) := goodIn_app (goodIn_of _ (by decide +kernel)) ggL_law_X7_pair
set_option maxRecDepth 20000 in
theorem ggL_law_X6_free : GoodIn wsL_law wsX6_free := goodIn_r _ [414, 24, 32, 28, 383, 384, 385, 23, 386, 387, 388, 389, 390, 58, 415, 416, 417, 31, 418, 78, 391, 392, 393, 394, 257, 258, 259, 260, 261, 89, 88, 262, 263, 264, 265, 85, 83, 79, 87, 256, 71, 72, 73, 266, 267, 268, 27, 269, 68, 270, 271, 272, 273, 86, 84, 274, 275, 276, 277, 90, 91, 92, 278, 279, 280, 281, 81, 282, 283, 284, 285, 286, 287, 288, 289, 252, 253, 254, 255, 82, 80, 686, 687, 688, 689, 690, 691, 727, 728, 729, 730, 731, 732, 738, 739, 740, 741, 742, 743, 744, 745, 746, 747, 748, 749, 750, 751, 752, 733, 734, 735, 736, 737] (by decide +kernel) (by decide +kernel)
set_option maxRecDepth 20000 in
theorem gL_law_X6_free : GoodIn wsL_law (wsV RL 37 RX6 yX6_free wsX6_free) := goodIn_app (goodIn_of _ (by decide +kernel)) ggL_law_X6_free
set_option maxRecDepth 20000 in
theorem ggL_law_X7_free : GoodIn wsL_law wsX7_free := goodIn_r _ [422, 136, 119, 399, 400, 401, 5, 402, 403, 404, 405, 406, 294, 407, 408, 409, 410, 303, 304, 305, 306, 307, 308, 112, 309, 310, 311, 312, 313, 314, 315, 116, 316, 317, 318, 319, 117, 320, 321, 322, 323, 324, 325, 326, 327, 109, 108, 328, 329, 330, 331, 113, 332, 114, 333, 115, 334, 335, 336, 337, 338, 339, 340, 341, 342, 343, 344, 345, 346, 347, 348, 349, 350, 351, 352, 353, 354, 355, 356, 357, 358, 359, 360, 361, 362, 118, 363, 364, 365, 366, 367, 368, 369, 370, 371, 372, 373, 374, 375, 376, 377, 378, 120, 692, 693, 694, 695, 696, 697, 698, 699, 700, 701, 702, 703, 704, 705, 706, 707, 708, 709, 710, 711, 712, 713, 714, 715, 716, 717, 718, 719, 720, 721, 722] (by decide +kernel) (by decide +kernel)
set_option maxRecDepth 20000 in
theorem gL_law_X7_free : GoodIn wsL_law (wsV RL 41 RX7 yX7_free wsX7_free) := goodIn_app (goodIn_of _ (by decide +kernel)) ggL_law_X7_free
set_option maxRecDepth 20000 in
theorem ggL_law_X6_mark : GoodIn wsL_law wsX6_mark := goodIn_r _ [426, 32, 28, 427, 428, 429, 31, 430, 87, 257, 258, 259, 260, 261, 89, 88, 262, 263, 264, 265, 85, 83, 79, 78, 256, 71, 72, 73, 266, 267, 268, 27, 269, 68, 270, 271, 272, 273, 86, 84, 274, 275, 276, 277, 90, 91, 92, 278, 279, 280, 281, 81, 282, 283, 284, 285, 286, 287, 288, 289, 252, 253, 254, 255, 82, 80, 686, 687, 688, 689, 690, 691, 738, 739, 740, 741, 742, 743, 744, 745, 746, 747, 748, 749, 750, 751, 752, 733, 734, 735, 736, 737] (by decide +kernel) (by decide +kernel)
set_option maxRecDepth 20000 in
theorem gL_law_X6_mark : GoodIn wsL_law (wsV RL 42 RX6 yX6_mark wsX6_mark) := goodIn_app (goodIn_of _ (by decide +kernel)) ggL_law_X6_mark
set_option maxRecDepth 20000 in
theorem ggL_law_X7_mark : GoodIn wsL_law wsX7_mark := goodIn_r _ [434, 136, 118, 303, 304, 305, 5, 306, 307, 294, 308, 112, 309, 310, 311, 312, 313, 314, 315, 116, 316, 317, 318, 319, 117, 320, 321, 322, 323, 324, 325, 326, 327, 109, 108, 328, 329, 330, 331, 113, 332, 114, 333, 115, 334, 335, 336, 337, 338, 339, 340, 341, 342, 343, 344, 345, 346, 347, 348, 349, 350, 351, 352, 353, 354, 355, 356, 357, 358, 359, 360, 361, 362, 119, 363, 364, 365, 366, 367, 368, 369, 370, 371, 372, 373, 374, 375, 376, 377, 378, 120, 692, 693, 694, 695, 696, 697, 698, 699, 700, 701, 702, 703, 704, 705, 706, 707, 708, 709, 710, 711, 712, 713, 714, 715, 716, 717, 718, 719, 720, 721, 722] (by decide +kernel) (by decide +kernel)
set_option maxRecDepth 20000 in
theorem gL_law_X7_mark : GoodIn wsL_law (wsV RL 46 RX7 yX7_mark wsX7_mark) := goodIn_app (goodIn_of _ (by decide +kernel)) ggL_law_X7_mark
set_option maxRecDepth 20000 in
theorem ggL_law_X6_resettle : GoodIn wsL_law wsX6_resettle := goodIn_r _ [438, 32, 28, 439, 440, 441, 31, 442, 85, 79, 252, 253, 254, 255, 82, 86, 80, 81, 256, 71, 72, 73, 257, 258, 259, 260, 261, 89, 88, 262, 263, 264, 265, 83, 87, 78, 266, 267, 268, 27, 269, 68, 270, 271, 272, 273, 84, 274, 275, 276, 277, 90, 91, 92, 278, 279, 280, 281, 282, 283, 284, 285, 286, 287, 288, 289, 443, 444, 445, 446, 686, 687, 688, 689, 690, 691, 738, 739, 740, 741, 742, 743, 744, 745, 746, 747, 748, 749, 750, 751, 752, 733, 734, 735, 736, 737] (by decide +kernel) (by decide +kernel)
set_option maxRecDepth 20000 in
theorem gL_law_X6_resettle : GoodIn wsL_law (wsV RL 47 RX6 yX6_resettle wsX6_resettle) := goodIn_app (goodIn_of _ (by decide +kernel)) ggL_law_X6_resettle
set_option maxRecDepth 20000 in
theorem ggL_law_X7_resettle : GoodIn wsL_law wsX7_resettle := goodIn_r _ [450, 136, 294, 112, 303, 304, 305, 5, 306, 307, 308, 309, 310, 311, 312, 313, 314, 315, 116, 316, 317, 318, 319, 117, 320, 321, 322, 323, 324, 325, 326, 327, 109, 108, 328, 329, 330, 331, 113, 332, 114, 333, 115, 334, 335, 336, 337, 338, 339, 340, 341, 342, 343, 344, 345, 346, 347, 348, 349, 350, 351, 352, 353, 354, 355, 356, 357, 358, 359, 360, 361, 362, 119, 118, 363, 364, 365, 366, 367, 368, 369, 370, 371, 372, 373, 374, 375, 376, 377, 378, 120, 451, 452, 453, 454, 692, 693, 694, 695, 696, 697, 698, 699, 700, 701, 702, 703, 704, 705, 706, 707, 708, 709, 710, 711, 712, 713, 714, 715, 716, 717, 718, 719, 720, 721, 722] (by decide +kernel) (by decide +kernel)
set_option maxRecDepth 20000 in
theorem gL_law_X7_resettle : GoodIn wsL_law (wsV RL 51 RX7 yX7_resettle wsX7_resettle) := goodIn_app (goodIn_of _ (by decide +kernel)) ggL_law_X7_resettle
set_option maxRecDepth 20000 in
theorem ggL_law_X6_distance : GoodIn wsL_law wsX6_distance := goodIn_r _ [458, 24, 28, 459, 388, 389, 23, 390, 58, 460, 267, 268, 27, 269, 68, 686, 687, 688, 689, 690, 691, 727, 728, 729, 730, 731, 732, 733, 734, 735, 736, 737] (by decide +kernel) (by decide +kernel)
set_option maxRecDepth 20000 in
theorem gL_law_X6_distance : GoodIn wsL_law (wsV RL 52 RX6 yX6_distance wsX6_distance) := goodIn_app (goodIn_of _ (by decide +kernel)) ggL_law_X6_distance
set_option maxRecDepth 20000 in
theorem ggL_law_X7_distance : GoodIn wsL_law wsX7_distance := goodIn_r _ [464, 136, 116, 403, 404, 405, 5, 406, 294, 692, 693, 694, 695, 696, 697, 698, 699, 700, 701, 702, 703, 704, 705, 706, 707, 708, 709, 710, 711, 712, 713, 714, 715, 716, 717, 718, 719, 720, 721, 722] (by decide +kernel) (by decide +kernel)
set_option maxRecDepth 20000 in
theorem gL_law_X7_distance : GoodIn wsL_law (wsV RL 55 RX7 yX7_distance wsX7_distance) := goodIn_app (goodIn_of _ (by decide +kernel)) ggL_law_X7_distance
set_option maxRecDepth 20000 in
theorem ggL_law_X6_heap : GoodIn wsL_law wsX6_heap := goodIn_r _ [468, 24, 32, 459, 388, 389, 23, 390, 58, 469, 470, 471, 31, 472, 80, 79, 686, 687, 688, 689, 690, 691, 727, 728, 729, 730, 731, 732, 738, 739, 740, 741, 742, 743, 744, 745, 746, 747, 748, 749, 750, 751, 752] (by decide +kernel) (by decide +kernel)
set_option maxRecDepth 20000 in
theorem gL_law_X6_heap : GoodIn wsL_law (wsV RL 56 RX6 yX6_heap wsX6_heap) := goodIn_app (goodIn_of _ (by decide +kernel)) ggL_law_X6_heap
set_option maxRecDepth 20000 in
theorem ggL_law_X7_heap : GoodIn wsL_law wsX7_heap := goodIn_r _ [476, 136, 112, 403, 404, 405, 5, 406, 294, 692, 693, 694, 695, 696, 697, 698, 699, 700, 701, 702, 703, 704, 705, 706, 707, 708, 709, 710, 711, 712, 713, 714, 715, 716, 717, 718, 719, 720, 721, 722] (by decide +kernel) (by decide +kernel)
set_option maxRecDepth 20000 in
theorem gL_law_X7_heap : GoodIn wsL_law (wsV RL 59 RX7 yX7_heap wsX7_heap) := goodIn_app (goodIn_of _ (by decide +kernel)) ggL_law_X7_heap
set_option maxRecDepth 20000 in
theorem ggL_law_X6_cost : GoodIn wsL_law wsX6_cost := goodIn_r _ [480, 32, 28, 24, 481, 482, 483, 31, 484, 85, 485, 486, 487, 488, 87, 78, 489, 490, 240, 491, 266, 267, 268, 27, 269, 68, 492, 493, 494, 495, 79, 383, 384, 385, 23, 386, 387, 388, 389, 390, 58, 496, 686, 687, 688, 689, 690, 691, 738, 739, 740, 741, 742, 743, 744, 745, 746, 747, 748, 749, 750, 751, 752, 733, 734, 735, 736, 737, 727, 728, 729, 730, 731, 732] (by decide +kernel) (by decide +kernel)
set_option maxRecDepth 20000 in
theorem gL_law_X6_cost : GoodIn wsL_law (wsV RL 60 RX6 yX6_cost wsX6_cost) := goodIn_app (goodIn_of _ (by decide +kernel)) ggL_law_X6_cost
set_option maxRecDepth 20000 in
theorem ggL_law_X7_cost : GoodIn wsL_law wsX7_cost := goodIn_r _ [500, 136, 112, 294, 399, 400, 401, 5, 402, 403, 404, 405, 406, 359, 360, 361, 362, 116, 119, 118, 692, 693, 694, 695, 696, 697, 698, 699, 700, 701, 702, 703, 704, 705, 706, 707, 708, 709, 710, 711, 712, 713, 714, 715, 716, 717, 718, 719, 720, 721, 722] (by decide +kernel) (by decide +kernel)
set_option maxRecDepth 20000 in
theorem gL_law_X7_cost : GoodIn wsL_law (wsV RL 63 RX7 yX7_cost wsX7_cost) := goodIn_app (goodIn_of _ (by decide +kernel)) ggL_law_X7_cost
set_option maxRecDepth 20000 in
theorem ggL_law_X6_row : GoodIn wsL_law wsX6_row := goodIn_r _ [504, 24, 505, 506, 507, 23, 508, 54, 387, 388, 389, 390, 58, 509, 220, 221, 222, 53, 686, 687, 688, 689, 690, 691, 727, 728, 729, 730, 731, 732] (by decide +kernel) (by decide +kernel)
set_option maxRecDepth 20000 in
theorem gL_law_X6_row : GoodIn wsL_law (wsV RL 64 RX6 yX6_row wsX6_row) := goodIn_app (goodIn_of _ (by decide +kernel)) ggL_law_X6_row
set_option maxRecDepth 20000 in
theorem ggL_law_X7_row : GoodIn wsL_law wsX7_row := goodIn_r _ [513, 136, 109, 108, 403, 404, 405, 5, 406, 294, 692, 693, 694, 695, 696, 697, 698, 699, 700, 701, 702, 703, 704, 705, 706, 707, 708, 709, 710, 711, 712, 713, 714, 715, 716, 717, 718, 719, 720, 721, 722] (by decide +kernel) (by decide +kernel)
set_option maxRecDepth 20000 in
theorem gL_law_X7_row : GoodIn wsL_law (wsV RL 67 RX7 yX7_row wsX7_row) := goodIn_app (goodIn_of _ (by decide +kernel)) ggL_law_X7_row
set_option maxRecDepth 20000 in
theorem ggL_law_X6_common : GoodIn wsL_law wsX6_common := goodIn_r _ [517, 24, 518, 224, 225, 23, 226, 58, 57, 227, 228, 229, 230, 231, 232, 233, 686, 687, 688, 689, 690, 691, 727, 728, 729, 730, 731, 732] (by decide +kernel) (by decide +kernel)
set_option maxRecDepth 20000 in
theorem gL_law_X6_common : GoodIn wsL_law (wsV RL 68 RX6 yX6_common wsX6_common) := goodIn_app (goodIn_of _ (by decide +kernel)) ggL_law_X6_common
set_option maxRecDepth 20000 in
theorem ggL_law_X7_common : GoodIn wsL_law wsX7_common := goodIn_r _ [522, 136, 320, 321, 322, 5, 323, 294, 324, 325, 326, 327, 109, 108, 692, 693, 694, 695, 696, 697, 698, 699, 700, 701, 702, 703, 704, 705, 706, 707, 708, 709, 710, 711, 712, 713, 714, 715, 716, 717, 718, 719, 720, 721, 722] (by decide +kernel) (by decide +kernel)
set_option maxRecDepth 20000 in
theorem gL_law_X7_common : GoodIn wsL_law (wsV RL 71 RX7 yX7_common wsX7_common) := goodIn_app (goodIn_of _ (by decide +kernel)) ggL_law_X7_common
set_option maxRecDepth 20000 in
theorem ggL_law_X6_sign : GoodIn wsL_law wsX6_sign := goodIn_r _ [526, 24, 36, 32, 459, 388, 389, 23, 390, 58, 527, 528, 529, 31, 530, 85, 492, 493, 494, 495, 79, 531, 532, 533, 35, 534, 100, 535, 208, 209, 210, 536, 537, 538, 539, 98, 96, 97, 540, 541, 542, 543, 57, 544, 545, 546, 547, 99, 548, 549, 550, 551, 552, 553, 554, 555, 686, 687, 688, 689, 690, 691, 727, 728, 729, 730, 731, 732, 738, 739, 740, 741, 742, 743, 744, 745, 746, 747, 748, 749, 750, 751, 752, 753, 754, 755, 756, 757] (by decide +kernel) (by decide +kernel)
set_option maxRecDepth 20000 in
theorem gL_law_X6_sign : GoodIn wsL_law (wsV RL 72 RX6 yX6_sign wsX6_sign) := goodIn_app (goodIn_of _ (by decide +kernel)) ggL_law_X6_sign
set_option maxRecDepth 20000 in
theorem ggL_law_X7_sign : GoodIn wsL_law wsX7_sign := goodIn_r _ [559, 136, 112, 560, 121, 122, 403, 404, 405, 5, 406, 294, 561, 562, 563, 564, 565, 123, 324, 325, 326, 327, 109, 108, 566, 567, 568, 569, 570, 571, 572, 573, 692, 693, 694, 695, 696, 697, 698, 699, 700, 701, 702, 703, 704, 705, 706, 707, 708, 709, 710, 711, 712, 713, 714, 715, 716, 717, 718, 719, 720, 721, 722] (by decide +kernel) (by decide +kernel)
set_option maxRecDepth 20000 in
theorem gL_law_X7_sign : GoodIn wsL_law (wsV RL 75 RX7 yX7_sign wsX7_sign) := goodIn_app (goodIn_of _ (by decide +kernel)) ggL_law_X7_sign
set_option maxRecDepth 20000 in
theorem ggL_law_X6_signed : GoodIn wsL_law wsX6_signed := goodIn_r _ [577, 36, 578, 579, 580, 35, 581, 100, 99, 686, 687, 688, 689, 690, 691, 753, 754, 755, 756, 757] (by decide +kernel) (by decide +kernel)
set_option maxRecDepth 20000 in
theorem gL_law_X6_signed : GoodIn wsL_law (wsV RL 76 RX6 yX6_signed wsX6_signed) := goodIn_app (goodIn_of _ (by decide +kernel)) ggL_law_X6_signed
set_option maxRecDepth 20000 in
theorem ggL_law_X7_signed : GoodIn wsL_law wsX7_signed := goodIn_r _ [585, 136, 560, 121, 692, 693, 694, 695, 696, 697, 698, 699, 700, 701, 702, 703, 704, 705, 706, 707, 708, 709, 710, 711, 712, 713, 714, 715, 716, 717, 718, 719, 720, 721, 722] (by decide +kernel) (by decide +kernel)
set_option maxRecDepth 20000 in
theorem gL_law_X7_signed : GoodIn wsL_law (wsV RL 79 RX7 yX7_signed wsX7_signed) := goodIn_app (goodIn_of _ (by decide +kernel)) ggL_law_X7_signed
set_option maxRecDepth 20000 in
theorem ggL_law_X6_fix : GoodIn wsL_law wsX6_fix := goodIn_r _ [589, 24, 20, 459, 388, 389, 23, 390, 58, 166, 147, 148, 19, 149, 48, 590, 591, 592, 593, 56, 686, 687, 688, 689, 690, 691, 727, 728, 729, 730, 731, 732, 725, 726] (by decide +kernel) (by decide +kernel)
set_option maxRecDepth 20000 in
theorem gL_law_X6_fix : GoodIn wsL_law (wsV RL 80 RX6 yX6_fix wsX6_fix) := goodIn_app (goodIn_of _ (by decide +kernel)) ggL_law_X6_fix
set_option maxRecDepth 20000 in
theorem ggL_law_X7_fix : GoodIn wsL_law wsX7_fix := goodIn_r _ [597, 136, 111, 403, 404, 405, 5, 406, 294, 154, 155, 156, 157, 105, 692, 693, 694, 695, 696, 697, 698, 699, 700, 701, 702, 703, 704, 705, 706, 707, 708, 709, 710, 711, 712, 713, 714, 715, 716, 717, 718, 719, 720, 721, 722] (by decide +kernel) (by decide +kernel)
set_option maxRecDepth 20000 in
theorem gL_law_X7_fix : GoodIn wsL_law (wsV RL 83 RX7 yX7_fix wsX7_fix) := goodIn_app (goodIn_of _ (by decide +kernel)) ggL_law_X7_fix
set_option maxRecDepth 20000 in
theorem ggL_law_L_look : GoodIn wsL_law wsL_look := goodIn_ca (goodIn_r _ [601, 602, 603, 604, 605, 2, 606, 607, 608, 24, 32, 459, 388, 389, 23, 390, 58, 609, 610, 611, 612, 55, 613, 216, 217, 218, 54, 614, 615, 616, 617, 56, 618, 619, 620, 621, 20, 622, 208, 209, 210, 623, 493, 494, 31, 495, 79, 624, 625, 626, 19, 627, 47, 628, 629, 630, 631, 81, 686, 687, 688, 689, 690, 691, 727, 728, 729, 730, 731, 732, 738, 739, 740, 741, 742, 743, 744, 745, 746, 747, 748, 749, 750, 751, 752, 725, 726] (by decide +kernel) (by decide +kernel)) (goodIn_sub (fun _ h => List.mem_append_right _ h) (by decide +kernel))
set_option maxRecDepth 20000 in
theorem gL_law_L_look : GoodIn wsL_law (va_wsS RL 84 yL_look wsL_look) := goodIn_app (goodIn_of _ (by decide +kernel)) ggL_law_L_look
set_option maxRecDepth 20000 in
theorem ggL_law_X7_look : GoodIn wsL_law wsX7_look := goodIn_r _ [635, 136, 110, 109, 111, 112, 403, 404, 405, 5, 406, 294, 636, 637, 638, 639, 640, 641, 642, 643, 106, 367, 368, 369, 370, 692, 693, 694, 695, 696, 697, 698, 699, 700, 701, 702, 703, 704, 705, 706, 707, 708, 709, 710, 711, 712, 713, 714, 715, 716, 717, 718, 719, 720, 721, 722] (by decide +kernel) (by decide +kernel)
set_option maxRecDepth 20000 in
theorem gL_law_X7_look : GoodIn wsL_law (wsV RL 89 RX7 yX7_look wsX7_look) := goodIn_app (goodIn_of _ (by decide +kernel)) ggL_law_X7_look
set_option maxRecDepth 20000 in
theorem ggL_law_X7_thrown : GoodIn wsL_law wsX7_thrown := goodIn_r _ [647, 136, 692, 693, 694, 695, 696, 697, 698, 699, 700, 701, 702, 703, 704, 705, 706, 707, 708, 709, 710, 711, 712, 713, 714, 715, 716, 717, 718, 719, 720, 721, 722] (by decide +kernel) (by decide +kernel)
set_option maxRecDepth 20000 in
theorem gL_law_X7_thrown : GoodIn wsL_law (wsV RL 90 RX7 yX7_thrown wsX7_thrown) := goodIn_app (goodIn_of _ (by decide +kernel)) ggL_law_X7_thrown
set_option maxRecDepth 20000 in
theorem ggL_law_X6_behind : GoodIn wsL_law wsX6_behind := goodIn_r _ [651, 20, 166, 147, 148, 19, 149, 48, 624, 625, 626, 627, 47, 686, 687, 688, 689, 690, 691, 725, 726] (by decide +kernel) (by decide +kernel)
set_option maxRecDepth 20000 in
theorem gL_law_X6_behind : GoodIn wsL_law (wsV RL 93 RX6 yX6_behind wsX6_behind) := goodIn_app (goodIn_of _ (by decide +kernel)) ggL_law_X6_behind
set_option maxRecDepth 20000 in
theorem ggL_law_X7_behind : GoodIn wsL_law wsX7_behind := goodIn_r _ [655, 136, 154, 155, 156, 5, 157, 105, 640, 641, 642, 643, 106, 692, 693, 694, 695, 696, 697, 698, 699, 700, 701, 702, 703, 704, 705, 706, 707, 708, 709, 710, 711, 712, 713, 714, 715, 716, 717, 718, 719, 720, 721, 722] (by decide +kernel) (by decide +kernel)
set_option maxRecDepth 20000 in
theorem gL_law_X7_behind : GoodIn wsL_law (wsV RL 96 RX7 yX7_behind wsX7_behind) := goodIn_app (goodIn_of _ (by decide +kernel)) ggL_law_X7_behind
set_option maxRecDepth 20000 in
theorem ggL_law_X6_count : GoodIn wsL_law wsX6_count := goodIn_r _ [659, 24, 32, 20, 16, 622, 208, 209, 23, 210, 58, 443, 444, 445, 31, 446, 86, 660, 661, 662, 19, 663, 48, 664, 665, 666, 667, 87, 668, 192, 193, 15, 194, 42, 669, 670, 671, 672, 673, 224, 225, 226, 57, 227, 228, 229, 230, 231, 232, 233, 674, 675, 676, 677, 88, 678, 679, 680, 2, 681, 618, 619, 620, 621, 609, 610, 611, 612, 55, 614, 615, 616, 617, 56, 623, 493, 494, 495, 79, 624, 625, 626, 627, 47, 686, 687, 688, 689, 690, 691, 727, 728, 729, 730, 731, 732, 738, 739, 740, 741, 742, 743, 744, 745, 746, 747, 748, 749, 750, 751, 752, 725, 726, 723, 724] (by decide +kernel) (by decide +kernel)
set_option maxRecDepth 20000 in
theorem gL_law_X6_count : GoodIn wsL_law (wsV RL 97 RX6 yX6_count wsX6_count) := goodIn_app (goodIn_of _ (by decide +kernel)) ggL_law_X6_count
set_option maxRecDepth 20000 in
theorem ggL_law_X7_count : GoodIn wsL_law wsX7_count := goodIn_r _ [685, 136, 294, 105, 118, 137, 311, 451, 452, 453, 5, 454, 112, 320, 321, 322, 323, 324, 325, 326, 327, 109, 108, 636, 637, 638, 639, 111, 110, 640, 641, 642, 643, 106, 692, 693, 694, 695, 696, 697, 698, 699, 700, 701, 702, 703, 704, 705, 706, 707, 708, 709, 710, 711, 712, 713, 714, 715, 716, 717, 718, 719, 720, 721, 722] (by decide +kernel) (by decide +kernel)
set_option maxRecDepth 20000 in
theorem gL_law_X7_count : GoodIn wsL_law (wsV RL 100 RX7 yX7_count wsX7_count) := goodIn_app (goodIn_of _ (by decide +kernel)) ggL_law_X7_count
theorem dL_law_0 : decode cL_law 0 = .ok (.new 8, 3) := by decide +kernel
theorem dL_law_3 : decode cL_law 3 = .ok (.dup, 1) := by decide +kernel
theorem dL_law_4 : decode cL_law 4 = .ok (.invokespecial 15, 3) := by decide +kernel
theorem dL_law_7 : decode cL_law 7 = .ok (.astore_n 1, 1) := by decide +kernel
theorem dL_law_8 : decode cL_law 8 = .ok (.new 16, 3) := by decide +kernel
theorem dL_law_11 : decode cL_law 11 = .ok (.dup, 1) := by decide +kernel
theorem dL_law_12 : decode cL_law 12 = .ok (.invokespecial 18, 3) := by decide +kernel
theorem dL_law_15 : decode cL_law 15 = .ok (.astore_n 2, 1) := by decide +kernel
theorem dL_law_16 : decode cL_law 16 = .ok (.iconst 1, 1) := by decide +kernel
theorem dL_law_17 : decode cL_law 17 = .ok (.newarray .long, 2) := by decide +kernel
theorem dL_law_19 : decode cL_law 19 = .ok (.astore_n 3, 1) := by decide +kernel
theorem dL_law_20 : decode cL_law 20 = .ok (.iconst 0, 1) := by decide +kernel
theorem dL_law_21 : decode cL_law 21 = .ok (.istore 4, 2) := by decide +kernel
theorem dL_law_23 : decode cL_law 23 = .ok (.iload 4, 2) := by decide +kernel
theorem dL_law_25 : decode cL_law 25 = .ok (.aload_n 0, 1) := by decide +kernel
theorem dL_law_26 : decode cL_law 26 = .ok (.arraylength, 1) := by decide +kernel
theorem dL_law_27 : decode cL_law 27 = .ok (.iconst 4, 1) := by decide +kernel
theorem dL_law_28 : decode cL_law 28 = .ok (.isub, 1) := by decide +kernel
theorem dL_law_29 : decode cL_law 29 = .ok (.if_icmp .gt 694, 3) := by decide +kernel
theorem dL_law_32 : decode cL_law 32 = .ok (.aload_n 0, 1) := by decide +kernel
theorem dL_law_33 : decode cL_law 33 = .ok (.iload 4, 2) := by decide +kernel
theorem dL_law_35 : decode cL_law 35 = .ok (.iaload, 1) := by decide +kernel
theorem dL_law_36 : decode cL_law 36 = .ok (.bipush 31, 2) := by decide +kernel
theorem dL_law_38 : decode cL_law 38 = .ok (.iand, 1) := by decide +kernel
theorem dL_law_39 : decode cL_law 39 = .ok (.tableswitch 678 0 17 #[85, 110, 135, 160, 225, 262, 287, 300, 337, 362, 399, 436, 461, 486, 511, 548, 616, 653], 85) := by decide +kernel
theorem dL_law_124 : decode cL_law 124 = .ok (.aload_n 1, 1) := by decide +kernel
theorem dL_law_125 : decode cL_law 125 = .ok (.aload_n 0, 1) := by decide +kernel
theorem dL_law_126 : decode cL_law 126 = .ok (.iload 4, 2) := by decide +kernel
theorem dL_law_128 : decode cL_law 128 = .ok (.iconst 1, 1) := by decide +kernel
theorem dL_law_129 : decode cL_law 129 = .ok (.iadd, 1) := by decide +kernel
theorem dL_law_130 : decode cL_law 130 = .ok (.iaload, 1) := by decide +kernel
theorem dL_law_131 : decode cL_law 131 = .ok (.invokevirtual 19, 3) := by decide +kernel
theorem dL_law_134 : decode cL_law 134 = .ok (.aload_n 2, 1) := by decide +kernel
theorem dL_law_135 : decode cL_law 135 = .ok (.aload_n 0, 1) := by decide +kernel
theorem dL_law_136 : decode cL_law 136 = .ok (.iload 4, 2) := by decide +kernel
theorem dL_law_138 : decode cL_law 138 = .ok (.iconst 1, 1) := by decide +kernel
theorem dL_law_139 : decode cL_law 139 = .ok (.iadd, 1) := by decide +kernel
theorem dL_law_140 : decode cL_law 140 = .ok (.iaload, 1) := by decide +kernel
theorem dL_law_141 : decode cL_law 141 = .ok (.invokevirtual 23, 3) := by decide +kernel
theorem dL_law_144 : decode cL_law 144 = .ok (.if_icmp .eq 573, 3) := by decide +kernel
theorem dL_law_147 : decode cL_law 147 = .ok (.iconst 0, 1) := by decide +kernel
theorem dL_law_148 : decode cL_law 148 = .ok (.ireturn, 1) := by decide +kernel
theorem dL_law_149 : decode cL_law 149 = .ok (.aload_n 1, 1) := by decide +kernel
theorem dL_law_150 : decode cL_law 150 = .ok (.aload_n 0, 1) := by decide +kernel
theorem dL_law_151 : decode cL_law 151 = .ok (.iload 4, 2) := by decide +kernel
theorem dL_law_153 : decode cL_law 153 = .ok (.iconst 1, 1) := by decide +kernel
theorem dL_law_154 : decode cL_law 154 = .ok (.iadd, 1) := by decide +kernel
theorem dL_law_155 : decode cL_law 155 = .ok (.iaload, 1) := by decide +kernel
theorem dL_law_156 : decode cL_law 156 = .ok (.invokevirtual 24, 3) := by decide +kernel
theorem dL_law_159 : decode cL_law 159 = .ok (.aload_n 2, 1) := by decide +kernel
theorem dL_law_160 : decode cL_law 160 = .ok (.aload_n 0, 1) := by decide +kernel
theorem dL_law_161 : decode cL_law 161 = .ok (.iload 4, 2) := by decide +kernel
theorem dL_law_163 : decode cL_law 163 = .ok (.iconst 1, 1) := by decide +kernel
theorem dL_law_164 : decode cL_law 164 = .ok (.iadd, 1) := by decide +kernel
theorem dL_law_165 : decode cL_law 165 = .ok (.iaload, 1) := by decide +kernel
theorem dL_law_166 : decode cL_law 166 = .ok (.invokevirtual 27, 3) := by decide +kernel
theorem dL_law_169 : decode cL_law 169 = .ok (.if_icmp .eq 548, 3) := by decide +kernel
theorem dL_law_172 : decode cL_law 172 = .ok (.iconst 0, 1) := by decide +kernel
theorem dL_law_173 : decode cL_law 173 = .ok (.ireturn, 1) := by decide +kernel
theorem dL_law_174 : decode cL_law 174 = .ok (.aload_n 1, 1) := by decide +kernel
theorem dL_law_175 : decode cL_law 175 = .ok (.aload_n 0, 1) := by decide +kernel
theorem dL_law_176 : decode cL_law 176 = .ok (.iload 4, 2) := by decide +kernel
theorem dL_law_178 : decode cL_law 178 = .ok (.iconst 1, 1) := by decide +kernel
theorem dL_law_179 : decode cL_law 179 = .ok (.iadd, 1) := by decide +kernel
theorem dL_law_180 : decode cL_law 180 = .ok (.iaload, 1) := by decide +kernel
theorem dL_law_181 : decode cL_law 181 = .ok (.invokevirtual 28, 3) := by decide +kernel
theorem dL_law_184 : decode cL_law 184 = .ok (.aload_n 2, 1) := by decide +kernel
theorem dL_law_185 : decode cL_law 185 = .ok (.aload_n 0, 1) := by decide +kernel
theorem dL_law_186 : decode cL_law 186 = .ok (.iload 4, 2) := by decide +kernel
theorem dL_law_188 : decode cL_law 188 = .ok (.iconst 1, 1) := by decide +kernel
theorem dL_law_189 : decode cL_law 189 = .ok (.iadd, 1) := by decide +kernel
theorem dL_law_190 : decode cL_law 190 = .ok (.iaload, 1) := by decide +kernel
theorem dL_law_191 : decode cL_law 191 = .ok (.invokevirtual 31, 3) := by decide +kernel
theorem dL_law_194 : decode cL_law 194 = .ok (.if_icmp .eq 523, 3) := by decide +kernel
theorem dL_law_197 : decode cL_law 197 = .ok (.iconst 0, 1) := by decide +kernel
theorem dL_law_198 : decode cL_law 198 = .ok (.ireturn, 1) := by decide +kernel
theorem dL_law_199 : decode cL_law 199 = .ok (.aload_n 1, 1) := by decide +kernel
theorem dL_law_200 : decode cL_law 200 = .ok (.aload_n 0, 1) := by decide +kernel
theorem dL_law_201 : decode cL_law 201 = .ok (.iload 4, 2) := by decide +kernel
theorem dL_law_203 : decode cL_law 203 = .ok (.iconst 1, 1) := by decide +kernel
theorem dL_law_204 : decode cL_law 204 = .ok (.iadd, 1) := by decide +kernel
theorem dL_law_205 : decode cL_law 205 = .ok (.iaload, 1) := by decide +kernel
theorem dL_law_206 : decode cL_law 206 = .ok (.aload_n 0, 1) := by decide +kernel
theorem dL_law_207 : decode cL_law 207 = .ok (.iload 4, 2) := by decide +kernel
theorem dL_law_209 : decode cL_law 209 = .ok (.iconst 2, 1) := by decide +kernel
theorem dL_law_210 : decode cL_law 210 = .ok (.iadd, 1) := by decide +kernel
theorem dL_law_211 : decode cL_law 211 = .ok (.iaload, 1) := by decide +kernel
theorem dL_law_212 : decode cL_law 212 = .ok (.aload_n 0, 1) := by decide +kernel
theorem dL_law_213 : decode cL_law 213 = .ok (.iload 4, 2) := by decide +kernel
theorem dL_law_215 : decode cL_law 215 = .ok (.iconst 3, 1) := by decide +kernel
theorem dL_law_216 : decode cL_law 216 = .ok (.iadd, 1) := by decide +kernel
theorem dL_law_217 : decode cL_law 217 = .ok (.iaload, 1) := by decide +kernel
theorem dL_law_218 : decode cL_law 218 = .ok (.ifCond .eq 7, 3) := by decide +kernel
theorem dL_law_221 : decode cL_law 221 = .ok (.iconst 1, 1) := by decide +kernel
theorem dL_law_222 : decode cL_law 222 = .ok (.goto 4, 3) := by decide +kernel
theorem dL_law_225 : decode cL_law 225 = .ok (.iconst 0, 1) := by decide +kernel
theorem dL_law_226 : decode cL_law 226 = .ok (.invokevirtual 32, 3) := by decide +kernel
theorem dL_law_229 : decode cL_law 229 = .ok (.aload_n 2, 1) := by decide +kernel
theorem dL_law_230 : decode cL_law 230 = .ok (.aload_n 0, 1) := by decide +kernel
theorem dL_law_231 : decode cL_law 231 = .ok (.iload 4, 2) := by decide +kernel
theorem dL_law_233 : decode cL_law 233 = .ok (.iconst 1, 1) := by decide +kernel
theorem dL_law_234 : decode cL_law 234 = .ok (.iadd, 1) := by decide +kernel
theorem dL_law_235 : decode cL_law 235 = .ok (.iaload, 1) := by decide +kernel
theorem dL_law_236 : decode cL_law 236 = .ok (.aload_n 0, 1) := by decide +kernel
theorem dL_law_237 : decode cL_law 237 = .ok (.iload 4, 2) := by decide +kernel
theorem dL_law_239 : decode cL_law 239 = .ok (.iconst 2, 1) := by decide +kernel
theorem dL_law_240 : decode cL_law 240 = .ok (.iadd, 1) := by decide +kernel
theorem dL_law_241 : decode cL_law 241 = .ok (.iaload, 1) := by decide +kernel
theorem dL_law_242 : decode cL_law 242 = .ok (.aload_n 0, 1) := by decide +kernel
theorem dL_law_243 : decode cL_law 243 = .ok (.iload 4, 2) := by decide +kernel
theorem dL_law_245 : decode cL_law 245 = .ok (.iconst 3, 1) := by decide +kernel
theorem dL_law_246 : decode cL_law 246 = .ok (.iadd, 1) := by decide +kernel
theorem dL_law_247 : decode cL_law 247 = .ok (.iaload, 1) := by decide +kernel
theorem dL_law_248 : decode cL_law 248 = .ok (.ifCond .eq 7, 3) := by decide +kernel
theorem dL_law_251 : decode cL_law 251 = .ok (.iconst 1, 1) := by decide +kernel
theorem dL_law_252 : decode cL_law 252 = .ok (.goto 4, 3) := by decide +kernel
theorem dL_law_255 : decode cL_law 255 = .ok (.iconst 0, 1) := by decide +kernel
theorem dL_law_256 : decode cL_law 256 = .ok (.invokevirtual 36, 3) := by decide +kernel
theorem dL_law_259 : decode cL_law 259 = .ok (.if_icmp .eq 458, 3) := by decide +kernel
theorem dL_law_262 : decode cL_law 262 = .ok (.iconst 0, 1) := by decide +kernel
theorem dL_law_263 : decode cL_law 263 = .ok (.ireturn, 1) := by decide +kernel
theorem dL_law_264 : decode cL_law 264 = .ok (.aload_n 1, 1) := by decide +kernel
theorem dL_law_265 : decode cL_law 265 = .ok (.aload_n 0, 1) := by decide +kernel
theorem dL_law_266 : decode cL_law 266 = .ok (.iload 4, 2) := by decide +kernel
theorem dL_law_268 : decode cL_law 268 = .ok (.iconst 1, 1) := by decide +kernel
theorem dL_law_269 : decode cL_law 269 = .ok (.iadd, 1) := by decide +kernel
theorem dL_law_270 : decode cL_law 270 = .ok (.iaload, 1) := by decide +kernel
theorem dL_law_271 : decode cL_law 271 = .ok (.aload_n 0, 1) := by decide +kernel
theorem dL_law_272 : decode cL_law 272 = .ok (.iload 4, 2) := by decide +kernel
theorem dL_law_274 : decode cL_law 274 = .ok (.iconst 2, 1) := by decide +kernel
theorem dL_law_275 : decode cL_law 275 = .ok (.iadd, 1) := by decide +kernel
theorem dL_law_276 : decode cL_law 276 = .ok (.iaload, 1) := by decide +kernel
theorem dL_law_277 : decode cL_law 277 = .ok (.invokevirtual 37, 3) := by decide +kernel
theorem dL_law_280 : decode cL_law 280 = .ok (.aload_n 2, 1) := by decide +kernel
theorem dL_law_281 : decode cL_law 281 = .ok (.aload_n 0, 1) := by decide +kernel
theorem dL_law_282 : decode cL_law 282 = .ok (.iload 4, 2) := by decide +kernel
theorem dL_law_284 : decode cL_law 284 = .ok (.iconst 1, 1) := by decide +kernel
theorem dL_law_285 : decode cL_law 285 = .ok (.iadd, 1) := by decide +kernel
theorem dL_law_286 : decode cL_law 286 = .ok (.iaload, 1) := by decide +kernel
theorem dL_law_287 : decode cL_law 287 = .ok (.aload_n 0, 1) := by decide +kernel
theorem dL_law_288 : decode cL_law 288 = .ok (.iload 4, 2) := by decide +kernel
theorem dL_law_290 : decode cL_law 290 = .ok (.iconst 2, 1) := by decide +kernel
theorem dL_law_291 : decode cL_law 291 = .ok (.iadd, 1) := by decide +kernel
theorem dL_law_292 : decode cL_law 292 = .ok (.iaload, 1) := by decide +kernel
theorem dL_law_293 : decode cL_law 293 = .ok (.invokevirtual 41, 3) := by decide +kernel
theorem dL_law_296 : decode cL_law 296 = .ok (.if_icmp .eq 421, 3) := by decide +kernel
theorem dL_law_299 : decode cL_law 299 = .ok (.iconst 0, 1) := by decide +kernel
theorem dL_law_300 : decode cL_law 300 = .ok (.ireturn, 1) := by decide +kernel
theorem dL_law_301 : decode cL_law 301 = .ok (.aload_n 1, 1) := by decide +kernel
theorem dL_law_302 : decode cL_law 302 = .ok (.aload_n 0, 1) := by decide +kernel
theorem dL_law_303 : decode cL_law 303 = .ok (.iload 4, 2) := by decide +kernel
theorem dL_law_305 : decode cL_law 305 = .ok (.iconst 1, 1) := by decide +kernel
theorem dL_law_306 : decode cL_law 306 = .ok (.iadd, 1) := by decide +kernel
theorem dL_law_307 : decode cL_law 307 = .ok (.iaload, 1) := by decide +kernel
theorem dL_law_308 : decode cL_law 308 = .ok (.invokevirtual 42, 3) := by decide +kernel
theorem dL_law_311 : decode cL_law 311 = .ok (.aload_n 2, 1) := by decide +kernel
theorem dL_law_312 : decode cL_law 312 = .ok (.aload_n 0, 1) := by decide +kernel
theorem dL_law_313 : decode cL_law 313 = .ok (.iload 4, 2) := by decide +kernel
theorem dL_law_315 : decode cL_law 315 = .ok (.iconst 1, 1) := by decide +kernel
theorem dL_law_316 : decode cL_law 316 = .ok (.iadd, 1) := by decide +kernel
theorem dL_law_317 : decode cL_law 317 = .ok (.iaload, 1) := by decide +kernel
theorem dL_law_318 : decode cL_law 318 = .ok (.invokevirtual 46, 3) := by decide +kernel
theorem dL_law_321 : decode cL_law 321 = .ok (.if_icmp .eq 396, 3) := by decide +kernel
theorem dL_law_324 : decode cL_law 324 = .ok (.iconst 0, 1) := by decide +kernel
theorem dL_law_325 : decode cL_law 325 = .ok (.ireturn, 1) := by decide +kernel
theorem dL_law_326 : decode cL_law 326 = .ok (.aload_n 1, 1) := by decide +kernel
theorem dL_law_327 : decode cL_law 327 = .ok (.invokevirtual 47, 3) := by decide +kernel
theorem dL_law_330 : decode cL_law 330 = .ok (.aload_n 2, 1) := by decide +kernel
theorem dL_law_331 : decode cL_law 331 = .ok (.invokevirtual 51, 3) := by decide +kernel
theorem dL_law_334 : decode cL_law 334 = .ok (.if_icmp .eq 383, 3) := by decide +kernel
theorem dL_law_337 : decode cL_law 337 = .ok (.iconst 0, 1) := by decide +kernel
theorem dL_law_338 : decode cL_law 338 = .ok (.ireturn, 1) := by decide +kernel
theorem dL_law_339 : decode cL_law 339 = .ok (.aload_n 1, 1) := by decide +kernel
theorem dL_law_340 : decode cL_law 340 = .ok (.aload_n 0, 1) := by decide +kernel
theorem dL_law_341 : decode cL_law 341 = .ok (.iload 4, 2) := by decide +kernel
theorem dL_law_343 : decode cL_law 343 = .ok (.iconst 1, 1) := by decide +kernel
theorem dL_law_344 : decode cL_law 344 = .ok (.iadd, 1) := by decide +kernel
theorem dL_law_345 : decode cL_law 345 = .ok (.iaload, 1) := by decide +kernel
theorem dL_law_346 : decode cL_law 346 = .ok (.aload_n 0, 1) := by decide +kernel
theorem dL_law_347 : decode cL_law 347 = .ok (.iload 4, 2) := by decide +kernel
theorem dL_law_349 : decode cL_law 349 = .ok (.iconst 2, 1) := by decide +kernel
theorem dL_law_350 : decode cL_law 350 = .ok (.iadd, 1) := by decide +kernel
theorem dL_law_351 : decode cL_law 351 = .ok (.iaload, 1) := by decide +kernel
theorem dL_law_352 : decode cL_law 352 = .ok (.invokevirtual 52, 3) := by decide +kernel
theorem dL_law_355 : decode cL_law 355 = .ok (.aload_n 2, 1) := by decide +kernel
theorem dL_law_356 : decode cL_law 356 = .ok (.aload_n 0, 1) := by decide +kernel
theorem dL_law_357 : decode cL_law 357 = .ok (.iload 4, 2) := by decide +kernel
theorem dL_law_359 : decode cL_law 359 = .ok (.iconst 1, 1) := by decide +kernel
theorem dL_law_360 : decode cL_law 360 = .ok (.iadd, 1) := by decide +kernel
theorem dL_law_361 : decode cL_law 361 = .ok (.iaload, 1) := by decide +kernel
theorem dL_law_362 : decode cL_law 362 = .ok (.aload_n 0, 1) := by decide +kernel
theorem dL_law_363 : decode cL_law 363 = .ok (.iload 4, 2) := by decide +kernel
theorem dL_law_365 : decode cL_law 365 = .ok (.iconst 2, 1) := by decide +kernel
theorem dL_law_366 : decode cL_law 366 = .ok (.iadd, 1) := by decide +kernel
theorem dL_law_367 : decode cL_law 367 = .ok (.iaload, 1) := by decide +kernel
theorem dL_law_368 : decode cL_law 368 = .ok (.invokevirtual 55, 3) := by decide +kernel
theorem dL_law_371 : decode cL_law 371 = .ok (.if_icmp .eq 346, 3) := by decide +kernel
theorem dL_law_374 : decode cL_law 374 = .ok (.iconst 0, 1) := by decide +kernel
theorem dL_law_375 : decode cL_law 375 = .ok (.ireturn, 1) := by decide +kernel
theorem dL_law_376 : decode cL_law 376 = .ok (.aload_n 1, 1) := by decide +kernel
theorem dL_law_377 : decode cL_law 377 = .ok (.aload_n 0, 1) := by decide +kernel
theorem dL_law_378 : decode cL_law 378 = .ok (.iload 4, 2) := by decide +kernel
theorem dL_law_380 : decode cL_law 380 = .ok (.iconst 1, 1) := by decide +kernel
theorem dL_law_381 : decode cL_law 381 = .ok (.iadd, 1) := by decide +kernel
theorem dL_law_382 : decode cL_law 382 = .ok (.iaload, 1) := by decide +kernel
theorem dL_law_383 : decode cL_law 383 = .ok (.invokevirtual 56, 3) := by decide +kernel
theorem dL_law_386 : decode cL_law 386 = .ok (.aload_n 2, 1) := by decide +kernel
theorem dL_law_387 : decode cL_law 387 = .ok (.aload_n 0, 1) := by decide +kernel
theorem dL_law_388 : decode cL_law 388 = .ok (.iload 4, 2) := by decide +kernel
theorem dL_law_390 : decode cL_law 390 = .ok (.iconst 1, 1) := by decide +kernel
theorem dL_law_391 : decode cL_law 391 = .ok (.iadd, 1) := by decide +kernel
theorem dL_law_392 : decode cL_law 392 = .ok (.iaload, 1) := by decide +kernel
theorem dL_law_393 : decode cL_law 393 = .ok (.invokevirtual 59, 3) := by decide +kernel
theorem dL_law_396 : decode cL_law 396 = .ok (.if_icmp .eq 321, 3) := by decide +kernel
theorem dL_law_399 : decode cL_law 399 = .ok (.iconst 0, 1) := by decide +kernel
theorem dL_law_400 : decode cL_law 400 = .ok (.ireturn, 1) := by decide +kernel
theorem dL_law_401 : decode cL_law 401 = .ok (.aload_n 1, 1) := by decide +kernel
theorem dL_law_402 : decode cL_law 402 = .ok (.aload_n 0, 1) := by decide +kernel
theorem dL_law_403 : decode cL_law 403 = .ok (.iload 4, 2) := by decide +kernel
theorem dL_law_405 : decode cL_law 405 = .ok (.iconst 1, 1) := by decide +kernel
theorem dL_law_406 : decode cL_law 406 = .ok (.iadd, 1) := by decide +kernel
theorem dL_law_407 : decode cL_law 407 = .ok (.iaload, 1) := by decide +kernel
theorem dL_law_408 : decode cL_law 408 = .ok (.aload_n 0, 1) := by decide +kernel
theorem dL_law_409 : decode cL_law 409 = .ok (.iload 4, 2) := by decide +kernel
theorem dL_law_411 : decode cL_law 411 = .ok (.iconst 2, 1) := by decide +kernel
theorem dL_law_412 : decode cL_law 412 = .ok (.iadd, 1) := by decide +kernel
theorem dL_law_413 : decode cL_law 413 = .ok (.iaload, 1) := by decide +kernel
theorem dL_law_414 : decode cL_law 414 = .ok (.invokevirtual 60, 3) := by decide +kernel
theorem dL_law_417 : decode cL_law 417 = .ok (.aload_n 2, 1) := by decide +kernel
theorem dL_law_418 : decode cL_law 418 = .ok (.aload_n 0, 1) := by decide +kernel
theorem dL_law_419 : decode cL_law 419 = .ok (.iload 4, 2) := by decide +kernel
theorem dL_law_421 : decode cL_law 421 = .ok (.iconst 1, 1) := by decide +kernel
theorem dL_law_422 : decode cL_law 422 = .ok (.iadd, 1) := by decide +kernel
theorem dL_law_423 : decode cL_law 423 = .ok (.iaload, 1) := by decide +kernel
theorem dL_law_424 : decode cL_law 424 = .ok (.aload_n 0, 1) := by decide +kernel
theorem dL_law_425 : decode cL_law 425 = .ok (.iload 4, 2) := by decide +kernel
theorem dL_law_427 : decode cL_law 427 = .ok (.iconst 2, 1) := by decide +kernel
theorem dL_law_428 : decode cL_law 428 = .ok (.iadd, 1) := by decide +kernel
theorem dL_law_429 : decode cL_law 429 = .ok (.iaload, 1) := by decide +kernel
theorem dL_law_430 : decode cL_law 430 = .ok (.invokevirtual 63, 3) := by decide +kernel
theorem dL_law_433 : decode cL_law 433 = .ok (.if_icmp .eq 284, 3) := by decide +kernel
theorem dL_law_436 : decode cL_law 436 = .ok (.iconst 0, 1) := by decide +kernel
theorem dL_law_437 : decode cL_law 437 = .ok (.ireturn, 1) := by decide +kernel
theorem dL_law_438 : decode cL_law 438 = .ok (.aload_n 1, 1) := by decide +kernel
theorem dL_law_439 : decode cL_law 439 = .ok (.aload_n 0, 1) := by decide +kernel
theorem dL_law_440 : decode cL_law 440 = .ok (.iload 4, 2) := by decide +kernel
theorem dL_law_442 : decode cL_law 442 = .ok (.iconst 1, 1) := by decide +kernel
theorem dL_law_443 : decode cL_law 443 = .ok (.iadd, 1) := by decide +kernel
theorem dL_law_444 : decode cL_law 444 = .ok (.iaload, 1) := by decide +kernel
theorem dL_law_445 : decode cL_law 445 = .ok (.aload_n 0, 1) := by decide +kernel
theorem dL_law_446 : decode cL_law 446 = .ok (.iload 4, 2) := by decide +kernel
theorem dL_law_448 : decode cL_law 448 = .ok (.iconst 2, 1) := by decide +kernel
theorem dL_law_449 : decode cL_law 449 = .ok (.iadd, 1) := by decide +kernel
theorem dL_law_450 : decode cL_law 450 = .ok (.iaload, 1) := by decide +kernel
theorem dL_law_451 : decode cL_law 451 = .ok (.invokevirtual 64, 3) := by decide +kernel
theorem dL_law_454 : decode cL_law 454 = .ok (.aload_n 2, 1) := by decide +kernel
theorem dL_law_455 : decode cL_law 455 = .ok (.aload_n 0, 1) := by decide +kernel
theorem dL_law_456 : decode cL_law 456 = .ok (.iload 4, 2) := by decide +kernel
theorem dL_law_458 : decode cL_law 458 = .ok (.iconst 1, 1) := by decide +kernel
theorem dL_law_459 : decode cL_law 459 = .ok (.iadd, 1) := by decide +kernel
theorem dL_law_460 : decode cL_law 460 = .ok (.iaload, 1) := by decide +kernel
theorem dL_law_461 : decode cL_law 461 = .ok (.aload_n 0, 1) := by decide +kernel
theorem dL_law_462 : decode cL_law 462 = .ok (.iload 4, 2) := by decide +kernel
theorem dL_law_464 : decode cL_law 464 = .ok (.iconst 2, 1) := by decide +kernel
theorem dL_law_465 : decode cL_law 465 = .ok (.iadd, 1) := by decide +kernel
theorem dL_law_466 : decode cL_law 466 = .ok (.iaload, 1) := by decide +kernel
theorem dL_law_467 : decode cL_law 467 = .ok (.invokevirtual 67, 3) := by decide +kernel
theorem dL_law_470 : decode cL_law 470 = .ok (.if_icmp .eq 247, 3) := by decide +kernel
theorem dL_law_473 : decode cL_law 473 = .ok (.iconst 0, 1) := by decide +kernel
theorem dL_law_474 : decode cL_law 474 = .ok (.ireturn, 1) := by decide +kernel
theorem dL_law_475 : decode cL_law 475 = .ok (.aload_n 1, 1) := by decide +kernel
theorem dL_law_476 : decode cL_law 476 = .ok (.aload_n 0, 1) := by decide +kernel
theorem dL_law_477 : decode cL_law 477 = .ok (.iload 4, 2) := by decide +kernel
theorem dL_law_479 : decode cL_law 479 = .ok (.iconst 1, 1) := by decide +kernel
theorem dL_law_480 : decode cL_law 480 = .ok (.iadd, 1) := by decide +kernel
theorem dL_law_481 : decode cL_law 481 = .ok (.iaload, 1) := by decide +kernel
theorem dL_law_482 : decode cL_law 482 = .ok (.invokevirtual 68, 3) := by decide +kernel
theorem dL_law_485 : decode cL_law 485 = .ok (.aload_n 2, 1) := by decide +kernel
theorem dL_law_486 : decode cL_law 486 = .ok (.aload_n 0, 1) := by decide +kernel
theorem dL_law_487 : decode cL_law 487 = .ok (.iload 4, 2) := by decide +kernel
theorem dL_law_489 : decode cL_law 489 = .ok (.iconst 1, 1) := by decide +kernel
theorem dL_law_490 : decode cL_law 490 = .ok (.iadd, 1) := by decide +kernel
theorem dL_law_491 : decode cL_law 491 = .ok (.iaload, 1) := by decide +kernel
theorem dL_law_492 : decode cL_law 492 = .ok (.invokevirtual 71, 3) := by decide +kernel
theorem dL_law_495 : decode cL_law 495 = .ok (.if_icmp .eq 222, 3) := by decide +kernel
theorem dL_law_498 : decode cL_law 498 = .ok (.iconst 0, 1) := by decide +kernel
theorem dL_law_499 : decode cL_law 499 = .ok (.ireturn, 1) := by decide +kernel
theorem dL_law_500 : decode cL_law 500 = .ok (.aload_n 1, 1) := by decide +kernel
theorem dL_law_501 : decode cL_law 501 = .ok (.aload_n 0, 1) := by decide +kernel
theorem dL_law_502 : decode cL_law 502 = .ok (.iload 4, 2) := by decide +kernel
theorem dL_law_504 : decode cL_law 504 = .ok (.iconst 1, 1) := by decide +kernel
theorem dL_law_505 : decode cL_law 505 = .ok (.iadd, 1) := by decide +kernel
theorem dL_law_506 : decode cL_law 506 = .ok (.iaload, 1) := by decide +kernel
theorem dL_law_507 : decode cL_law 507 = .ok (.invokevirtual 72, 3) := by decide +kernel
theorem dL_law_510 : decode cL_law 510 = .ok (.aload_n 2, 1) := by decide +kernel
theorem dL_law_511 : decode cL_law 511 = .ok (.aload_n 0, 1) := by decide +kernel
theorem dL_law_512 : decode cL_law 512 = .ok (.iload 4, 2) := by decide +kernel
theorem dL_law_514 : decode cL_law 514 = .ok (.iconst 1, 1) := by decide +kernel
theorem dL_law_515 : decode cL_law 515 = .ok (.iadd, 1) := by decide +kernel
theorem dL_law_516 : decode cL_law 516 = .ok (.iaload, 1) := by decide +kernel
theorem dL_law_517 : decode cL_law 517 = .ok (.invokevirtual 75, 3) := by decide +kernel
theorem dL_law_520 : decode cL_law 520 = .ok (.if_icmp .eq 197, 3) := by decide +kernel
theorem dL_law_523 : decode cL_law 523 = .ok (.iconst 0, 1) := by decide +kernel
theorem dL_law_524 : decode cL_law 524 = .ok (.ireturn, 1) := by decide +kernel
theorem dL_law_525 : decode cL_law 525 = .ok (.aload_n 1, 1) := by decide +kernel
theorem dL_law_526 : decode cL_law 526 = .ok (.aload_n 0, 1) := by decide +kernel
theorem dL_law_527 : decode cL_law 527 = .ok (.iload 4, 2) := by decide +kernel
theorem dL_law_529 : decode cL_law 529 = .ok (.iconst 1, 1) := by decide +kernel
theorem dL_law_530 : decode cL_law 530 = .ok (.iadd, 1) := by decide +kernel
theorem dL_law_531 : decode cL_law 531 = .ok (.iaload, 1) := by decide +kernel
theorem dL_law_532 : decode cL_law 532 = .ok (.invokevirtual 76, 3) := by decide +kernel
theorem dL_law_535 : decode cL_law 535 = .ok (.aload_n 2, 1) := by decide +kernel
theorem dL_law_536 : decode cL_law 536 = .ok (.aload_n 0, 1) := by decide +kernel
theorem dL_law_537 : decode cL_law 537 = .ok (.iload 4, 2) := by decide +kernel
theorem dL_law_539 : decode cL_law 539 = .ok (.iconst 1, 1) := by decide +kernel
theorem dL_law_540 : decode cL_law 540 = .ok (.iadd, 1) := by decide +kernel
theorem dL_law_541 : decode cL_law 541 = .ok (.iaload, 1) := by decide +kernel
theorem dL_law_542 : decode cL_law 542 = .ok (.invokevirtual 79, 3) := by decide +kernel
theorem dL_law_545 : decode cL_law 545 = .ok (.if_icmp .eq 172, 3) := by decide +kernel
theorem dL_law_548 : decode cL_law 548 = .ok (.iconst 0, 1) := by decide +kernel
theorem dL_law_549 : decode cL_law 549 = .ok (.ireturn, 1) := by decide +kernel
theorem dL_law_550 : decode cL_law 550 = .ok (.aload_n 1, 1) := by decide +kernel
theorem dL_law_551 : decode cL_law 551 = .ok (.aload_n 0, 1) := by decide +kernel
theorem dL_law_552 : decode cL_law 552 = .ok (.iload 4, 2) := by decide +kernel
theorem dL_law_554 : decode cL_law 554 = .ok (.iconst 1, 1) := by decide +kernel
theorem dL_law_555 : decode cL_law 555 = .ok (.iadd, 1) := by decide +kernel
theorem dL_law_556 : decode cL_law 556 = .ok (.iaload, 1) := by decide +kernel
theorem dL_law_557 : decode cL_law 557 = .ok (.aload_n 0, 1) := by decide +kernel
theorem dL_law_558 : decode cL_law 558 = .ok (.iload 4, 2) := by decide +kernel
theorem dL_law_560 : decode cL_law 560 = .ok (.iconst 2, 1) := by decide +kernel
theorem dL_law_561 : decode cL_law 561 = .ok (.iadd, 1) := by decide +kernel
theorem dL_law_562 : decode cL_law 562 = .ok (.iaload, 1) := by decide +kernel
theorem dL_law_563 : decode cL_law 563 = .ok (.invokevirtual 80, 3) := by decide +kernel
theorem dL_law_566 : decode cL_law 566 = .ok (.aload_n 2, 1) := by decide +kernel
theorem dL_law_567 : decode cL_law 567 = .ok (.aload_n 0, 1) := by decide +kernel
theorem dL_law_568 : decode cL_law 568 = .ok (.iload 4, 2) := by decide +kernel
theorem dL_law_570 : decode cL_law 570 = .ok (.iconst 1, 1) := by decide +kernel
theorem dL_law_571 : decode cL_law 571 = .ok (.iadd, 1) := by decide +kernel
theorem dL_law_572 : decode cL_law 572 = .ok (.iaload, 1) := by decide +kernel
theorem dL_law_573 : decode cL_law 573 = .ok (.aload_n 0, 1) := by decide +kernel
theorem dL_law_574 : decode cL_law 574 = .ok (.iload 4, 2) := by decide +kernel
theorem dL_law_576 : decode cL_law 576 = .ok (.iconst 2, 1) := by decide +kernel
theorem dL_law_577 : decode cL_law 577 = .ok (.iadd, 1) := by decide +kernel
theorem dL_law_578 : decode cL_law 578 = .ok (.iaload, 1) := by decide +kernel
theorem dL_law_579 : decode cL_law 579 = .ok (.invokevirtual 83, 3) := by decide +kernel
theorem dL_law_582 : decode cL_law 582 = .ok (.if_icmp .eq 135, 3) := by decide +kernel
theorem dL_law_585 : decode cL_law 585 = .ok (.iconst 0, 1) := by decide +kernel
theorem dL_law_586 : decode cL_law 586 = .ok (.ireturn, 1) := by decide +kernel
theorem dL_law_587 : decode cL_law 587 = .ok (.aload_n 1, 1) := by decide +kernel
theorem dL_law_588 : decode cL_law 588 = .ok (.aload_n 0, 1) := by decide +kernel
theorem dL_law_589 : decode cL_law 589 = .ok (.iload 4, 2) := by decide +kernel
theorem dL_law_591 : decode cL_law 591 = .ok (.iconst 1, 1) := by decide +kernel
theorem dL_law_592 : decode cL_law 592 = .ok (.iadd, 1) := by decide +kernel
theorem dL_law_593 : decode cL_law 593 = .ok (.iaload, 1) := by decide +kernel
theorem dL_law_594 : decode cL_law 594 = .ok (.aload_n 0, 1) := by decide +kernel
theorem dL_law_595 : decode cL_law 595 = .ok (.iload 4, 2) := by decide +kernel
theorem dL_law_597 : decode cL_law 597 = .ok (.iconst 2, 1) := by decide +kernel
theorem dL_law_598 : decode cL_law 598 = .ok (.iadd, 1) := by decide +kernel
theorem dL_law_599 : decode cL_law 599 = .ok (.iaload, 1) := by decide +kernel
theorem dL_law_600 : decode cL_law 600 = .ok (.aload_n 3, 1) := by decide +kernel
theorem dL_law_601 : decode cL_law 601 = .ok (.invokestatic 84, 3) := by decide +kernel
theorem dL_law_604 : decode cL_law 604 = .ok (.istore 5, 2) := by decide +kernel
theorem dL_law_606 : decode cL_law 606 = .ok (.aload_n 2, 1) := by decide +kernel
theorem dL_law_607 : decode cL_law 607 = .ok (.aload_n 0, 1) := by decide +kernel
theorem dL_law_608 : decode cL_law 608 = .ok (.iload 4, 2) := by decide +kernel
theorem dL_law_610 : decode cL_law 610 = .ok (.iconst 1, 1) := by decide +kernel
theorem dL_law_611 : decode cL_law 611 = .ok (.iadd, 1) := by decide +kernel
theorem dL_law_612 : decode cL_law 612 = .ok (.iaload, 1) := by decide +kernel
theorem dL_law_613 : decode cL_law 613 = .ok (.aload_n 0, 1) := by decide +kernel
theorem dL_law_614 : decode cL_law 614 = .ok (.iload 4, 2) := by decide +kernel
theorem dL_law_616 : decode cL_law 616 = .ok (.iconst 2, 1) := by decide +kernel
theorem dL_law_617 : decode cL_law 617 = .ok (.iadd, 1) := by decide +kernel
theorem dL_law_618 : decode cL_law 618 = .ok (.iaload, 1) := by decide +kernel
theorem dL_law_619 : decode cL_law 619 = .ok (.invokevirtual 89, 3) := by decide +kernel
theorem dL_law_622 : decode cL_law 622 = .ok (.istore 6, 2) := by decide +kernel
theorem dL_law_624 : decode cL_law 624 = .ok (.aload_n 2, 1) := by decide +kernel
theorem dL_law_625 : decode cL_law 625 = .ok (.invokevirtual 90, 3) := by decide +kernel
theorem dL_law_628 : decode cL_law 628 = .ok (.iload 5, 2) := by decide +kernel
theorem dL_law_630 : decode cL_law 630 = .ok (.if_icmp .eq 5, 3) := by decide +kernel
theorem dL_law_633 : decode cL_law 633 = .ok (.iconst 0, 1) := by decide +kernel
theorem dL_law_634 : decode cL_law 634 = .ok (.ireturn, 1) := by decide +kernel
theorem dL_law_635 : decode cL_law 635 = .ok (.iload 5, 2) := by decide +kernel
theorem dL_law_637 : decode cL_law 637 = .ok (.ifCond .ne 15, 3) := by decide +kernel
theorem dL_law_640 : decode cL_law 640 = .ok (.aload_n 3, 1) := by decide +kernel
theorem dL_law_641 : decode cL_law 641 = .ok (.iconst 0, 1) := by decide +kernel
theorem dL_law_642 : decode cL_law 642 = .ok (.laload, 1) := by decide +kernel
theorem dL_law_643 : decode cL_law 643 = .ok (.iload 6, 2) := by decide +kernel
theorem dL_law_645 : decode cL_law 645 = .ok (.i2l, 1) := by decide +kernel
theorem dL_law_646 : decode cL_law 646 = .ok (.lcmp, 1) := by decide +kernel
theorem dL_law_647 : decode cL_law 647 = .ok (.ifCond .eq 5, 3) := by decide +kernel
theorem dL_law_650 : decode cL_law 650 = .ok (.iconst 0, 1) := by decide +kernel
theorem dL_law_651 : decode cL_law 651 = .ok (.ireturn, 1) := by decide +kernel
theorem dL_law_652 : decode cL_law 652 = .ok (.goto 65, 3) := by decide +kernel
theorem dL_law_655 : decode cL_law 655 = .ok (.aload_n 1, 1) := by decide +kernel
theorem dL_law_656 : decode cL_law 656 = .ok (.aload_n 0, 1) := by decide +kernel
theorem dL_law_657 : decode cL_law 657 = .ok (.iload 4, 2) := by decide +kernel
theorem dL_law_659 : decode cL_law 659 = .ok (.iconst 1, 1) := by decide +kernel
theorem dL_law_660 : decode cL_law 660 = .ok (.iadd, 1) := by decide +kernel
theorem dL_law_661 : decode cL_law 661 = .ok (.iaload, 1) := by decide +kernel
theorem dL_law_662 : decode cL_law 662 = .ok (.aload_n 0, 1) := by decide +kernel
theorem dL_law_663 : decode cL_law 663 = .ok (.iload 4, 2) := by decide +kernel
theorem dL_law_665 : decode cL_law 665 = .ok (.iconst 2, 1) := by decide +kernel
theorem dL_law_666 : decode cL_law 666 = .ok (.iadd, 1) := by decide +kernel
theorem dL_law_667 : decode cL_law 667 = .ok (.iaload, 1) := by decide +kernel
theorem dL_law_668 : decode cL_law 668 = .ok (.invokevirtual 93, 3) := by decide +kernel
theorem dL_law_671 : decode cL_law 671 = .ok (.aload_n 2, 1) := by decide +kernel
theorem dL_law_672 : decode cL_law 672 = .ok (.aload_n 0, 1) := by decide +kernel
theorem dL_law_673 : decode cL_law 673 = .ok (.iload 4, 2) := by decide +kernel
theorem dL_law_675 : decode cL_law 675 = .ok (.iconst 1, 1) := by decide +kernel
theorem dL_law_676 : decode cL_law 676 = .ok (.iadd, 1) := by decide +kernel
theorem dL_law_677 : decode cL_law 677 = .ok (.iaload, 1) := by decide +kernel
theorem dL_law_678 : decode cL_law 678 = .ok (.aload_n 0, 1) := by decide +kernel
theorem dL_law_679 : decode cL_law 679 = .ok (.iload 4, 2) := by decide +kernel
end
section
theorem dL_law_681 : decode cL_law 681 = .ok (.iconst 2, 1) := by decide +kernel
theorem dL_law_682 : decode cL_law 682 = .ok (.iadd, 1) := by decide +kernel
theorem dL_law_683 : decode cL_law 683 = .ok (.iaload, 1) := by decide +kernel
theorem dL_law_684 : decode cL_law 684 = .ok (.invokevirtual 96, 3) := by decide +kernel
theorem dL_law_687 : decode cL_law 687 = .ok (.if_icmp .eq 30, 3) := by decide +kernel
theorem dL_law_690 : decode cL_law 690 = .ok (.iconst 0, 1) := by decide +kernel
theorem dL_law_691 : decode cL_law 691 = .ok (.ireturn, 1) := by decide +kernel
theorem dL_law_692 : decode cL_law 692 = .ok (.aload_n 1, 1) := by decide +kernel
theorem dL_law_693 : decode cL_law 693 = .ok (.aload_n 0, 1) := by decide +kernel
theorem dL_law_694 : decode cL_law 694 = .ok (.iload 4, 2) := by decide +kernel
theorem dL_law_696 : decode cL_law 696 = .ok (.iconst 1, 1) := by decide +kernel
theorem dL_law_697 : decode cL_law 697 = .ok (.iadd, 1) := by decide +kernel
theorem dL_law_698 : decode cL_law 698 = .ok (.iaload, 1) := by decide +kernel
theorem dL_law_699 : decode cL_law 699 = .ok (.invokevirtual 97, 3) := by decide +kernel
theorem dL_law_702 : decode cL_law 702 = .ok (.aload_n 2, 1) := by decide +kernel
theorem dL_law_703 : decode cL_law 703 = .ok (.aload_n 0, 1) := by decide +kernel
theorem dL_law_704 : decode cL_law 704 = .ok (.iload 4, 2) := by decide +kernel
theorem dL_law_706 : decode cL_law 706 = .ok (.iconst 1, 1) := by decide +kernel
theorem dL_law_707 : decode cL_law 707 = .ok (.iadd, 1) := by decide +kernel
theorem dL_law_708 : decode cL_law 708 = .ok (.iaload, 1) := by decide +kernel
theorem dL_law_709 : decode cL_law 709 = .ok (.invokevirtual 100, 3) := by decide +kernel
theorem dL_law_712 : decode cL_law 712 = .ok (.if_icmp .eq 5, 3) := by decide +kernel
theorem dL_law_715 : decode cL_law 715 = .ok (.iconst 0, 1) := by decide +kernel
theorem dL_law_716 : decode cL_law 716 = .ok (.ireturn, 1) := by decide +kernel
theorem dL_law_717 : decode cL_law 717 = .ok (.iinc 4 4, 3) := by decide +kernel
theorem dL_law_720 : decode cL_law 720 = .ok (.goto (-697), 3) := by decide +kernel
theorem dL_law_723 : decode cL_law 723 = .ok (.iconst 1, 1) := by decide +kernel
theorem dL_law_724 : decode cL_law 724 = .ok (.ireturn, 1) := by decide +kernel
abbrev vwCl : List vw_C := [(RX0, TX0, 5), (RX1, TX1, 15), (RX2, TX2, 5), (RX3, TX3, 6), (RX4, TX4, 2), (RX5, TX5, 2), (RX6, TX6, 6), (RX7, TX7, 31)]
end
