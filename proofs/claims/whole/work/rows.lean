section
-- ===== PART A: goes FIRST, ahead of the names: the tables' words, and 'selects' of the private methods out of them =====
/-- a private method of a class that the tables say can be made, by its rows of tables_1 -/
def lw_okq (q : MethodName × Nat) : Prop := (q.1.cls ≠ "java/lang/invoke/MethodHandle" ∧ q.1.cls ≠ "java/lang/invoke/VarHandle") ∧ Cond.instantiable q.1.cls q.2 ∈ tables_1 ∧ Cond.privateMethod q.1 ∈ tables_1 ∧ Cond.instanceMethod q.1 ∈ tables_1
theorem lw_p0 : lw_okq (⟨"PathProfiler$Reader", "takes", "(II)Z"⟩, 2) := ⟨⟨by decide +kernel, by decide +kernel⟩, List.mem_of_getElem? (i := 81) (by decide +kernel), List.mem_of_getElem? (i := 298) (by decide +kernel), List.mem_of_getElem? (i := 299) (by decide +kernel)⟩
theorem lw_p1 : lw_okq (⟨"PathProfiler$Reader", "takesExit", "(I)Z"⟩, 2) := ⟨⟨by decide +kernel, by decide +kernel⟩, List.mem_of_getElem? (i := 81) (by decide +kernel), List.mem_of_getElem? (i := 302) (by decide +kernel), List.mem_of_getElem? (i := 303) (by decide +kernel)⟩
theorem lw_p2 : lw_okq (⟨"PathProfiler$Reader", "takesTarget", "(I)Z"⟩, 2) := ⟨⟨by decide +kernel, by decide +kernel⟩, List.mem_of_getElem? (i := 81) (by decide +kernel), List.mem_of_getElem? (i := 306) (by decide +kernel), List.mem_of_getElem? (i := 307) (by decide +kernel)⟩
theorem lw_p3 : lw_okq (⟨"PathProfiler$Graph", "joins", "(II)Z"⟩, 5) := ⟨⟨by decide +kernel, by decide +kernel⟩, List.mem_of_getElem? (i := 26) (by decide +kernel), List.mem_of_getElem? (i := 322) (by decide +kernel), List.mem_of_getElem? (i := 323) (by decide +kernel)⟩
theorem lw_p4 : lw_okq (⟨"PathProfiler$Reader", "takesSource", "(I)Z"⟩, 2) := ⟨⟨by decide +kernel, by decide +kernel⟩, List.mem_of_getElem? (i := 81) (by decide +kernel), List.mem_of_getElem? (i := 334) (by decide +kernel), List.mem_of_getElem? (i := 335) (by decide +kernel)⟩
theorem lw_p5 : lw_okq (⟨"PathProfiler", "discardAnalysis", "()V"⟩, 9) := ⟨⟨by decide +kernel, by decide +kernel⟩, List.mem_of_getElem? (i := 18) (by decide +kernel), List.mem_of_getElem? (i := 344) (by decide +kernel), List.mem_of_getElem? (i := 345) (by decide +kernel)⟩
theorem lw_p6 : lw_okq (⟨"PathProfiler$Search", "prepare", "()V"⟩, 10) := ⟨⟨by decide +kernel, by decide +kernel⟩, List.mem_of_getElem? (i := 97) (by decide +kernel), List.mem_of_getElem? (i := 356) (by decide +kernel), List.mem_of_getElem? (i := 357) (by decide +kernel)⟩
theorem lw_p7 : lw_okq (⟨"PathProfiler$Search", "enter", "(I)V"⟩, 10) := ⟨⟨by decide +kernel, by decide +kernel⟩, List.mem_of_getElem? (i := 97) (by decide +kernel), List.mem_of_getElem? (i := 360) (by decide +kernel), List.mem_of_getElem? (i := 361) (by decide +kernel)⟩
theorem lw_p8 : lw_okq (⟨"PathProfiler$Search", "leave", "(I)V"⟩, 10) := ⟨⟨by decide +kernel, by decide +kernel⟩, List.mem_of_getElem? (i := 97) (by decide +kernel), List.mem_of_getElem? (i := 368) (by decide +kernel), List.mem_of_getElem? (i := 369) (by decide +kernel)⟩
theorem lw_p9 : lw_okq (⟨"PathProfiler$Search", "follow", "(I)V"⟩, 10) := ⟨⟨by decide +kernel, by decide +kernel⟩, List.mem_of_getElem? (i := 97) (by decide +kernel), List.mem_of_getElem? (i := 372) (by decide +kernel), List.mem_of_getElem? (i := 373) (by decide +kernel)⟩
theorem lw_p10 : lw_okq (⟨"PathProfiler$Search", "spreadLeadsToExit", "()V"⟩, 10) := ⟨⟨by decide +kernel, by decide +kernel⟩, List.mem_of_getElem? (i := 97) (by decide +kernel), List.mem_of_getElem? (i := 385) (by decide +kernel), List.mem_of_getElem? (i := 386) (by decide +kernel)⟩
theorem lw_p11 : lw_okq (⟨"PathProfiler$Links", "put", "(III)V"⟩, 6) := ⟨⟨by decide +kernel, by decide +kernel⟩, List.mem_of_getElem? (i := 139) (by decide +kernel), List.mem_of_getElem? (i := 393) (by decide +kernel), List.mem_of_getElem? (i := 394) (by decide +kernel)⟩
theorem lw_p12 : lw_okq (⟨"PathProfiler$Links", "countPaths", "()V"⟩, 6) := ⟨⟨by decide +kernel, by decide +kernel⟩, List.mem_of_getElem? (i := 139) (by decide +kernel), List.mem_of_getElem? (i := 398) (by decide +kernel), List.mem_of_getElem? (i := 399) (by decide +kernel)⟩
theorem lw_p13 : lw_okq (⟨"PathProfiler$Links", "countPathsOf", "(I)V"⟩, 6) := ⟨⟨by decide +kernel, by decide +kernel⟩, List.mem_of_getElem? (i := 139) (by decide +kernel), List.mem_of_getElem? (i := 402) (by decide +kernel), List.mem_of_getElem? (i := 403) (by decide +kernel)⟩
theorem lw_p14 : lw_okq (⟨"PathProfiler$Tree", "sortLinks", "()V"⟩, 9) := ⟨⟨by decide +kernel, by decide +kernel⟩, List.mem_of_getElem? (i := 171) (by decide +kernel), List.mem_of_getElem? (i := 410) (by decide +kernel), List.mem_of_getElem? (i := 411) (by decide +kernel)⟩
theorem lw_p15 : lw_okq (⟨"PathProfiler$Tree", "sortIn", "(I)V"⟩, 9) := ⟨⟨by decide +kernel, by decide +kernel⟩, List.mem_of_getElem? (i := 171) (by decide +kernel), List.mem_of_getElem? (i := 414) (by decide +kernel), List.mem_of_getElem? (i := 415) (by decide +kernel)⟩
def lw_privs_1 : List (MethodName × Nat) := [(⟨"PathProfiler$Reader", "takes", "(II)Z"⟩, 2), (⟨"PathProfiler$Reader", "takesExit", "(I)Z"⟩, 2), (⟨"PathProfiler$Reader", "takesTarget", "(I)Z"⟩, 2), (⟨"PathProfiler$Graph", "joins", "(II)Z"⟩, 5), (⟨"PathProfiler$Reader", "takesSource", "(I)Z"⟩, 2), (⟨"PathProfiler", "discardAnalysis", "()V"⟩, 9), (⟨"PathProfiler$Search", "prepare", "()V"⟩, 10), (⟨"PathProfiler$Search", "enter", "(I)V"⟩, 10), (⟨"PathProfiler$Search", "leave", "(I)V"⟩, 10), (⟨"PathProfiler$Search", "follow", "(I)V"⟩, 10), (⟨"PathProfiler$Search", "spreadLeadsToExit", "()V"⟩, 10), (⟨"PathProfiler$Links", "put", "(III)V"⟩, 6), (⟨"PathProfiler$Links", "countPaths", "()V"⟩, 6), (⟨"PathProfiler$Links", "countPathsOf", "(I)V"⟩, 6), (⟨"PathProfiler$Tree", "sortLinks", "()V"⟩, 9), (⟨"PathProfiler$Tree", "sortIn", "(I)V"⟩, 9)]
theorem lw_r1 : ∀ q ∈ lw_privs_1, lw_okq q := List.forall_mem_cons.mpr ⟨lw_p0, List.forall_mem_cons.mpr ⟨lw_p1, List.forall_mem_cons.mpr ⟨lw_p2, List.forall_mem_cons.mpr ⟨lw_p3, List.forall_mem_cons.mpr ⟨lw_p4, List.forall_mem_cons.mpr ⟨lw_p5, List.forall_mem_cons.mpr ⟨lw_p6, List.forall_mem_cons.mpr ⟨lw_p7, List.forall_mem_cons.mpr ⟨lw_p8, List.forall_mem_cons.mpr ⟨lw_p9, List.forall_mem_cons.mpr ⟨lw_p10, List.forall_mem_cons.mpr ⟨lw_p11, List.forall_mem_cons.mpr ⟨lw_p12, List.forall_mem_cons.mpr ⟨lw_p13, List.forall_mem_cons.mpr ⟨lw_p14, List.forall_mem_cons.mpr ⟨lw_p15, fun _ h => absurd h List.not_mem_nil⟩⟩⟩⟩⟩⟩⟩⟩⟩⟩⟩⟩⟩⟩⟩⟩
theorem lw_p16 : lw_okq (⟨"PathProfiler$Tree", "weightOf", "(I)I"⟩, 9) := ⟨⟨by decide +kernel, by decide +kernel⟩, List.mem_of_getElem? (i := 171) (by decide +kernel), List.mem_of_getElem? (i := 418) (by decide +kernel), List.mem_of_getElem? (i := 419) (by decide +kernel)⟩
theorem lw_p17 : lw_okq (⟨"PathProfiler$Tree", "plant", "()V"⟩, 9) := ⟨⟨by decide +kernel, by decide +kernel⟩, List.mem_of_getElem? (i := 171) (by decide +kernel), List.mem_of_getElem? (i := 422) (by decide +kernel), List.mem_of_getElem? (i := 423) (by decide +kernel)⟩
theorem lw_p18 : lw_okq (⟨"PathProfiler$Tree", "consider", "(I)V"⟩, 9) := ⟨⟨by decide +kernel, by decide +kernel⟩, List.mem_of_getElem? (i := 171) (by decide +kernel), List.mem_of_getElem? (i := 427) (by decide +kernel), List.mem_of_getElem? (i := 428) (by decide +kernel)⟩
theorem lw_p19 : lw_okq (⟨"PathProfiler$Tree", "join", "(I)V"⟩, 9) := ⟨⟨by decide +kernel, by decide +kernel⟩, List.mem_of_getElem? (i := 171) (by decide +kernel), List.mem_of_getElem? (i := 431) (by decide +kernel), List.mem_of_getElem? (i := 432) (by decide +kernel)⟩
theorem lw_p20 : lw_okq (⟨"PathProfiler$Tree", "computeIncrements", "()V"⟩, 9) := ⟨⟨by decide +kernel, by decide +kernel⟩, List.mem_of_getElem? (i := 171) (by decide +kernel), List.mem_of_getElem? (i := 435) (by decide +kernel), List.mem_of_getElem? (i := 436) (by decide +kernel)⟩
theorem lw_p21 : lw_okq (⟨"PathProfiler", "mixGraph", "(J)J"⟩, 9) := ⟨⟨by decide +kernel, by decide +kernel⟩, List.mem_of_getElem? (i := 18) (by decide +kernel), List.mem_of_getElem? (i := 464) (by decide +kernel), List.mem_of_getElem? (i := 465) (by decide +kernel)⟩
theorem lw_p22 : lw_okq (⟨"PathProfiler", "mixAnalysis", "(J)J"⟩, 9) := ⟨⟨by decide +kernel, by decide +kernel⟩, List.mem_of_getElem? (i := 18) (by decide +kernel), List.mem_of_getElem? (i := 472) (by decide +kernel), List.mem_of_getElem? (i := 473) (by decide +kernel)⟩
theorem lw_p23 : lw_okq (⟨"PathProfiler", "mixLink", "(JI)J"⟩, 9) := ⟨⟨by decide +kernel, by decide +kernel⟩, List.mem_of_getElem? (i := 18) (by decide +kernel), List.mem_of_getElem? (i := 480) (by decide +kernel), List.mem_of_getElem? (i := 481) (by decide +kernel)⟩
theorem lw_p24 : lw_okq (⟨"PathProfiler", "mixCounts", "(J)J"⟩, 9) := ⟨⟨by decide +kernel, by decide +kernel⟩, List.mem_of_getElem? (i := 18) (by decide +kernel), List.mem_of_getElem? (i := 484) (by decide +kernel), List.mem_of_getElem? (i := 485) (by decide +kernel)⟩
theorem lw_p25 : lw_okq (⟨"PathProfiler", "isCountable", "()Z"⟩, 9) := ⟨⟨by decide +kernel, by decide +kernel⟩, List.mem_of_getElem? (i := 18) (by decide +kernel), List.mem_of_getElem? (i := 488) (by decide +kernel), List.mem_of_getElem? (i := 489) (by decide +kernel)⟩
theorem lw_p26 : lw_okq (⟨"PathProfiler", "mixText", "(J)J"⟩, 9) := ⟨⟨by decide +kernel, by decide +kernel⟩, List.mem_of_getElem? (i := 18) (by decide +kernel), List.mem_of_getElem? (i := 492) (by decide +kernel), List.mem_of_getElem? (i := 493) (by decide +kernel)⟩
theorem lw_p27 : lw_okq (⟨"java/lang/Throwable", "fillInStackTrace", "(I)Ljava/lang/Throwable;"⟩, 6) := ⟨⟨by decide +kernel, by decide +kernel⟩, List.mem_of_getElem? (i := 542) (by decide +kernel), List.mem_of_getElem? (i := 540) (by decide +kernel), List.mem_of_getElem? (i := 541) (by decide +kernel)⟩
theorem lw_p28 : lw_okq (⟨"PathProfiler", "requireEdge", "(I)V"⟩, 9) := ⟨⟨by decide +kernel, by decide +kernel⟩, List.mem_of_getElem? (i := 18) (by decide +kernel), List.mem_of_getElem? (i := 609) (by decide +kernel), List.mem_of_getElem? (i := 610) (by decide +kernel)⟩
theorem lw_p29 : lw_okq (⟨"PathProfiler$Reader", "endsWithTarget", "(I)Z"⟩, 2) := ⟨⟨by decide +kernel, by decide +kernel⟩, List.mem_of_getElem? (i := 81) (by decide +kernel), List.mem_of_getElem? (i := 662) (by decide +kernel), List.mem_of_getElem? (i := 663) (by decide +kernel)⟩
theorem lw_p30 : lw_okq (⟨"PathProfiler", "requireAnalysis", "()V"⟩, 9) := ⟨⟨by decide +kernel, by decide +kernel⟩, List.mem_of_getElem? (i := 18) (by decide +kernel), List.mem_of_getElem? (i := 681) (by decide +kernel), List.mem_of_getElem? (i := 682) (by decide +kernel)⟩
theorem lw_p31 : lw_okq (⟨"PathProfiler", "requirePath", "(I)V"⟩, 9) := ⟨⟨by decide +kernel, by decide +kernel⟩, List.mem_of_getElem? (i := 18) (by decide +kernel), List.mem_of_getElem? (i := 723) (by decide +kernel), List.mem_of_getElem? (i := 724) (by decide +kernel)⟩
def lw_privs_2 : List (MethodName × Nat) := [(⟨"PathProfiler$Tree", "weightOf", "(I)I"⟩, 9), (⟨"PathProfiler$Tree", "plant", "()V"⟩, 9), (⟨"PathProfiler$Tree", "consider", "(I)V"⟩, 9), (⟨"PathProfiler$Tree", "join", "(I)V"⟩, 9), (⟨"PathProfiler$Tree", "computeIncrements", "()V"⟩, 9), (⟨"PathProfiler", "mixGraph", "(J)J"⟩, 9), (⟨"PathProfiler", "mixAnalysis", "(J)J"⟩, 9), (⟨"PathProfiler", "mixLink", "(JI)J"⟩, 9), (⟨"PathProfiler", "mixCounts", "(J)J"⟩, 9), (⟨"PathProfiler", "isCountable", "()Z"⟩, 9), (⟨"PathProfiler", "mixText", "(J)J"⟩, 9), (⟨"java/lang/Throwable", "fillInStackTrace", "(I)Ljava/lang/Throwable;"⟩, 6), (⟨"PathProfiler", "requireEdge", "(I)V"⟩, 9), (⟨"PathProfiler$Reader", "endsWithTarget", "(I)Z"⟩, 2), (⟨"PathProfiler", "requireAnalysis", "()V"⟩, 9), (⟨"PathProfiler", "requirePath", "(I)V"⟩, 9)]
theorem lw_r2 : ∀ q ∈ lw_privs_2, lw_okq q := List.forall_mem_cons.mpr ⟨lw_p16, List.forall_mem_cons.mpr ⟨lw_p17, List.forall_mem_cons.mpr ⟨lw_p18, List.forall_mem_cons.mpr ⟨lw_p19, List.forall_mem_cons.mpr ⟨lw_p20, List.forall_mem_cons.mpr ⟨lw_p21, List.forall_mem_cons.mpr ⟨lw_p22, List.forall_mem_cons.mpr ⟨lw_p23, List.forall_mem_cons.mpr ⟨lw_p24, List.forall_mem_cons.mpr ⟨lw_p25, List.forall_mem_cons.mpr ⟨lw_p26, List.forall_mem_cons.mpr ⟨lw_p27, List.forall_mem_cons.mpr ⟨lw_p28, List.forall_mem_cons.mpr ⟨lw_p29, List.forall_mem_cons.mpr ⟨lw_p30, List.forall_mem_cons.mpr ⟨lw_p31, fun _ h => absurd h List.not_mem_nil⟩⟩⟩⟩⟩⟩⟩⟩⟩⟩⟩⟩⟩⟩⟩⟩
theorem lw_p32 : lw_okq (⟨"PathProfiler$Paths", "plusValue", "(II)I"⟩, 4) := ⟨⟨by decide +kernel, by decide +kernel⟩, List.mem_of_getElem? (i := 208) (by decide +kernel), List.mem_of_getElem? (i := 790) (by decide +kernel), List.mem_of_getElem? (i := 791) (by decide +kernel)⟩
theorem lw_p33 : lw_okq (⟨"PathProfiler", "requireCounts", "()V"⟩, 9) := ⟨⟨by decide +kernel, by decide +kernel⟩, List.mem_of_getElem? (i := 18) (by decide +kernel), List.mem_of_getElem? (i := 801) (by decide +kernel), List.mem_of_getElem? (i := 802) (by decide +kernel)⟩
theorem lw_p34 : lw_okq (⟨"PathProfiler", "follow", "(I)V"⟩, 9) := ⟨⟨by decide +kernel, by decide +kernel⟩, List.mem_of_getElem? (i := 18) (by decide +kernel), List.mem_of_getElem? (i := 824) (by decide +kernel), List.mem_of_getElem? (i := 825) (by decide +kernel)⟩
theorem lw_p35 : lw_okq (⟨"PathProfilerModel", "discard", "()V"⟩, 37) := ⟨⟨by decide +kernel, by decide +kernel⟩, List.mem_of_getElem? (i := 857) (by decide +kernel), List.mem_of_getElem? (i := 986) (by decide +kernel), List.mem_of_getElem? (i := 987) (by decide +kernel)⟩
theorem lw_p36 : lw_okq (⟨"PathProfilerModel", "isNode", "(I)Z"⟩, 37) := ⟨⟨by decide +kernel, by decide +kernel⟩, List.mem_of_getElem? (i := 857) (by decide +kernel), List.mem_of_getElem? (i := 994) (by decide +kernel), List.mem_of_getElem? (i := 995) (by decide +kernel)⟩
theorem lw_p37 : lw_okq (⟨"PathProfilerModel", "edgeBetween", "(II)I"⟩, 37) := ⟨⟨by decide +kernel, by decide +kernel⟩, List.mem_of_getElem? (i := 857) (by decide +kernel), List.mem_of_getElem? (i := 998) (by decide +kernel), List.mem_of_getElem? (i := 999) (by decide +kernel)⟩
theorem lw_p38 : lw_okq (⟨"PathProfilerModel", "put", "(II)V"⟩, 37) := ⟨⟨by decide +kernel, by decide +kernel⟩, List.mem_of_getElem? (i := 857) (by decide +kernel), List.mem_of_getElem? (i := 1002) (by decide +kernel), List.mem_of_getElem? (i := 1003) (by decide +kernel)⟩
theorem lw_p39 : lw_okq (⟨"PathProfilerModel", "isEdge", "(I)Z"⟩, 37) := ⟨⟨by decide +kernel, by decide +kernel⟩, List.mem_of_getElem? (i := 857) (by decide +kernel), List.mem_of_getElem? (i := 1010) (by decide +kernel), List.mem_of_getElem? (i := 1011) (by decide +kernel)⟩
theorem lw_p40 : lw_okq (⟨"PathProfilerModel", "rightLength", "()I"⟩, 37) := ⟨⟨by decide +kernel, by decide +kernel⟩, List.mem_of_getElem? (i := 857) (by decide +kernel), List.mem_of_getElem? (i := 1030) (by decide +kernel), List.mem_of_getElem? (i := 1031) (by decide +kernel)⟩
theorem lw_p41 : lw_okq (⟨"PathProfilerModel", "takes", "(I)Z"⟩, 37) := ⟨⟨by decide +kernel, by decide +kernel⟩, List.mem_of_getElem? (i := 857) (by decide +kernel), List.mem_of_getElem? (i := 1034) (by decide +kernel), List.mem_of_getElem? (i := 1035) (by decide +kernel)⟩
theorem lw_p42 : lw_okq (⟨"PathProfilerModel", "isNew", "()Z"⟩, 37) := ⟨⟨by decide +kernel, by decide +kernel⟩, List.mem_of_getElem? (i := 857) (by decide +kernel), List.mem_of_getElem? (i := 1038) (by decide +kernel), List.mem_of_getElem? (i := 1039) (by decide +kernel)⟩
theorem lw_p43 : lw_okq (⟨"PathProfilerModel", "search", "()V"⟩, 37) := ⟨⟨by decide +kernel, by decide +kernel⟩, List.mem_of_getElem? (i := 857) (by decide +kernel), List.mem_of_getElem? (i := 1050) (by decide +kernel), List.mem_of_getElem? (i := 1051) (by decide +kernel)⟩
theorem lw_p44 : lw_okq (⟨"PathProfilerModel", "allEnd", "()Z"⟩, 37) := ⟨⟨by decide +kernel, by decide +kernel⟩, List.mem_of_getElem? (i := 857) (by decide +kernel), List.mem_of_getElem? (i := 1054) (by decide +kernel), List.mem_of_getElem? (i := 1055) (by decide +kernel)⟩
theorem lw_p45 : lw_okq (⟨"PathProfilerModel", "number", "()V"⟩, 37) := ⟨⟨by decide +kernel, by decide +kernel⟩, List.mem_of_getElem? (i := 857) (by decide +kernel), List.mem_of_getElem? (i := 1058) (by decide +kernel), List.mem_of_getElem? (i := 1059) (by decide +kernel)⟩
theorem lw_p46 : lw_okq (⟨"PathProfilerModel", "linkBehind", "(II)I"⟩, 37) := ⟨⟨by decide +kernel, by decide +kernel⟩, List.mem_of_getElem? (i := 857) (by decide +kernel), List.mem_of_getElem? (i := 1062) (by decide +kernel), List.mem_of_getElem? (i := 1063) (by decide +kernel)⟩
theorem lw_p47 : lw_okq (⟨"PathProfilerModel", "isLink", "(I)Z"⟩, 37) := ⟨⟨by decide +kernel, by decide +kernel⟩, List.mem_of_getElem? (i := 857) (by decide +kernel), List.mem_of_getElem? (i := 1066) (by decide +kernel), List.mem_of_getElem? (i := 1067) (by decide +kernel)⟩
def lw_privs_3 : List (MethodName × Nat) := [(⟨"PathProfiler$Paths", "plusValue", "(II)I"⟩, 4), (⟨"PathProfiler", "requireCounts", "()V"⟩, 9), (⟨"PathProfiler", "follow", "(I)V"⟩, 9), (⟨"PathProfilerModel", "discard", "()V"⟩, 37), (⟨"PathProfilerModel", "isNode", "(I)Z"⟩, 37), (⟨"PathProfilerModel", "edgeBetween", "(II)I"⟩, 37), (⟨"PathProfilerModel", "put", "(II)V"⟩, 37), (⟨"PathProfilerModel", "isEdge", "(I)Z"⟩, 37), (⟨"PathProfilerModel", "rightLength", "()I"⟩, 37), (⟨"PathProfilerModel", "takes", "(I)Z"⟩, 37), (⟨"PathProfilerModel", "isNew", "()Z"⟩, 37), (⟨"PathProfilerModel", "search", "()V"⟩, 37), (⟨"PathProfilerModel", "allEnd", "()Z"⟩, 37), (⟨"PathProfilerModel", "number", "()V"⟩, 37), (⟨"PathProfilerModel", "linkBehind", "(II)I"⟩, 37), (⟨"PathProfilerModel", "isLink", "(I)Z"⟩, 37)]
theorem lw_r3 : ∀ q ∈ lw_privs_3, lw_okq q := List.forall_mem_cons.mpr ⟨lw_p32, List.forall_mem_cons.mpr ⟨lw_p33, List.forall_mem_cons.mpr ⟨lw_p34, List.forall_mem_cons.mpr ⟨lw_p35, List.forall_mem_cons.mpr ⟨lw_p36, List.forall_mem_cons.mpr ⟨lw_p37, List.forall_mem_cons.mpr ⟨lw_p38, List.forall_mem_cons.mpr ⟨lw_p39, List.forall_mem_cons.mpr ⟨lw_p40, List.forall_mem_cons.mpr ⟨lw_p41, List.forall_mem_cons.mpr ⟨lw_p42, List.forall_mem_cons.mpr ⟨lw_p43, List.forall_mem_cons.mpr ⟨lw_p44, List.forall_mem_cons.mpr ⟨lw_p45, List.forall_mem_cons.mpr ⟨lw_p46, List.forall_mem_cons.mpr ⟨lw_p47, fun _ h => absurd h List.not_mem_nil⟩⟩⟩⟩⟩⟩⟩⟩⟩⟩⟩⟩⟩⟩⟩⟩
theorem lw_p48 : lw_okq (⟨"PathProfilerModel", "linkFrom", "(I)I"⟩, 37) := ⟨⟨by decide +kernel, by decide +kernel⟩, List.mem_of_getElem? (i := 857) (by decide +kernel), List.mem_of_getElem? (i := 1070) (by decide +kernel), List.mem_of_getElem? (i := 1071) (by decide +kernel)⟩
theorem lw_p49 : lw_okq (⟨"PathProfilerModel", "comesBefore", "(II)Z"⟩, 37) := ⟨⟨by decide +kernel, by decide +kernel⟩, List.mem_of_getElem? (i := 857) (by decide +kernel), List.mem_of_getElem? (i := 1074) (by decide +kernel), List.mem_of_getElem? (i := 1075) (by decide +kernel)⟩
theorem lw_p50 : lw_okq (⟨"PathProfilerModel", "kind", "(I)I"⟩, 37) := ⟨⟨by decide +kernel, by decide +kernel⟩, List.mem_of_getElem? (i := 857) (by decide +kernel), List.mem_of_getElem? (i := 1078) (by decide +kernel), List.mem_of_getElem? (i := 1079) (by decide +kernel)⟩
theorem lw_p51 : lw_okq (⟨"PathProfilerModel", "linkTo", "(I)I"⟩, 37) := ⟨⟨by decide +kernel, by decide +kernel⟩, List.mem_of_getElem? (i := 857) (by decide +kernel), List.mem_of_getElem? (i := 1082) (by decide +kernel), List.mem_of_getElem? (i := 1083) (by decide +kernel)⟩
theorem lw_p52 : lw_okq (⟨"PathProfilerModel", "growTree", "()V"⟩, 37) := ⟨⟨by decide +kernel, by decide +kernel⟩, List.mem_of_getElem? (i := 857) (by decide +kernel), List.mem_of_getElem? (i := 1086) (by decide +kernel), List.mem_of_getElem? (i := 1087) (by decide +kernel)⟩
theorem lw_p53 : lw_okq (⟨"PathProfilerModel", "join", "(II)V"⟩, 37) := ⟨⟨by decide +kernel, by decide +kernel⟩, List.mem_of_getElem? (i := 857) (by decide +kernel), List.mem_of_getElem? (i := 1090) (by decide +kernel), List.mem_of_getElem? (i := 1091) (by decide +kernel)⟩
theorem lw_p54 : lw_okq (⟨"PathProfilerModel", "heaviest", "()I"⟩, 37) := ⟨⟨by decide +kernel, by decide +kernel⟩, List.mem_of_getElem? (i := 857) (by decide +kernel), List.mem_of_getElem? (i := 1094) (by decide +kernel), List.mem_of_getElem? (i := 1095) (by decide +kernel)⟩
theorem lw_p55 : lw_okq (⟨"PathProfilerModel", "isHeavier", "(II)Z"⟩, 37) := ⟨⟨by decide +kernel, by decide +kernel⟩, List.mem_of_getElem? (i := 857) (by decide +kernel), List.mem_of_getElem? (i := 1098) (by decide +kernel), List.mem_of_getElem? (i := 1099) (by decide +kernel)⟩
theorem lw_p56 : lw_okq (⟨"PathProfilerModel", "layPotentials", "()V"⟩, 37) := ⟨⟨by decide +kernel, by decide +kernel⟩, List.mem_of_getElem? (i := 857) (by decide +kernel), List.mem_of_getElem? (i := 1102) (by decide +kernel), List.mem_of_getElem? (i := 1103) (by decide +kernel)⟩
theorem lw_p57 : lw_okq (⟨"PathProfilerModel", "lack", "(Z)I"⟩, 37) := ⟨⟨by decide +kernel, by decide +kernel⟩, List.mem_of_getElem? (i := 857) (by decide +kernel), List.mem_of_getElem? (i := 1110) (by decide +kernel), List.mem_of_getElem? (i := 1111) (by decide +kernel)⟩
theorem lw_p58 : lw_okq (⟨"PathProfilerModel", "linkOf", "(IZ)I"⟩, 37) := ⟨⟨by decide +kernel, by decide +kernel⟩, List.mem_of_getElem? (i := 857) (by decide +kernel), List.mem_of_getElem? (i := 1122) (by decide +kernel), List.mem_of_getElem? (i := 1123) (by decide +kernel)⟩
theorem lw_p59 : lw_okq (⟨"PathProfilerModel", "chordSum", "(Z)I"⟩, 37) := ⟨⟨by decide +kernel, by decide +kernel⟩, List.mem_of_getElem? (i := 857) (by decide +kernel), List.mem_of_getElem? (i := 1134) (by decide +kernel), List.mem_of_getElem? (i := 1135) (by decide +kernel)⟩
theorem lw_p60 : lw_okq (⟨"PathProfilerModel", "isPath", "(I)Z"⟩, 37) := ⟨⟨by decide +kernel, by decide +kernel⟩, List.mem_of_getElem? (i := 857) (by decide +kernel), List.mem_of_getElem? (i := 1142) (by decide +kernel), List.mem_of_getElem? (i := 1143) (by decide +kernel)⟩
theorem lw_p61 : lw_okq (⟨"PathProfilerModel", "lengthNow", "(I)I"⟩, 37) := ⟨⟨by decide +kernel, by decide +kernel⟩, List.mem_of_getElem? (i := 857) (by decide +kernel), List.mem_of_getElem? (i := 1146) (by decide +kernel), List.mem_of_getElem? (i := 1147) (by decide +kernel)⟩
theorem lw_p62 : lw_okq (⟨"PathProfilerModel", "follow", "(I)V"⟩, 37) := ⟨⟨by decide +kernel, by decide +kernel⟩, List.mem_of_getElem? (i := 857) (by decide +kernel), List.mem_of_getElem? (i := 1150) (by decide +kernel), List.mem_of_getElem? (i := 1151) (by decide +kernel)⟩
theorem lw_p63 : lw_okq (⟨"PathProfilerModel", "visited", "()I"⟩, 37) := ⟨⟨by decide +kernel, by decide +kernel⟩, List.mem_of_getElem? (i := 857) (by decide +kernel), List.mem_of_getElem? (i := 1154) (by decide +kernel), List.mem_of_getElem? (i := 1155) (by decide +kernel)⟩
def lw_privs_4 : List (MethodName × Nat) := [(⟨"PathProfilerModel", "linkFrom", "(I)I"⟩, 37), (⟨"PathProfilerModel", "comesBefore", "(II)Z"⟩, 37), (⟨"PathProfilerModel", "kind", "(I)I"⟩, 37), (⟨"PathProfilerModel", "linkTo", "(I)I"⟩, 37), (⟨"PathProfilerModel", "growTree", "()V"⟩, 37), (⟨"PathProfilerModel", "join", "(II)V"⟩, 37), (⟨"PathProfilerModel", "heaviest", "()I"⟩, 37), (⟨"PathProfilerModel", "isHeavier", "(II)Z"⟩, 37), (⟨"PathProfilerModel", "layPotentials", "()V"⟩, 37), (⟨"PathProfilerModel", "lack", "(Z)I"⟩, 37), (⟨"PathProfilerModel", "linkOf", "(IZ)I"⟩, 37), (⟨"PathProfilerModel", "chordSum", "(Z)I"⟩, 37), (⟨"PathProfilerModel", "isPath", "(I)Z"⟩, 37), (⟨"PathProfilerModel", "lengthNow", "(I)I"⟩, 37), (⟨"PathProfilerModel", "follow", "(I)V"⟩, 37), (⟨"PathProfilerModel", "visited", "()I"⟩, 37)]
theorem lw_r4 : ∀ q ∈ lw_privs_4, lw_okq q := List.forall_mem_cons.mpr ⟨lw_p48, List.forall_mem_cons.mpr ⟨lw_p49, List.forall_mem_cons.mpr ⟨lw_p50, List.forall_mem_cons.mpr ⟨lw_p51, List.forall_mem_cons.mpr ⟨lw_p52, List.forall_mem_cons.mpr ⟨lw_p53, List.forall_mem_cons.mpr ⟨lw_p54, List.forall_mem_cons.mpr ⟨lw_p55, List.forall_mem_cons.mpr ⟨lw_p56, List.forall_mem_cons.mpr ⟨lw_p57, List.forall_mem_cons.mpr ⟨lw_p58, List.forall_mem_cons.mpr ⟨lw_p59, List.forall_mem_cons.mpr ⟨lw_p60, List.forall_mem_cons.mpr ⟨lw_p61, List.forall_mem_cons.mpr ⟨lw_p62, List.forall_mem_cons.mpr ⟨lw_p63, fun _ h => absurd h List.not_mem_nil⟩⟩⟩⟩⟩⟩⟩⟩⟩⟩⟩⟩⟩⟩⟩⟩
theorem lw_p64 : lw_okq (⟨"PathProfilerModel", "beginsInside", "()Z"⟩, 37) := ⟨⟨by decide +kernel, by decide +kernel⟩, List.mem_of_getElem? (i := 857) (by decide +kernel), List.mem_of_getElem? (i := 1158) (by decide +kernel), List.mem_of_getElem? (i := 1159) (by decide +kernel)⟩
theorem lw_p65 : lw_okq (⟨"PathProfilerModel", "endsInside", "()Z"⟩, 37) := ⟨⟨by decide +kernel, by decide +kernel⟩, List.mem_of_getElem? (i := 857) (by decide +kernel), List.mem_of_getElem? (i := 1162) (by decide +kernel), List.mem_of_getElem? (i := 1163) (by decide +kernel)⟩
theorem lw_p66 : lw_okq (⟨"PathProfilerModel", "visitedNode", "(I)I"⟩, 37) := ⟨⟨by decide +kernel, by decide +kernel⟩, List.mem_of_getElem? (i := 857) (by decide +kernel), List.mem_of_getElem? (i := 1170) (by decide +kernel), List.mem_of_getElem? (i := 1171) (by decide +kernel)⟩
theorem lw_p67 : lw_okq (⟨"PathProfilerModel", "edgeNow", "(IZ)I"⟩, 37) := ⟨⟨by decide +kernel, by decide +kernel⟩, List.mem_of_getElem? (i := 857) (by decide +kernel), List.mem_of_getElem? (i := 1178) (by decide +kernel), List.mem_of_getElem? (i := 1179) (by decide +kernel)⟩
theorem lw_p68 : lw_okq (⟨"PathProfilerModel", "findNow", "()I"⟩, 37) := ⟨⟨by decide +kernel, by decide +kernel⟩, List.mem_of_getElem? (i := 857) (by decide +kernel), List.mem_of_getElem? (i := 1186) (by decide +kernel), List.mem_of_getElem? (i := 1187) (by decide +kernel)⟩
theorem lw_p69 : lw_okq (⟨"PathProfilerModel", "leastValue", "(II)I"⟩, 37) := ⟨⟨by decide +kernel, by decide +kernel⟩, List.mem_of_getElem? (i := 857) (by decide +kernel), List.mem_of_getElem? (i := 1190) (by decide +kernel), List.mem_of_getElem? (i := 1191) (by decide +kernel)⟩
theorem lw_p70 : lw_okq (⟨"PathProfilerModel", "counts", "()Z"⟩, 37) := ⟨⟨by decide +kernel, by decide +kernel⟩, List.mem_of_getElem? (i := 857) (by decide +kernel), List.mem_of_getElem? (i := 1198) (by decide +kernel), List.mem_of_getElem? (i := 1199) (by decide +kernel)⟩
theorem lw_p71 : lw_okq (⟨"PathProfilerModel", "edgeAt", "(II)I"⟩, 37) := ⟨⟨by decide +kernel, by decide +kernel⟩, List.mem_of_getElem? (i := 857) (by decide +kernel), List.mem_of_getElem? (i := 1206) (by decide +kernel), List.mem_of_getElem? (i := 1207) (by decide +kernel)⟩
theorem lw_p72 : lw_okq (⟨"PathProfilerModel", "currentNow", "()I"⟩, 37) := ⟨⟨by decide +kernel, by decide +kernel⟩, List.mem_of_getElem? (i := 857) (by decide +kernel), List.mem_of_getElem? (i := 1214) (by decide +kernel), List.mem_of_getElem? (i := 1215) (by decide +kernel)⟩
theorem lw_p73 : lw_okq (⟨"PathProfilerModel", "lackOfCounts", "(Z)I"⟩, 37) := ⟨⟨by decide +kernel, by decide +kernel⟩, List.mem_of_getElem? (i := 857) (by decide +kernel), List.mem_of_getElem? (i := 1226) (by decide +kernel), List.mem_of_getElem? (i := 1227) (by decide +kernel)⟩
theorem lw_p74 : lw_okq (⟨"PathProfilerModel", "allCounts", "()I"⟩, 37) := ⟨⟨by decide +kernel, by decide +kernel⟩, List.mem_of_getElem? (i := 857) (by decide +kernel), List.mem_of_getElem? (i := 1234) (by decide +kernel), List.mem_of_getElem? (i := 1235) (by decide +kernel)⟩
theorem lw_p75 : lw_okq (⟨"PathProfilerModel", "hottestNow", "()I"⟩, 37) := ⟨⟨by decide +kernel, by decide +kernel⟩, List.mem_of_getElem? (i := 857) (by decide +kernel), List.mem_of_getElem? (i := 1242) (by decide +kernel), List.mem_of_getElem? (i := 1243) (by decide +kernel)⟩
theorem lw_p76 : lw_okq (⟨"PathProfilerModel", "frequency", "(I)I"⟩, 37) := ⟨⟨by decide +kernel, by decide +kernel⟩, List.mem_of_getElem? (i := 857) (by decide +kernel), List.mem_of_getElem? (i := 1250) (by decide +kernel), List.mem_of_getElem? (i := 1251) (by decide +kernel)⟩
theorem lw_p77 : lw_okq (⟨"PathProfilerModel", "mix", "(J)V"⟩, 37) := ⟨⟨by decide +kernel, by decide +kernel⟩, List.mem_of_getElem? (i := 857) (by decide +kernel), List.mem_of_getElem? (i := 1259) (by decide +kernel), List.mem_of_getElem? (i := 1260) (by decide +kernel)⟩
theorem lw_p78 : lw_okq (⟨"PathProfilerModel", "mixAnalysis", "()V"⟩, 37) := ⟨⟨by decide +kernel, by decide +kernel⟩, List.mem_of_getElem? (i := 857) (by decide +kernel), List.mem_of_getElem? (i := 1264) (by decide +kernel), List.mem_of_getElem? (i := 1265) (by decide +kernel)⟩
def lw_privs_5 : List (MethodName × Nat) := [(⟨"PathProfilerModel", "beginsInside", "()Z"⟩, 37), (⟨"PathProfilerModel", "endsInside", "()Z"⟩, 37), (⟨"PathProfilerModel", "visitedNode", "(I)I"⟩, 37), (⟨"PathProfilerModel", "edgeNow", "(IZ)I"⟩, 37), (⟨"PathProfilerModel", "findNow", "()I"⟩, 37), (⟨"PathProfilerModel", "leastValue", "(II)I"⟩, 37), (⟨"PathProfilerModel", "counts", "()Z"⟩, 37), (⟨"PathProfilerModel", "edgeAt", "(II)I"⟩, 37), (⟨"PathProfilerModel", "currentNow", "()I"⟩, 37), (⟨"PathProfilerModel", "lackOfCounts", "(Z)I"⟩, 37), (⟨"PathProfilerModel", "allCounts", "()I"⟩, 37), (⟨"PathProfilerModel", "hottestNow", "()I"⟩, 37), (⟨"PathProfilerModel", "frequency", "(I)I"⟩, 37), (⟨"PathProfilerModel", "mix", "(J)V"⟩, 37), (⟨"PathProfilerModel", "mixAnalysis", "()V"⟩, 37)]
theorem lw_r5 : ∀ q ∈ lw_privs_5, lw_okq q := List.forall_mem_cons.mpr ⟨lw_p64, List.forall_mem_cons.mpr ⟨lw_p65, List.forall_mem_cons.mpr ⟨lw_p66, List.forall_mem_cons.mpr ⟨lw_p67, List.forall_mem_cons.mpr ⟨lw_p68, List.forall_mem_cons.mpr ⟨lw_p69, List.forall_mem_cons.mpr ⟨lw_p70, List.forall_mem_cons.mpr ⟨lw_p71, List.forall_mem_cons.mpr ⟨lw_p72, List.forall_mem_cons.mpr ⟨lw_p73, List.forall_mem_cons.mpr ⟨lw_p74, List.forall_mem_cons.mpr ⟨lw_p75, List.forall_mem_cons.mpr ⟨lw_p76, List.forall_mem_cons.mpr ⟨lw_p77, List.forall_mem_cons.mpr ⟨lw_p78, fun _ h => absurd h List.not_mem_nil⟩⟩⟩⟩⟩⟩⟩⟩⟩⟩⟩⟩⟩⟩⟩
def lw_privs : List (MethodName × Nat) := lw_privs_1 ++ (lw_privs_2 ++ (lw_privs_3 ++ (lw_privs_4 ++ (lw_privs_5))))
def lw_tbl : List Cond := k2_sels lw_privs ++ tables_1
theorem lw_privs_ok : ∀ q ∈ lw_privs, lw_okq q := by
  show ∀ q ∈ lw_privs_1 ++ (lw_privs_2 ++ (lw_privs_3 ++ (lw_privs_4 ++ (lw_privs_5)))), lw_okq q
  exact List.forall_mem_append.mpr ⟨lw_r1, List.forall_mem_append.mpr ⟨lw_r2, List.forall_mem_append.mpr ⟨lw_r3, List.forall_mem_append.mpr ⟨lw_r4, lw_r5⟩⟩⟩⟩
/-- the streams that the claim lets the run draw from -/
abbrev lw_cs : List Choice := [Jvm.Choice.named "NaN.bits"]
theorem lw_bits : nanBits ∈ lw_cs := by first | decide | exact List.mem_cons_self | simp [lw_cs, nanBits]
end
section
/-! ===== BEGIN words of one list among another's, by their places ===== -/
theorem goodIn_r {big : List Cond} (ws : List Cond) (ps : List Nat) (hp : ws = ps.filterMap (fun i => big[i]?)) (h : ws.all goodWord = true) : GoodIn big ws := by
  intro w hw
  have h1 := List.all_eq_true.mp h w hw
  rw [hp] at hw
  obtain ⟨i, -, hi⟩ := List.mem_filterMap.mp hw
  have hm : w ∈ big := by first | exact List.mem_of_getElem? hi | exact List.getElem?_mem hi
  exact ⟨hm, good_of_word h1⟩
theorem goodIn_app {big a b : List Cond} (ha : GoodIn big a) (hb : GoodIn big b) : GoodIn big (a ++ b) := fun w h => (List.mem_append.mp h).elim (ha w) (hb w)
theorem goodIn_ca {big a b : List Cond} {c : Cond} (ha : GoodIn big (c :: a)) (hb : GoodIn big b) : GoodIn big (c :: (a ++ b)) := fun w h => (List.mem_cons.mp h).elim (fun e => ha w (List.mem_cons.mpr (Or.inl e))) (fun h => (List.mem_append.mp h).elim (fun h => ha w (List.mem_cons.mpr (Or.inr h))) (hb w))
theorem goodIn_sub {big ws : List Cond} (hm : ∀ w ∈ ws, w ∈ big) (h : ws.all goodWord = true) : GoodIn big ws := fun w hw => ⟨hm w hw, good_of_word (List.all_eq_true.mp h w hw)⟩
/-! ===== END ===== -/
/-! ===== BEGIN exceptions that leave a method, and their catching by the caller (launches without stack traces) ===== -/
section VXA
/-! The laws vx_back, vx_callV, vx_callS, vx_callSW, vx_throw0, vx_throwS follow proofs of the library, with one case more: JvmDerived/Free/Laws.lean (Back.of_free), Shelf42/LK1.lean (callV, callS), Shelf/KitTraced.lean (throwNew0V, throwNewS). -/
/-- where a method has thrown q: the class by its name, the cell, what was written, the world -/
def vx_T (XC : String → State → State → Prop) (st : State) (q : Addr) (t : State) (mc ms : Nat) (free : Addr → Prop) : Prop :=
  ∃ (E : String) (ce : Cell) (L : List Loc), XC E st t ∧ t.heap[q]? = some ce ∧ ce.vm = .none ∧ st.vm.findClass E = some ce.cls ∧ st.WarmedH t.vm ∧ st.sameButNew ({ t with vm := st.vm } : State) L mc ms ∧ ∀ z ∈ L, free z.base
def vx_Q (Qc : Array Value → State → Outcome → State → Prop) (XC : String → State → State → Prop) (mc ms : Nat) (free : Addr → Prop) : Array Value → State → Outcome → State → Prop := fun a st o t =>
  (Qc a st o t ∧ ∃ L, FrameEnd st o t L mc ms ∧ ∀ q ∈ L, free q.base) ∨ ∃ q, o = .threw q ∧ vx_T XC st q t mc ms free
/-- a callee that returns or throws -/
def vx_Met (l : Launch) (y : MethodName) (ws : List Cond) (rm : Room) (Pc : Array Value → State → Prop) (Qc : Array Value → State → Outcome → State → Prop) (XC : String → State → State → Prop) (mc ms : Nat) (free : Addr → Prop) : Prop :=
  MetFree l y (headSpec ws rm) Pc (fun _ _ _ _ _ => True) (vx_Q Qc XC mc ms free)
def vx_Post (XC : String → State → State → Prop) (mc ms : Nat) (free : Addr → Prop) : Pt → Array Value → Addr → Pt → Prop := fun A a q B =>
  ∃ (g : JFrame) (mk : MethodId) (t : State) (L : List Loc) (E : String) (ce : Cell), B.U.heap = t.heap ∧ B.U.vm = t.vm ∧ XC E (A.U.calling g mk a) t ∧ t.heap[q]? = some ce ∧ ce.vm = .none ∧ A.U.vm.findClass E = some ce.cls ∧ B.locs = A.locs ++ L ∧ (∀ z ∈ L, free z.base) ∧ B.cells = A.cells + mc ∧ B.slots = A.slots + ms
def vx_Back (l : Launch) (R : Room) (p : Program) (e : Env) (below : List Frame) (s : State) (sargs : Array Value) (y : MethodName) (len W9 : Nat)
    (Pre : Pt → Array Value → Prop) (Post : Pt → Array Value → Option Value → Pt → Prop) (PostX : Pt → Array Value → Addr → Pt → Prop) : Prop :=
  ∀ (m : MethodId) (meth : Method) (c : Code) (A : Pt) (g : JFrame) (ig : Instr) (mk : MethodId) (a : Array Value),
    Stand p l e R s m sargs below meth c A.U A.locs A.cells A.slots → g.method = m → g.locals.size = c.maxLocals → decode c.code g.pc = .ok (ig, len) →
    2 * g.monitorRoom + (g.stack.map fun v => v.category).sum ≤ W9 → A.U.methodNamed? y = some mk → Pre A a →
    (∃ (v : Option Value) (B : Pt), Stand p l e R s m sargs below meth c B.U B.locs B.cells B.slots ∧ Post A a v B ∧
      Steps p.tables e below (doInvoke e (A.U.setTop g) [] mk a).1 (B.U.setTop { g with pc := g.pc + len, stack := v.toList ++ g.stack })) ∨
    (∃ (q : Addr) (B : Pt), Stand p l e R s m sargs below meth c B.U B.locs B.cells B.slots ∧ PostX A a q B ∧
      Steps p.tables e below (doInvoke e (A.U.setTop g) [] mk a).1 ((B.U.setTop g).pushFrame (.throwing q)))
section Payer
variable {l : Launch} {R : Room} {p : Program} {e : Env} {below : List Frame} {s : State} {sargs : Array Value} {y : MethodName} {len W9 : Nat}
theorem vx_back {ws : List Cond} {rm : Room} {Pc : Array Value → State → Prop} {Qc : Array Value → State → Outcome → State → Prop} {XC : String → State → State → Prop} {mc ms : Nat} {free : Addr → Prop} {bytes : ByteArray} {maxL : Nat} {ret : Option FieldType}
    (hM : vx_Met l y ws rm Pc Qc XC mc ms free) (hblind : FrameBlind Pc) (hrc : rm.cells = mc) (hrs : rm.slots = ms)
    (hframes : rm.frames + 1 ≤ R.frames) (hlocals : W9 + (maxL + 11) + rm.locals ≤ R.locals)
    (hws : ∀ w ∈ ws, ∀ a' U, s.WarmedH U.vm → w.before a' U = true) (hcode : Cond.code y bytes maxL ret ∈ ws) (hinit : ∀ a' U, s.WarmedH U.vm → (Cond.initialized y.cls).before a' U = true) :
    vx_Back l R p e below s sargs y len W9 (PreOf R mc ms Pc) (PostOf Qc mc ms free) (vx_Post XC mc ms free) := by
  intro m meth c A g ig mk a X hg hsize hdg hW hn hp
  have h1 : (headSpec ws rm).pre.before a A.U = true := atoms_intro fun w hw => hws w hw _ _ X.warmed
  have h2 : (Cond.code y bytes maxL ret).before a A.U = true := hws _ hcode _ _ X.warmed
  have h3 : (Cond.initialized y.cls).before a A.U = true := hinit _ _ X.warmed
  have h4 : A.cells + (headSpec ws rm).room.cells ≤ R.cells := by rw [show (headSpec ws rm).room.cells = mc from hrc]; exact hp.1
  have h5 : A.slots + (headSpec ws rm).room.slots ≤ R.slots := by rw [show (headSpec ws rm).room.slots = ms from hrs]; exact hp.2.1
  have hPc : Pc a (A.U.calling g mk a) := hblind _ _ _ _ hp.2.2
  obtain ⟨U, Ls, c0, s0⟩ := A
  dsimp only [Pt.U, Pt.locs, Pt.cells, Pt.slots] at h1 h2 h3 h4 h5 X hn hPc ⊢
  obtain ⟨methY, cY, hmY, hcY, -, hlY, -, -, -, -⟩ := Cond.code_spec hn h2
  obtain ⟨kY, hkY, -⟩ := className_of_methodNamed hn
  have hinitY : kY.init = .initialized := Cond.initialized_spec (findClass_of_methodNamed hn) hkY h3
  have h : At U g.method c below := by rw [hg]; exact X.here
  have hlocals9 : W9 + (maxL + 11) + (headSpec ws rm).room.locals ≤ R.locals := hlocals
  have happ : (headSpec ws rm).appliesLoose y e.platform (U.calling g mk a) = true :=
    Spec.appliesLoose_calling (g := g) h hdg hn hkY hinitY
      (X.room_calling (g := g) (R' := (headSpec ws rm).room) hsize hmY hcY hframes (by rw [hlY]; omega) h4 h5) h1
  obtain ⟨mid, hmid⟩ := h.above
  have hfr : (U.setTop g).frames = (.java g :: mid) ++ below := by rw [State.frames_setTop' g h.top, hmid]; rfl
  obtain ⟨o, s₂, hsteps, -, hend, hq⟩ := Steps.callFree hM p X.admits X.cas X.clock (acts := []) hfr happ hPc trivial
  have hq' : vx_Q Qc XC mc ms free a (U.calling g mk a) o s₂ := hq
  rw [State.frames_setTop' g h.top] at hend
  obtain ⟨g₀, hg0⟩ := Option.isSome_iff_exists.mp h.top
  obtain ⟨r, hr⟩ := State.topJava?_eq_some.mp hg0
  have hr' : (({ U with heap := s₂.heap, slotsUsed := s₂.slotsUsed } : State).setVm s₂.vm).frames = .java g₀ :: r := hr
  rcases hq' with ⟨hqc, L, hfe, hL⟩ | ⟨q, rfl, E, ce, L, hx, hce, hcv, hcl, hW₂, hsm, hL⟩
  · obtain ⟨⟨v, rfl⟩, hW₂, e2, q2, q3, q4, q5, q6⟩ := id hfe
    have e3 : s₂ = ({ (U.calling g mk a).setFrames s₂.frames with heap := s₂.heap, slotsUsed := s₂.slotsUsed } : State).setVm s₂.vm := by
      have : s₂ = ({ s₂ with vm := (U.calling g mk a).vm } : State).setVm s₂.vm := rfl
      rw [e2] at this
      exact this
    obtain ⟨c₂, i₂, len₂, hc₂, hd₂, hf₂⟩ := hend
    have hW' : U.WarmedH s₂.vm := hW₂
    have hcc : c₂ = c := by
      have h1 : s₂.code? g.method = U.code? g.method := by
        rw [State.code?_eq, State.code?_eq, hW'.alike.method?]
      exact Option.some.inj (hc₂.symm.trans (h1.trans h.code))
    subst hcc
    have hlen : len₂ = len := by rw [hdg] at hd₂; cases hd₂; rfl
    subst hlen
    have hs₂ : s₂ = (({ U with heap := s₂.heap, slotsUsed := s₂.slotsUsed } : State).setVm s₂.vm).setTop { g with pc := g.pc + len₂, stack := v.toList ++ g.stack } := by
      refine e3.trans ?_
      rw [hf₂, State.calling_eq h.top, State.setFrames_setFrames, State.setTop_of_frames _ hr', hr]
      rfl
    have hsame : U.sameButNew ({ U with heap := s₂.heap, slotsUsed := s₂.slotsUsed } : State) L mc ms := by
      refine ⟨?_, q2, q3, q4, q5, q6⟩
      obtain ⟨t, ht, -⟩ := State.frames_cons hr
      show ({ U with heap := s₂.heap, slotsUsed := s₂.slotsUsed } : State) = { U.setFrames U.frames with heap := s₂.heap, slotsUsed := s₂.slotsUsed }
      rw [State.setFrames_self ht]
    subst hg
    refine Or.inl ⟨v, ⟨(({ U with heap := s₂.heap, slotsUsed := s₂.slotsUsed } : State).setVm s₂.vm), Ls ++ L, c0 + mc, s0 + ms⟩,
      ⟨X.admits, X.cas, X.clock, X.frames, X.room, X.hears, X.method, X.code, (X.here.setHeapUsed s₂.heap s₂.slotsUsed).setVm hW'.alike, X.tail, State.WarmedH.trans X.warmed hW', X.limits, X.bytes, X.same.trans (hsame.setVm s.vm)⟩,
      ⟨g, mk, s₂, L, rfl, rfl, hqc, rfl, hL, rfl, rfl⟩, ?_⟩
    show Steps p.tables e below _ ((({ U with heap := s₂.heap, slotsUsed := s₂.slotsUsed } : State).setVm s₂.vm).setTop { g with pc := g.pc + len₂, stack := v.toList ++ g.stack })
    rw [← hs₂]
    exact hsteps
  · obtain ⟨e2, q2, q3, q4, q5, q6⟩ := id hsm
    have e3 : s₂ = ({ (U.calling g mk a).setFrames s₂.frames with heap := s₂.heap, slotsUsed := s₂.slotsUsed } : State).setVm s₂.vm := by
      have : s₂ = ({ s₂ with vm := (U.calling g mk a).vm } : State).setVm s₂.vm := rfl
      rw [e2] at this
      exact this
    have hf₂ : s₂.frames = .throwing q :: .java g :: U.frames.tail := hend
    have hW' : U.WarmedH s₂.vm := hW₂
    have hs₂ : s₂ = ((({ U with heap := s₂.heap, slotsUsed := s₂.slotsUsed } : State).setVm s₂.vm).setTop g).pushFrame (.throwing q) := by
      refine e3.trans ?_
      rw [hf₂, State.calling_eq h.top, State.setFrames_setFrames, State.pushFrame, State.frames_setTop _ hr', State.setTop_of_frames _ hr', State.setFrames_setFrames, hr]
      rfl
    have hsame : U.sameButNew ({ U with heap := s₂.heap, slotsUsed := s₂.slotsUsed } : State) L mc ms := by
      refine ⟨?_, q2, q3, q4, q5, q6⟩
      obtain ⟨t, ht, -⟩ := State.frames_cons hr
      show ({ U with heap := s₂.heap, slotsUsed := s₂.slotsUsed } : State) = { U.setFrames U.frames with heap := s₂.heap, slotsUsed := s₂.slotsUsed }
      rw [State.setFrames_self ht]
    subst hg
    refine Or.inr ⟨q, ⟨(({ U with heap := s₂.heap, slotsUsed := s₂.slotsUsed } : State).setVm s₂.vm), Ls ++ L, c0 + mc, s0 + ms⟩,
      ⟨X.admits, X.cas, X.clock, X.frames, X.room, X.hears, X.method, X.code, (X.here.setHeapUsed s₂.heap s₂.slotsUsed).setVm hW'.alike, X.tail, State.WarmedH.trans X.warmed hW', X.limits, X.bytes, X.same.trans (hsame.setVm s.vm)⟩,
      ⟨g, mk, s₂, L, E, ce, rfl, rfl, hx, hce, hcv, hcl, rfl, hL, rfl, rfl⟩, ?_⟩
    show Steps p.tables e below _ (((({ U with heap := s₂.heap, slotsUsed := s₂.slotsUsed } : State).setVm s₂.vm).setTop g).pushFrame (.throwing q))
    rw [← hs₂]
    exact hsteps
end Payer
section Calls
variable {p : Program} {l : Launch} {e : Env} {R : Room} {s : State} {m : MethodId} {args : Array Value} {below : List Frame} {meth : Method} {c : Code} {T : State} {locs : List Loc} {cells slots : Nat}
theorem vx_callV (X : Stand p l e R s m args below meth c T locs cells slots) (hexec : p.tables.exec = Jvm.exec) {own C : String} {index : Nat} {y : MethodName} {bytes : ByteArray} {maxL : Nat} {ret : Option FieldType}
    (hown : s.vm.findClass own = some m.cls) (hlink : (Cond.methodLink own index y).before args s = true) (hinst : (Cond.instanceMethod y).before args s = true) (hsel : (Cond.selects C y y).before args s = true)
    (hcode : (Cond.code y bytes maxL ret).before args s = true) (hy : y.cls ≠ "java/lang/invoke/MethodHandle" ∧ y.cls ≠ "java/lang/invoke/VarHandle")
    {W9 : Nat} {Pre : Pt → Array Value → Prop} {Post : Pt → Array Value → Option Value → Pt → Prop} {PostX : Pt → Array Value → Addr → Pt → Prop} (hK : vx_Back l R p e below s args y 3 W9 Pre Post PostX)
    {b : Addr} {cellB : Cell} (hcell : T.heap[b]? = some cellB) (hobj : cellB.vm.isStatics = false) (hcls : s.vm.findClass C = some cellB.cls)
    {g : JFrame} (hg : g.method = m) (hsize : g.locals.size = c.maxLocals) {argsL rest : List Value} (hlen : ∀ sig, parseMethodDescriptor y.desc = some sig → argsL.length = sig.parameters.length)
    (hstack : g.stack = argsL.reverse ++ .ref b :: rest) (hW : 2 * g.monitorRoom + (rest.map fun v => v.category).sum ≤ W9) (hdg : decode c.code g.pc = .ok (.invokevirtual index, 3))
    (hpre : ∀ vm₁, s.WarmedH vm₁ → Pre ⟨T.setVm vm₁, locs, cells, slots⟩ (Value.ref b :: argsL).toArray) :
    (∃ (v : Option Value) (vm₁ : Vm) (B : Pt), s.WarmedH vm₁ ∧ Stand p l e R s m args below meth c B.U B.locs B.cells B.slots ∧ Post ⟨T.setVm vm₁, locs, cells, slots⟩ (Value.ref b :: argsL).toArray v B ∧
      ∀ target, Steps p.tables e below (B.U.setTop { g with pc := g.pc + 3, stack := v.toList ++ rest }) target → Steps p.tables e below (T.setTop g) target) ∨
    (∃ (q : Addr) (vm₁ : Vm) (B : Pt), s.WarmedH vm₁ ∧ Stand p l e R s m args below meth c B.U B.locs B.cells B.slots ∧ PostX ⟨T.setVm vm₁, locs, cells, slots⟩ (Value.ref b :: argsL).toArray q B ∧
      Steps p.tables e below (T.setTop g) ((B.U.setTop { g with stack := rest }).pushFrame (.throwing q))) := by
  obtain ⟨mk, methM, hnamed, hmethM, hstM, habM⟩ := Cond.instanceMethod_spec hinst
  obtain ⟨methM', cM, hmethM', -, -, -, -, -, -, hsigM⟩ := Cond.code_spec hnamed hcode
  cases hmethM.symm.trans hmethM'
  obtain ⟨c2, r2, m2, q1, q2, q3, q4, kP, hkP, hkPi⟩ := Cond.selects_spec hsel
  cases hcls.symm.trans q1
  cases (State.methodFound?_of_named hnamed hy).symm.trans q2
  cases hnamed.symm.trans q3
  have hselP : selectMethod e.platform s.vm cellB.cls mk = .method mk := by rw [Launch.admits_selectMethod X.admits]; exact q4
  obtain ⟨vm₁, X₁, hstep₁⟩ := X.invokevirtual hexec hown hlink hnamed hmethM hstM hkP hkPi hy (a := b) (cell := cellB) hcell
    (fun z h => by rw [h] at hobj; cases hobj) hselP hmethM habM hkP hkPi (g := g) hg (argsL := argsL) (rest := rest) (hlen _ hsigM) hstack hdg
  rcases hK m meth c ⟨T.setVm vm₁, locs, cells, slots⟩ { g with stack := rest } (.invokevirtual index) mk (Value.ref b :: argsL).toArray X₁ hg hsize hdg hW (X₁.named hnamed) (hpre vm₁ X₁.warmed) with ⟨v, B, X', hpost, hsteps⟩ | ⟨q, B, X', hpost, hsteps⟩
  · exact Or.inl ⟨v, vm₁, B, X₁.warmed, X', hpost, fun target h => hstep₁ _ fun acts => by rw [doInvoke_state]; exact hsteps.trans h⟩
  · exact Or.inr ⟨q, vm₁, B, X₁.warmed, X', hpost, hstep₁ _ fun acts => by rw [doInvoke_state]; exact hsteps⟩
theorem vx_callS (X : Stand p l e R s m args below meth c T locs cells slots) (hexec : p.tables.exec = Jvm.exec) {own : String} {index : Nat} {y : MethodName} {bytes : ByteArray} {maxL : Nat} {ret : Option FieldType}
    (hown : s.vm.findClass own = some m.cls) (hlink : (Cond.methodLink own index y).before args s = true) (hstat : (Cond.static y).before args s = true) (hinit : (Cond.initialized y.cls).before args s = true)
    (hcode : (Cond.code y bytes maxL ret).before args s = true) (hy : y.cls ≠ "java/lang/invoke/MethodHandle" ∧ y.cls ≠ "java/lang/invoke/VarHandle")
    {W9 : Nat} {Pre : Pt → Array Value → Prop} {Post : Pt → Array Value → Option Value → Pt → Prop} {PostX : Pt → Array Value → Addr → Pt → Prop} (hK : vx_Back l R p e below s args y 3 W9 Pre Post PostX)
    {g : JFrame} (hg : g.method = m) (hsize : g.locals.size = c.maxLocals) {argsL rest : List Value} (hlen : ∀ sig, parseMethodDescriptor y.desc = some sig → argsL.length = sig.parameters.length)
    (hstack : g.stack = argsL.reverse ++ rest) (hW : 2 * g.monitorRoom + (rest.map fun v => v.category).sum ≤ W9) (hdg : decode c.code g.pc = .ok (.invokestatic index, 3))
    (hpre : ∀ vm₁, s.WarmedH vm₁ → Pre ⟨T.setVm vm₁, locs, cells, slots⟩ argsL.toArray) :
    (∃ (v : Option Value) (vm₁ : Vm) (B : Pt), s.WarmedH vm₁ ∧ Stand p l e R s m args below meth c B.U B.locs B.cells B.slots ∧ Post ⟨T.setVm vm₁, locs, cells, slots⟩ argsL.toArray v B ∧
      ∀ target, Steps p.tables e below (B.U.setTop { g with pc := g.pc + 3, stack := v.toList ++ rest }) target → Steps p.tables e below (T.setTop g) target) ∨
    (∃ (q : Addr) (vm₁ : Vm) (B : Pt), s.WarmedH vm₁ ∧ Stand p l e R s m args below meth c B.U B.locs B.cells B.slots ∧ PostX ⟨T.setVm vm₁, locs, cells, slots⟩ argsL.toArray q B ∧
      Steps p.tables e below (T.setTop g) ((B.U.setTop { g with stack := rest }).pushFrame (.throwing q))) := by
  obtain ⟨mk, hnamed⟩ := Cond.code_named hcode
  obtain ⟨methM, cM, hmethM, -, -, -, -, -, -, hsigM⟩ := Cond.code_spec hnamed hcode
  have hstatic : methM.isStatic = true := Cond.static_spec hnamed hmethM hstat
  obtain ⟨kP, hkP, -⟩ := className_of_methodNamed hnamed
  have hinitP : kP.init = .initialized := Cond.initialized_spec (findClass_of_methodNamed hnamed) hkP hinit
  obtain ⟨vm₁, X₁, hstep₁⟩ := X.invokestatic hexec hown hlink hnamed hmethM hstatic hkP hinitP hy (g := g) hg (argsL := argsL) (rest := rest) (hlen _ hsigM) hstack hdg
  rcases hK m meth c ⟨T.setVm vm₁, locs, cells, slots⟩ { g with stack := rest } (.invokestatic index) mk argsL.toArray X₁ hg hsize hdg hW (X₁.named hnamed) (hpre vm₁ X₁.warmed) with ⟨v, B, X', hpost, hsteps⟩ | ⟨q, B, X', hpost, hsteps⟩
  · exact Or.inl ⟨v, vm₁, B, X₁.warmed, X', hpost, fun target h => hstep₁ _ fun acts => by rw [doInvoke_state]; exact hsteps.trans h⟩
  · exact Or.inr ⟨q, vm₁, B, X₁.warmed, X', hpost, hstep₁ _ fun acts => by rw [doInvoke_state]; exact hsteps⟩
end Calls
theorem vx_cls {s : State} {T : State} {vm₁ : Vm} {E : String} {k : ClassId} (hW : s.WarmedH vm₁) (h : (T.setVm vm₁).vm.findClass E = some k) : s.vm.findClass E = some k := by
  have h1 : vm₁.findClass E = some k := h
  rw [hW.alike.findClass] at h1
  exact h1
/-- the method's frame g, with q thrown over it -/
def vx_W (p : Program) (l : Launch) (e : Env) (R : Room) (s : State) (m : MethodId) (args : Array Value) (below : List Frame) (meth : Method) (c : Code) (H : Heap) (locs : List Loc) (cells slots : Nat) (Q : State → Prop) (g : JFrame) (q : Addr) : Prop :=
  ∀ T : State, T.heap = H → Stand p l e R s m args below meth c T locs cells slots → ∃ t, Steps p.tables e below ((T.setTop g).pushFrame (.throwing q)) t ∧ Q t
def vx_Run (p : Program) (l : Launch) (e : Env) (R : Room) (s : State) (m : MethodId) (args : Array Value) (below : List Frame) (meth : Method) (c : Code) (H : Heap) (locs : List Loc) (cells slots mc ms : Nat) (g : JFrame) (rest : List Value) (Qa : State → Outcome → State → Prop) (XC : String → State → State → Prop) (free : Addr → Prop) : Prop :=
  ∀ T : State, T.heap = H → Stand p l e R s m args below meth c T locs cells slots →
    (∃ (v : Option Value) (st₀ t T' : State) (L : List Loc), st₀.heap = H ∧ Stand p l e R s m args below meth c T' (locs ++ L) (cells + mc) (slots + ms) ∧ (∀ q ∈ L, free q.base) ∧ T'.heap = t.heap ∧ T'.vm = t.vm ∧ Qa st₀ (.returned v) t ∧
      Goes p e below T g T' { g with pc := g.pc + 3, stack := v.toList ++ rest }) ∨
    (∃ (q : Addr) (st₀ t T' : State) (L : List Loc) (E : String) (ce : Cell), st₀.heap = H ∧ Stand p l e R s m args below meth c T' (locs ++ L) (cells + mc) (slots + ms) ∧ (∀ z ∈ L, free z.base) ∧ T'.heap = t.heap ∧ T'.vm = t.vm ∧ XC E st₀ t ∧ t.heap[q]? = some ce ∧ ce.vm = .none ∧ s.vm.findClass E = some ce.cls ∧
      Steps p.tables e below (T.setTop g) ((T'.setTop { g with stack := rest }).pushFrame (.throwing q)))
def vx_X {S : Type} (px : S → Prop) (B : String → S → State → Prop) (A : Nat → Prop) : String → State → State → Prop := fun E st t => ∃ u : S, px u ∧ B E u t ∧ va_F A st t
section Runs
variable {p : Program} {l : Launch} {e : Env} {R : Room} {s : State} {m : MethodId} {args : Array Value} {below : List Frame} {meth : Method} {c : Code} {H : Heap} {locs : List Loc} {cells slots : Nat}
variable {y : MethodName} {bytes cc : ByteArray} {maxL nL mc ms n index : Nat} {ret : Option FieldType} {ws : List Cond} {rm : Room} {Pc : Array Value → State → Prop} {Qc : Array Value → State → Outcome → State → Prop} {XC : String → State → State → Prop} {free : Addr → Prop} {Ts : List Cond} {own C : String} {b : Addr} {As rest : List Value} {g : JFrame}
theorem vx_callBack (cb : CallB R s args own index y bytes maxL ret ws rm mc ms n) (hM : vx_Met l y ws rm Pc Qc XC mc ms free) (hbl : FrameBlind Pc) : vx_Back l R p e below s args y 3 8 (PreOf R mc ms Pc) (PostOf Qc mc ms free) (vx_Post XC mc ms free) := by
  obtain ⟨hrc, hrs, hfr, hlo, hws, hcw, -, hini, -⟩ := cb
  exact vx_back (bytes := bytes) (maxL := maxL) (ret := ret) hM hbl hrc hrs hfr hlo hws hcw (fun a' U hW => word_at hW (Or.inl (by first | rfl | simp [Cond.onTables, Cond.keeps, Cond.steady])) hini)
theorem vx_runV (S : CallFix p m c cc nL s args Ts own) (hM : vx_Met l y ws rm Pc Qc XC mc ms free) (cw : CallW R s args own C index y bytes maxL ret ws rm mc ms n) (hp : PreV s H C b Pc As)
    (hg : g.method = m) (hn : As.length = n) (hsize : g.locals.size = nL) (hstack : g.stack = As.reverse ++ .ref b :: rest) (hW : 2 * g.monitorRoom + (rest.map fun v => v.category).sum ≤ 8) (hdg : decode cc g.pc = .ok (.invokevirtual index, 3)) (hf : cells + mc ≤ R.cells ∧ slots + ms ≤ R.slots) :
    vx_Run p l e R s m args below meth c H locs cells slots mc ms g rest (Qc (Value.ref b :: As).toArray) XC free := by
  have hK : vx_Back l R p e below s args y 3 8 (PreOf R mc ms Pc) (PostOf Qc mc ms free) (vx_Post XC mc ms free) := vx_callBack cw.1 hM hp.1
  obtain ⟨⟨-, -, -, -, -, -, hcode, -, hy, hlen, hl⟩, hin, hse⟩ := cw
  obtain ⟨hx, hb, hml, ho, -⟩ := S
  obtain ⟨-, ⟨cellB, hcB, hoB, hclB⟩, hPc⟩ := hp
  intro T hT X
  rcases vx_callV X hx (C := C) (bytes := bytes) (maxL := maxL) (ret := ret) ho hl hin hse hcode hy hK (by rw [hT]; exact hcB) hoB hclB hg (hsize.trans hml.symm) (argsL := As) (rest := rest) (fun sig h => hn.trans (hlen sig h)) hstack hW (by rw [hb]; exact hdg)
    (fun vm₁ hW₁ => ⟨hf.1, hf.2, hPc (T.setVm vm₁) hT hW₁⟩) with ⟨v, vm₁, ⟨U', l2, c2, s2⟩, hW₁, X', ⟨g', mk, t, L, e1, e2, hq, h1, hL, h2, h3⟩, st⟩ | ⟨q, vm₁, ⟨U', l2, c2, s2⟩, hW₁, X', ⟨g', mk, t, L, E, ce, e1, e2, hq, hce, hcv, hcl, h1, hL, h2, h3⟩, st⟩
  · dsimp only [Pt.U, Pt.locs, Pt.cells, Pt.slots] at X' e1 e2 h1 h2 h3 st
    subst h1; subst h2; subst h3
    exact Or.inl ⟨v, (T.setVm vm₁).calling g' mk (Value.ref b :: As).toArray, t, U', L, hT, X', hL, e1, e2, hq, st⟩
  · dsimp only [Pt.U, Pt.locs, Pt.cells, Pt.slots] at X' e1 e2 h1 h2 h3 st hcl
    subst h1; subst h2; subst h3
    exact Or.inr ⟨q, (T.setVm vm₁).calling g' mk (Value.ref b :: As).toArray, t, U', L, E, ce, hT, X', hL, e1, e2, hq, hce, hcv, vx_cls hW₁ hcl, st⟩
theorem vx_runS (S : CallFix p m c cc nL s args Ts own) (hM : vx_Met l y ws rm Pc Qc XC mc ms free) (cw : CallB R s args own index y bytes maxL ret ws rm mc ms n ∧ (Cond.static y).before args s = true) (hp : PreS s H Pc As)
    (hg : g.method = m) (hn : As.length = n) (hsize : g.locals.size = nL) (hstack : g.stack = As.reverse ++ rest) (hW : 2 * g.monitorRoom + (rest.map fun v => v.category).sum ≤ 8) (hdg : decode cc g.pc = .ok (.invokestatic index, 3)) (hf : cells + mc ≤ R.cells ∧ slots + ms ≤ R.slots) :
    vx_Run p l e R s m args below meth c H locs cells slots mc ms g rest (Qc As.toArray) XC free := by
  have hK : vx_Back l R p e below s args y 3 8 (PreOf R mc ms Pc) (PostOf Qc mc ms free) (vx_Post XC mc ms free) := vx_callBack cw.1 hM hp.1
  obtain ⟨⟨-, -, -, -, -, -, hcode, hini, hy, hlen, hl⟩, hstt⟩ := cw
  obtain ⟨hx, hb, hml, ho, -⟩ := S
  intro T hT X
  rcases vx_callS X hx (bytes := bytes) (maxL := maxL) (ret := ret) ho hl hstt hini hcode hy hK hg (hsize.trans hml.symm) (argsL := As) (rest := rest) (fun sig h => hn.trans (hlen sig h)) hstack hW (by rw [hb]; exact hdg)
    (fun vm₁ hW₁ => ⟨hf.1, hf.2, hp.2 (T.setVm vm₁) hT hW₁⟩) with ⟨v, vm₁, ⟨U', l2, c2, s2⟩, hW₁, X', ⟨g', mk, t, L, e1, e2, hq, h1, hL, h2, h3⟩, st⟩ | ⟨q, vm₁, ⟨U', l2, c2, s2⟩, hW₁, X', ⟨g', mk, t, L, E, ce, e1, e2, hq, hce, hcv, hcl, h1, hL, h2, h3⟩, st⟩
  · dsimp only [Pt.U, Pt.locs, Pt.cells, Pt.slots] at X' e1 e2 h1 h2 h3 st
    subst h1; subst h2; subst h3
    exact Or.inl ⟨v, (T.setVm vm₁).calling g' mk As.toArray, t, U', L, hT, X', hL, e1, e2, hq, st⟩
  · dsimp only [Pt.U, Pt.locs, Pt.cells, Pt.slots] at X' e1 e2 h1 h2 h3 st hcl
    subst h1; subst h2; subst h3
    exact Or.inr ⟨q, (T.setVm vm₁).calling g' mk As.toArray, t, U', L, E, ce, hT, X', hL, e1, e2, hq, hce, hcv, vx_cls hW₁ hcl, st⟩
end Runs
section Rows
variable {p : Program} {l : Launch} {e : Env} {R : Room} {s : State} {m : MethodId} {args : Array Value} {below : List Frame} {meth : Method} {c : Code} {H : Heap} {locs : List Loc} {cells slots : Nat} {Q : State → Prop}
variable {mc ms : Nat} {free : Addr → Prop} {A0 A1 : Nat → Prop} {H0 : Heap} {a : Array Value} {pc : Nat} {ls : Array Slot} {st0 rest : List Value}
theorem vx_keep {st₀ t T' : State} {L : List Loc} (h0 : st₀.heap = H) (e1 : T'.heap = t.heap) (hS : va_S A0 H0 H locs) (hA : ∀ q, q < H.size → A1 q → A0 q) (hf : ∀ q, free q → A0 q) (hL : ∀ q ∈ L, free q.base) (hF : va_F A1 st₀ t) :
    H.size ≤ T'.heap.size ∧ (∀ q : Nat, q < H.size → ¬ A1 q → T'.heap[q]? = H[q]?) ∧ va_S A0 H0 T'.heap (locs ++ L) := by
  obtain ⟨hz, hk⟩ := hF
  rw [h0] at hz hk
  exact ⟨by rw [e1]; exact hz, fun q h1 h2 => by rw [e1]; exact hk q h1 h2,
    ⟨Nat.le_trans hS.1 (by rw [e1]; exact hz), fun q h1 h2 => by rw [e1, hk q (Nat.lt_of_lt_of_le h1 hS.1) (fun z => h2 (hA q (Nat.lt_of_lt_of_le h1 hS.1) z))]; exact hS.2.1 q h1 h2, fun q hq => by
      rcases List.mem_append.mp hq with h | h
      · exact hS.2.2 q h
      · exact hf _ (hL q h)⟩⟩
theorem vx_calli {S SX : Type} {post : Int32 → S → Prop} {px : SX → Prop} {B : S → State → Prop} {BX : String → SX → State → Prop} {AX : Nat → Prop} (hr : vx_Run p l e R s m args below meth c H locs cells slots mc ms (F0 m pc ls st0) rest (va_Qi post B A1 a) (vx_X px BX AX) free) (hS : va_S A0 H0 H locs) (hA : ∀ q, q < H.size → A1 q → A0 q) (hf : ∀ q, free q → A0 q) (hAX : ∀ q, q < H.size → AX q → A0 q)
    (kx : ∀ (E : String) (ce : Cell) (q9 : Addr) (u : SX) (t : State) (H1 : Heap) (locs1 : List Loc), t.heap = H1 → s.vm.Alike t.vm → px u → BX E u t → H.size ≤ H1.size → (∀ q : Nat, q < H.size → ¬ AX q → H1[q]? = H[q]?) → va_S A0 H0 H1 locs1 → H1[q9]? = some ce → ce.vm = .none → s.vm.findClass E = some ce.cls → vx_W p l e R s m args below meth c H1 locs1 (cells + mc) (slots + ms) Q (F0 m pc ls rest) q9)
    (kk : ∀ (r : Int32) (u : S) (t : State) (H1 : Heap) (locs1 : List Loc), t.heap = H1 → s.vm.Alike t.vm → post r u → B u t → H.size ≤ H1.size → (∀ q : Nat, q < H.size → ¬ A1 q → H1[q]? = H[q]?) → va_S A0 H0 H1 locs1 → W p l e R s m args below meth c H1 locs1 (cells + mc) (slots + ms) Q (F0 m (pc + 3) ls (.int r :: rest))) : W p l e R s m args below meth c H locs cells slots Q (F0 m pc ls st0) := by
  intro T hT X
  rcases hr T hT X with ⟨v, st₀, t, T', L, h0, X', hL, e1, e2, ⟨⟨r, u, hv, hp, hb⟩, hF⟩, st⟩ | ⟨q, st₀, t, T', L, E, ce, h0, X', hL, e1, e2, ⟨u, hp, hb, hF⟩, hce, hcv, hcl, st⟩
  · cases hv
    obtain ⟨k1, k2, k3⟩ := vx_keep h0 e1 hS hA hf hL hF
    obtain ⟨t2, a1, b1⟩ := kk r u t T'.heap (locs ++ L) e1.symm (by rw [← e2]; exact X'.warmed.alike) hp hb k1 k2 k3 T' rfl X'
    exact ⟨t2, st t2 a1, b1⟩
  · obtain ⟨k1, k2, k3⟩ := vx_keep h0 e1 hS hAX hf hL hF
    obtain ⟨t2, a1, b1⟩ := kx E ce q u t T'.heap (locs ++ L) e1.symm (by rw [← e2]; exact X'.warmed.alike) hp hb k1 k2 k3 (by rw [e1]; exact hce) hcv hcl T' rfl X'
    exact ⟨t2, st.trans a1, b1⟩
theorem vx_calll {S SX : Type} {post : Int64 → S → Prop} {px : SX → Prop} {B : S → State → Prop} {BX : String → SX → State → Prop} {AX : Nat → Prop} (hr : vx_Run p l e R s m args below meth c H locs cells slots mc ms (F0 m pc ls st0) rest (va_Ql post B A1 a) (vx_X px BX AX) free) (hS : va_S A0 H0 H locs) (hA : ∀ q, q < H.size → A1 q → A0 q) (hf : ∀ q, free q → A0 q) (hAX : ∀ q, q < H.size → AX q → A0 q)
    (kx : ∀ (E : String) (ce : Cell) (q9 : Addr) (u : SX) (t : State) (H1 : Heap) (locs1 : List Loc), t.heap = H1 → s.vm.Alike t.vm → px u → BX E u t → H.size ≤ H1.size → (∀ q : Nat, q < H.size → ¬ AX q → H1[q]? = H[q]?) → va_S A0 H0 H1 locs1 → H1[q9]? = some ce → ce.vm = .none → s.vm.findClass E = some ce.cls → vx_W p l e R s m args below meth c H1 locs1 (cells + mc) (slots + ms) Q (F0 m pc ls rest) q9)
    (kk : ∀ (r : Int64) (u : S) (t : State) (H1 : Heap) (locs1 : List Loc), t.heap = H1 → s.vm.Alike t.vm → post r u → B u t → H.size ≤ H1.size → (∀ q : Nat, q < H.size → ¬ A1 q → H1[q]? = H[q]?) → va_S A0 H0 H1 locs1 → W p l e R s m args below meth c H1 locs1 (cells + mc) (slots + ms) Q (F0 m (pc + 3) ls (.long r :: rest))) : W p l e R s m args below meth c H locs cells slots Q (F0 m pc ls st0) := by
  intro T hT X
  rcases hr T hT X with ⟨v, st₀, t, T', L, h0, X', hL, e1, e2, ⟨⟨r, u, hv, hp, hb⟩, hF⟩, st⟩ | ⟨q, st₀, t, T', L, E, ce, h0, X', hL, e1, e2, ⟨u, hp, hb, hF⟩, hce, hcv, hcl, st⟩
  · cases hv
    obtain ⟨k1, k2, k3⟩ := vx_keep h0 e1 hS hA hf hL hF
    obtain ⟨t2, a1, b1⟩ := kk r u t T'.heap (locs ++ L) e1.symm (by rw [← e2]; exact X'.warmed.alike) hp hb k1 k2 k3 T' rfl X'
    exact ⟨t2, st t2 a1, b1⟩
  · obtain ⟨k1, k2, k3⟩ := vx_keep h0 e1 hS hAX hf hL hF
    obtain ⟨t2, a1, b1⟩ := kx E ce q u t T'.heap (locs ++ L) e1.symm (by rw [← e2]; exact X'.warmed.alike) hp hb k1 k2 k3 (by rw [e1]; exact hce) hcv hcl T' rfl X'
    exact ⟨t2, st.trans a1, b1⟩
theorem vx_callf {S SX : Type} {post : UInt32 → S → Prop} {px : SX → Prop} {B : S → State → Prop} {BX : String → SX → State → Prop} {AX : Nat → Prop} (hr : vx_Run p l e R s m args below meth c H locs cells slots mc ms (F0 m pc ls st0) rest (va_Qf post B A1 a) (vx_X px BX AX) free) (hS : va_S A0 H0 H locs) (hA : ∀ q, q < H.size → A1 q → A0 q) (hf : ∀ q, free q → A0 q) (hAX : ∀ q, q < H.size → AX q → A0 q)
    (kx : ∀ (E : String) (ce : Cell) (q9 : Addr) (u : SX) (t : State) (H1 : Heap) (locs1 : List Loc), t.heap = H1 → s.vm.Alike t.vm → px u → BX E u t → H.size ≤ H1.size → (∀ q : Nat, q < H.size → ¬ AX q → H1[q]? = H[q]?) → va_S A0 H0 H1 locs1 → H1[q9]? = some ce → ce.vm = .none → s.vm.findClass E = some ce.cls → vx_W p l e R s m args below meth c H1 locs1 (cells + mc) (slots + ms) Q (F0 m pc ls rest) q9)
    (kk : ∀ (r : UInt32) (u : S) (t : State) (H1 : Heap) (locs1 : List Loc), t.heap = H1 → s.vm.Alike t.vm → post r u → B u t → H.size ≤ H1.size → (∀ q : Nat, q < H.size → ¬ A1 q → H1[q]? = H[q]?) → va_S A0 H0 H1 locs1 → W p l e R s m args below meth c H1 locs1 (cells + mc) (slots + ms) Q (F0 m (pc + 3) ls (.float r :: rest))) : W p l e R s m args below meth c H locs cells slots Q (F0 m pc ls st0) := by
  intro T hT X
  rcases hr T hT X with ⟨v, st₀, t, T', L, h0, X', hL, e1, e2, ⟨⟨r, u, hv, hp, hb⟩, hF⟩, st⟩ | ⟨q, st₀, t, T', L, E, ce, h0, X', hL, e1, e2, ⟨u, hp, hb, hF⟩, hce, hcv, hcl, st⟩
  · cases hv
    obtain ⟨k1, k2, k3⟩ := vx_keep h0 e1 hS hA hf hL hF
    obtain ⟨t2, a1, b1⟩ := kk r u t T'.heap (locs ++ L) e1.symm (by rw [← e2]; exact X'.warmed.alike) hp hb k1 k2 k3 T' rfl X'
    exact ⟨t2, st t2 a1, b1⟩
  · obtain ⟨k1, k2, k3⟩ := vx_keep h0 e1 hS hAX hf hL hF
    obtain ⟨t2, a1, b1⟩ := kx E ce q u t T'.heap (locs ++ L) e1.symm (by rw [← e2]; exact X'.warmed.alike) hp hb k1 k2 k3 (by rw [e1]; exact hce) hcv hcl T' rfl X'
    exact ⟨t2, st.trans a1, b1⟩
theorem vx_calld {S SX : Type} {post : UInt64 → S → Prop} {px : SX → Prop} {B : S → State → Prop} {BX : String → SX → State → Prop} {AX : Nat → Prop} (hr : vx_Run p l e R s m args below meth c H locs cells slots mc ms (F0 m pc ls st0) rest (va_Qd post B A1 a) (vx_X px BX AX) free) (hS : va_S A0 H0 H locs) (hA : ∀ q, q < H.size → A1 q → A0 q) (hf : ∀ q, free q → A0 q) (hAX : ∀ q, q < H.size → AX q → A0 q)
    (kx : ∀ (E : String) (ce : Cell) (q9 : Addr) (u : SX) (t : State) (H1 : Heap) (locs1 : List Loc), t.heap = H1 → s.vm.Alike t.vm → px u → BX E u t → H.size ≤ H1.size → (∀ q : Nat, q < H.size → ¬ AX q → H1[q]? = H[q]?) → va_S A0 H0 H1 locs1 → H1[q9]? = some ce → ce.vm = .none → s.vm.findClass E = some ce.cls → vx_W p l e R s m args below meth c H1 locs1 (cells + mc) (slots + ms) Q (F0 m pc ls rest) q9)
    (kk : ∀ (r : UInt64) (u : S) (t : State) (H1 : Heap) (locs1 : List Loc), t.heap = H1 → s.vm.Alike t.vm → post r u → B u t → H.size ≤ H1.size → (∀ q : Nat, q < H.size → ¬ A1 q → H1[q]? = H[q]?) → va_S A0 H0 H1 locs1 → W p l e R s m args below meth c H1 locs1 (cells + mc) (slots + ms) Q (F0 m (pc + 3) ls (.double r :: rest))) : W p l e R s m args below meth c H locs cells slots Q (F0 m pc ls st0) := by
  intro T hT X
  rcases hr T hT X with ⟨v, st₀, t, T', L, h0, X', hL, e1, e2, ⟨⟨r, u, hv, hp, hb⟩, hF⟩, st⟩ | ⟨q, st₀, t, T', L, E, ce, h0, X', hL, e1, e2, ⟨u, hp, hb, hF⟩, hce, hcv, hcl, st⟩
  · cases hv
    obtain ⟨k1, k2, k3⟩ := vx_keep h0 e1 hS hA hf hL hF
    obtain ⟨t2, a1, b1⟩ := kk r u t T'.heap (locs ++ L) e1.symm (by rw [← e2]; exact X'.warmed.alike) hp hb k1 k2 k3 T' rfl X'
    exact ⟨t2, st t2 a1, b1⟩
  · obtain ⟨k1, k2, k3⟩ := vx_keep h0 e1 hS hAX hf hL hF
    obtain ⟨t2, a1, b1⟩ := kx E ce q u t T'.heap (locs ++ L) e1.symm (by rw [← e2]; exact X'.warmed.alike) hp hb k1 k2 k3 (by rw [e1]; exact hce) hcv hcl T' rfl X'
    exact ⟨t2, st.trans a1, b1⟩
theorem vx_callv {S SX : Type} {post : S → Prop} {px : SX → Prop} {B : S → State → Prop} {BX : String → SX → State → Prop} {AX : Nat → Prop} (hr : vx_Run p l e R s m args below meth c H locs cells slots mc ms (F0 m pc ls st0) rest (va_Qv post B A1 a) (vx_X px BX AX) free) (hS : va_S A0 H0 H locs) (hA : ∀ q, q < H.size → A1 q → A0 q) (hf : ∀ q, free q → A0 q) (hAX : ∀ q, q < H.size → AX q → A0 q)
    (kx : ∀ (E : String) (ce : Cell) (q9 : Addr) (u : SX) (t : State) (H1 : Heap) (locs1 : List Loc), t.heap = H1 → s.vm.Alike t.vm → px u → BX E u t → H.size ≤ H1.size → (∀ q : Nat, q < H.size → ¬ AX q → H1[q]? = H[q]?) → va_S A0 H0 H1 locs1 → H1[q9]? = some ce → ce.vm = .none → s.vm.findClass E = some ce.cls → vx_W p l e R s m args below meth c H1 locs1 (cells + mc) (slots + ms) Q (F0 m pc ls rest) q9)
    (kk : ∀ (u : S) (t : State) (H1 : Heap) (locs1 : List Loc), t.heap = H1 → s.vm.Alike t.vm → post u → B u t → H.size ≤ H1.size → (∀ q : Nat, q < H.size → ¬ A1 q → H1[q]? = H[q]?) → va_S A0 H0 H1 locs1 → W p l e R s m args below meth c H1 locs1 (cells + mc) (slots + ms) Q (F0 m (pc + 3) ls (rest))) : W p l e R s m args below meth c H locs cells slots Q (F0 m pc ls st0) := by
  intro T hT X
  rcases hr T hT X with ⟨v, st₀, t, T', L, h0, X', hL, e1, e2, ⟨⟨u, hv, hp, hb⟩, hF⟩, st⟩ | ⟨q, st₀, t, T', L, E, ce, h0, X', hL, e1, e2, ⟨u, hp, hb, hF⟩, hce, hcv, hcl, st⟩
  · cases hv
    obtain ⟨k1, k2, k3⟩ := vx_keep h0 e1 hS hA hf hL hF
    obtain ⟨t2, a1, b1⟩ := kk u t T'.heap (locs ++ L) e1.symm (by rw [← e2]; exact X'.warmed.alike) hp hb k1 k2 k3 T' rfl X'
    exact ⟨t2, st t2 a1, b1⟩
  · obtain ⟨k1, k2, k3⟩ := vx_keep h0 e1 hS hAX hf hL hF
    obtain ⟨t2, a1, b1⟩ := kx E ce q u t T'.heap (locs ++ L) e1.symm (by rw [← e2]; exact X'.warmed.alike) hp hb k1 k2 k3 (by rw [e1]; exact hce) hcv hcl T' rfl X'
    exact ⟨t2, st.trans a1, b1⟩
/-- caught by the row x of this method's table; the rows ahead don't take it -/
theorem vx_catch {own name : String} {E : String} {ce : Cell} {q : Addr} (hown : s.vm.findClass own = some m.cls) (pre : List ExceptionTableEntry) (x : ExceptionTableEntry) (suf : List ExceptionTableEntry) (hsplit : c.exceptionTable.toList = pre ++ x :: suf)
    (hpass : ∀ z ∈ pre, covers z pc = false ∨ (z.catchType ≠ 0 ∧ ∃ nm : String, (Cond.classLink own z.catchType nm).before args s = true ∧ va_Nc E nm s)) (hx : covers x pc = true) (h0 : x.catchType ≠ 0)
    (hlink : (Cond.classLink own x.catchType name).before args s = true) (hcast : (Cond.castable E name).before args s = true) (hcell : H[q]? = some ce) (hv : ce.vm = .none) (hcl : s.vm.findClass E = some ce.cls)
    (kk : W p l e R s m args below meth c H locs cells slots Q (F0 m x.handlerPc ls [.ref q])) : vx_W p l e R s m args below meth c H locs cells slots Q (F0 m pc ls rest) q := by
  intro T hT X
  have hpl : e.platform.magicAccessors = ({} : Platform).magicAccessors := by rw [X.admits.platform]
  obtain ⟨c3, c4, hc3, hc4, hasg⟩ := Cond.castable_spec hcast
  cases Option.some.inj (hc3.symm.trans hcl)
  obtain ⟨c5, hc5, hcl5⟩ := Cond.classLink_spec hown hlink e.platform hpl
  cases Option.some.inj (hc4.symm.trans hc5)
  obtain ⟨vm', X', st⟩ := X.thenCaughtThrough q (g := F0 m pc ls rest) rfl (Steps.refl _) (by rw [hT]; exact hcell) (by rw [hv]; rfl) (by obtain ⟨k9, h9, -⟩ := Vm.findClass_spec hcl; exact ⟨k9, h9⟩) pre x suf hsplit
    (fun z hz => by
      rcases hpass z hz with h | ⟨hz0, nm, hl1, hn1⟩
      · exact Or.inl h
      · obtain ⟨c6, hc6, hcl6⟩ := Cond.classLink_spec hown hl1 e.platform hpl
        obtain ⟨a8, b8, h1, h2, h3⟩ := hn1
        cases Option.some.inj (h1.symm.trans hcl)
        cases Option.some.inj (h2.symm.trans hc6)
        exact Or.inr ⟨hz0, _, hcl6, h3⟩) hx (Or.inr ⟨h0, c4, hcl5, hasg⟩)
  obtain ⟨t, a1, b1⟩ := kk (T.setVm vm') hT X'
  exact ⟨t, st.trans a1, b1⟩
end Rows
section Ends
variable {p : Program} {l : Launch} {e : Env} {R : Room} {s : State} {m : MethodId} {args : Array Value} {below : List Frame} {meth : Method} {c : Code} {H : Heap} {locs : List Loc} {cells slots : Nat} {Q : State → Prop}
variable {mc ms : Nat} {free : Addr → Prop} {A0 A1 : Nat → Prop} {H0 : Heap} {a : Array Value} {ls : Array Slot} {st0 rest : List Value}
variable {Qc : Array Value → State → Outcome → State → Prop} {XC : String → State → State → Prop}
/-- what a body that may throw owes at its end -/
def vx_MQ (below : List Frame) (Qc : Array Value → State → Outcome → State → Prop) (XC : String → State → State → Prop) (a : Array Value) (s : State) (mc ms : Nat) (free : Addr → Prop) : State → Prop := fun t =>
  ∃ o, t.status = .running ∧ Ended t below o ∧ vx_Q Qc XC mc ms free a s o t
theorem vx_ret {g : JFrame} {mc ms : Nat} (k : W p l e R s m args below meth c H locs cells slots (MQ below Qc args s mc ms free) g) : W p l e R s m args below meth c H locs cells slots (vx_MQ below Qc XC args s mc ms free) g := by
  intro T hT X
  obtain ⟨t, a1, o, b1, b2, b3, b4⟩ := k T hT X
  exact ⟨t, a1, o, b1, b2, Or.inl ⟨b3, b4⟩⟩
/-- not caught here: it goes on to the caller -/
theorem vx_widen {g : JFrame} {q : Addr} {k n : Nat} (h1 : cells ≤ k) (h2 : slots ≤ n) (kk : vx_W p l e R s m args below meth c H locs k n Q g q) : vx_W p l e R s m args below meth c H locs cells slots Q g q := fun T hT X => kk T hT (stand_widen X h1 h2)
theorem vx_out {pc : Nat} {E : String} {ce : Cell} {q : Addr} {mc ms : Nat} (hout : ∀ x ∈ c.exceptionTable.toList, covers x pc = false) (hlocks : meth.locks = false) (hcell : H[q]? = some ce) (hv : ce.vm = .none) (hcl : s.vm.findClass E = some ce.cls)
    (hx : ∀ t : State, t.heap = H → s.vm.Alike t.vm → XC E s t) (hf : ∀ z ∈ locs, free z.base) (hc : cells ≤ mc) (hs : slots ≤ ms) :
    vx_W p l e R s m args below meth c H locs cells slots (vx_MQ below Qc XC args s mc ms free) (F0 m pc ls rest) q := by
  intro T hT X
  obtain ⟨st1, hrun, hend, hW, hsm⟩ := X.leaveThrown q (g := F0 m pc ls rest) rfl rfl rfl hout hlocks
  have hcell9 : (T.setFrames (.throwing q :: below)).heap[q]? = some ce := by
    show T.heap[q]? = some ce
    rw [hT]; exact hcell
  exact ⟨_, st1, .threw q, hrun, hend, Or.inr ⟨q, rfl, E, ce, locs, hx _ hT hW.alike, hcell9, hv, hcl, hW, hsm.mono hc hs, hf⟩⟩
theorem vx_frame {U : State} {k n : Nat} (h : s.sameButNew ({ U with vm := s.vm } : State) locs k n) : s.heap.size ≤ U.heap.size ∧ ∀ q : Nat, q < s.heap.size → (∀ z ∈ locs, z.base ≠ q) → U.heap[q]? = s.heap[q]? := by
  obtain ⟨-, h2, -, -, -, h6⟩ := h
  refine ⟨h2, fun q hq hz => ?_⟩
  obtain ⟨c9, e1, e2, e3, e4⟩ := h6 q _ (Array.getElem?_eq_getElem hq)
  have hs : c9.slots = (s.heap[q]).slots := Array.ext_getElem? fun i => e4 i fun hm => hz _ hm rfl
  have h9 : c9 = s.heap[q] := by
    rw [hs] at e2
    exact e2
  have e5 : U.heap[q]? = some c9 := e1
  rw [e5, h9, Array.getElem?_eq_getElem hq]
/-- the words of a throw but the four that speak of the heap -/
def vx_no (w : Cond) : Bool := decide (w ≠ .isRef (.static Bundle.tN "UNASSIGNED_STACK" Bundle.steD)) && decide (w ≠ .isRef (.static Bundle.tN "SUPPRESSED_SENTINEL" Bundle.listD)) && decide (w ≠ .laysStatic Bundle.tN "UNASSIGNED_STACK" Bundle.steD) && decide (w ≠ .laysStatic Bundle.tN "SUPPRESSED_SENTINEL" Bundle.listD)
def vx_at0 (own : String) (ic : Nat) (X : String) (names : List String) : List Cond := (Bundle.ownAtoms0 own ic X names).filter vx_no
def vx_atS (own : String) (ic : Nat) (X : String) (names : List String) : List Cond := (Bundle.ownAtoms own ic X names).filter vx_no
/-- a word that the tables alone decide, or a good one -/
def vx_ot (w : Cond) : Bool := w.onTables || goodWord w
theorem vx_ot_at {args a' : Array Value} {s U : State} {w : Cond} (hW : s.WarmedH U.vm) (hvm : s.vm = U.vm) (hg : vx_ot w = true) (h : w.before args s = true) : w.before a' U = true := by
  simp only [vx_ot, Bool.or_eq_true] at hg
  rcases hg with hg | hg
  · exact va_tabs hg hvm h
  · exact word_at hW (good_of_word hg) h
/-- a list's words: the good ones out of the method's own list, the others by premises of their own -/
theorem vx_hat {args : Array Value} {s : State} {L B : List Cond} (h1 : ∀ w ∈ L.filter goodWord, w.before args s = true) (h2 : ∀ w ∈ L.filter (fun w => !goodWord w), w ∈ B) (h3 : ∀ w ∈ B, w.before args s = true) : ∀ w ∈ L, w.before args s = true := by
  intro w hw
  by_cases g : goodWord w = true
  · exact h1 w (List.mem_filter.mpr ⟨hw, g⟩)
  · refine h3 w (h2 w (List.mem_filter.mpr ⟨hw, ?_⟩))
    show (!goodWord w) = true
    cases hgw : goodWord w
    · rfl
    · exact absurd hgw g
theorem vx_c {args : Array Value} {s : State} {w : Cond} {B : List Cond} (h : w.before args s = true) (t : ∀ w ∈ B, w.before args s = true) : ∀ w' ∈ w :: B, w'.before args s = true := fun w' h' => (List.mem_cons.mp h').elim (fun e => by rw [e]; exact h) (t w')
theorem vx_n {args : Array Value} {s : State} : ∀ w ∈ ([] : List Cond), w.before args s = true := fun _ h => nomatch h
theorem vx_own {args : Array Value} {s : State} {L : List Cond} (h1 : ∀ w ∈ L.filter vx_no, w.before args s = true)
    (hU : (Cond.isRef (.static Bundle.tN "UNASSIGNED_STACK" Bundle.steD)).before args s = true) (hN : (Cond.isRef (.static Bundle.tN "SUPPRESSED_SENTINEL" Bundle.listD)).before args s = true)
    (lU : (Cond.laysStatic Bundle.tN "UNASSIGNED_STACK" Bundle.steD).before args s = true) (lN : (Cond.laysStatic Bundle.tN "SUPPRESSED_SENTINEL" Bundle.listD).before args s = true) : ∀ w ∈ L, w.before args s = true := by
  intro w hw
  by_cases e1 : w = .isRef (.static Bundle.tN "UNASSIGNED_STACK" Bundle.steD)
  · rw [e1]; exact hU
  · by_cases e2 : w = .isRef (.static Bundle.tN "SUPPRESSED_SENTINEL" Bundle.listD)
    · rw [e2]; exact hN
    · by_cases e3 : w = .laysStatic Bundle.tN "UNASSIGNED_STACK" Bundle.steD
      · rw [e3]; exact lU
      · by_cases e4 : w = .laysStatic Bundle.tN "SUPPRESSED_SENTINEL" Bundle.listD
        · rw [e4]; exact lN
        · exact h1 w (List.mem_filter.mpr ⟨hw, by unfold vx_no; rw [decide_eq_true e1, decide_eq_true e2, decide_eq_true e3, decide_eq_true e4]; rfl⟩)
/-- where a static field lies, its class's statics cell in H -/
def vx_L (C n d : String) (A : Nat → Prop) (U : State) (H : Heap) : Prop := ∃ (c : ClassId) (k : Class) (i : Nat) (f : Field) (a : Nat) (cell : Cell), U.vm.findClass C = some c ∧ U.fieldFound? C n d = some (c, k, i, f) ∧ f.isStatic = true ∧ k.statics = some a ∧ H[a]? = some cell ∧ cell.vm.isStatics = true ∧ cell.cls = c ∧ f.slot < cell.slots.size ∧ k.staticTypes[f.slot]? = some f.type ∧ ¬ A a
theorem vx_L.moved {C n d : String} {A : Nat → Prop} {u U : State} {H : Heap} (hvm : u.vm.Alike U.vm) (h : vx_L C n d A u H) : vx_L C n d A U H := by
  obtain ⟨c, k, i, f, a, cell, h1, h2, h3, h4, h5, h6, h7, h8, h9, h10⟩ := h
  obtain ⟨k', hi', he⟩ := State.fieldFound?_setVm hvm h2
  exact ⟨c, k', i, f, a, cell, by rw [hvm.findClass]; exact h1, hi', h3, by rw [he]; exact h4, h5, h6, h7, h8, by rw [he]; exact h9, h10⟩
theorem vx_L.kept {C n d : String} {A : Nat → Prop} {U : State} {H H1 : Heap} (h : vx_L C n d A U H) (hq : ∀ a : Nat, a < H.size → ¬ A a → H1[a]? = H[a]?) : vx_L C n d A U H1 := by
  obtain ⟨c, k, i, f, a, cell, h1, h2, h3, h4, h5, h6, h7, h8, h9, h10⟩ := h
  exact ⟨c, k, i, f, a, cell, h1, h2, h3, h4, by rw [hq a (Array.getElem?_eq_some_iff.mp h5).1 h10]; exact h5, h6, h7, h8, h9, h10⟩
theorem vx_L.narrow {C n d : String} {A B : Nat → Prop} {U : State} {H : Heap} (h : vx_L C n d A U H) (hAB : ∀ q, B q → A q) : vx_L C n d B U H := by
  obtain ⟨c, k, i, f, a, cell, h1, h2, h3, h4, h5, h6, h7, h8, h9, h10⟩ := h
  exact ⟨c, k, i, f, a, cell, h1, h2, h3, h4, h5, h6, h7, h8, h9, fun z => h10 (hAB _ z)⟩
theorem vx_L.word {C n d : String} {A : Nat → Prop} {s : State} {args : Array Value} (h : vx_L C n d A s s.heap) : (Cond.laysStatic C n d).before args s = true := by
  obtain ⟨c, k, i, f, a, cell, h1, h2, h3, h4, h5, h6, h7, h8, h9, -⟩ := h
  show (Cond.laysStatic C n d).holds args s none s [] = true
  exact Cond.laysStatic_of h1 h2 h3 h4 h5 h6 h7 h8 h9
/-- .. and what it holds: null or some reference -/
def vx_Zq (C n d : String) (A : Nat → Prop) (U : State) (H : Heap) : Prop := va_Zq C n d A U H ∧ vx_L C n d A U H
theorem vx_Zq.moved {C n d : String} {A : Nat → Prop} {u U : State} {H : Heap} (hvm : u.vm.Alike U.vm) (h : vx_Zq C n d A u H) : vx_Zq C n d A U H := ⟨va_Zq.moved hvm h.1, vx_L.moved hvm h.2⟩
theorem vx_Zq.kept {C n d : String} {A : Nat → Prop} {U : State} {H H1 : Heap} (h : vx_Zq C n d A U H) (hq : ∀ a : Nat, a < H.size → ¬ A a → H1[a]? = H[a]?) : vx_Zq C n d A U H1 := ⟨va_Zq.kept h.1 hq, vx_L.kept h.2 hq⟩
theorem vx_Zq.narrow {C n d : String} {A B : Nat → Prop} {U : State} {H : Heap} (h : vx_Zq C n d A U H) (hAB : ∀ q, B q → A q) : vx_Zq C n d B U H := ⟨va_Zq.narrow h.1 hAB, vx_L.narrow h.2 hAB⟩
theorem vx_Zqof {args : Array Value} {s : State} {C n d : String} {A : Nat → Prop} (hl : (Cond.laysStatic C n d).before args s = true) (hini : (Cond.initialized C).before args s = true) (h : (Cond.isRef (.static C n d)).before args s = true) (hA : ∀ a : Nat, a < s.heap.size → ¬ A a) : vx_Zq C n d A s s.heap := by
  refine ⟨va_Zqof hl hini h hA, ?_⟩
  obtain ⟨c, k, i, f, a, cell, h1, h2, h3, h4, h5, h6, h7, h8, h9⟩ := Cond.laysStatic_spec hl
  exact ⟨c, k, i, f, a, cell, h1, h2, h3, h4, h5, h6, h7, h8, h9, hA a (Array.getElem?_eq_some_iff.mp h5).1⟩
theorem vx_isRef {C n d : String} {v : Value} {A : Nat → Prop} {s : State} {args : Array Value} (h : va_Z C n d v A s s.heap) (hv : v.isRef = true) : (Cond.isRef (.static C n d)).before args s = true := by
  obtain ⟨cf, kf, fi, f, a, cell, h1, h2, h3, h4, h5, h6, h7, -⟩ := h
  have he : (Term.static C n d).eval args s none [] s = some v := by
    simp [Term.eval, State.fieldNamed?, h1, h2, h4, h5, h6, h7]
  simp only [Cond.before, Cond.holds, Cond.value, he]
  cases v <;> simp_all [Value.isRef]
theorem vx_isRefq {C n d : String} {A : Nat → Prop} {s : State} {args : Array Value} (h : va_Zq C n d A s s.heap) : (Cond.isRef (.static C n d)).before args s = true := by
  rcases h with h | ⟨t, h⟩
  · exact vx_isRef h rfl
  · exact vx_isRef h rfl
/-- the same frame, seen from here: as if the method were called anew in this heap -/
theorem vx_rebase {T : State} (X : Stand p l e R s m args below meth c T locs cells slots) {R' : Room} (hf : R'.frames ≤ R.frames) (hl : R'.locals ≤ R.locals) (hc : cells + R'.cells ≤ R.cells) (hs : slots + R'.slots ≤ R.slots) :
    Stand p l e R' ((T.setVm s.vm).setFrames (.invoking m args :: below)) m args below meth c T [] 0 0 := by
  have htop : (T.setVm s.vm).topJava?.isSome := X.here.top
  have hF : ((T.setVm s.vm).setFrames (.invoking m args :: below)).frames = .invoking m args :: below := State.frames_setFrames _ (State.cur_lt_of_top htop)
  obtain ⟨g₀, hg0⟩ := Option.isSome_iff_exists.mp htop
  obtain ⟨r, hr⟩ := State.topJava?_eq_some.mp hg0
  have hl9 : e.platform.stackLimits (T.setVm s.vm).me = e.platform.stackLimits s.me := X.limits
  have hb9 : (T.setVm s.vm).me.stackBytes = s.me.stackBytes := X.bytes
  refine ⟨X.admits, X.cas, X.clock, hF, ?_, X.hears, X.method, X.code, X.here, X.tail, X.warmed, ?_, ?_, ?_⟩
  · have h := X.room
    have hU : ((T.setVm s.vm).setFrames (.invoking m args :: below)).localsInUse = s.localsInUse := by
      rw [State.localsInUse_invoking hF (meth := meth) (c := c) X.method X.code, State.localsInUse_invoking X.frames X.method X.code]
    simp only [State.hasRoom, Bool.and_eq_true, decide_eq_true_eq] at h ⊢
    obtain ⟨⟨⟨⟨h1, h2, h3, h4, h5, h6⟩, h7⟩, h8⟩, h9⟩ := h
    rw [X.frames, List.length_cons] at h2 h3
    have q1 := X.heapSize
    have q2 := X.used
    simp only [hF, hU, List.length_cons, State.stackLimits_setFrames, State.stackBytes_setFrames, hl9, hb9]
    refine ⟨⟨⟨⟨by omega, by omega, by omega, by omega, by omega, h6⟩, ?_⟩, ?_⟩, X.book⟩
    · show T.heap.size + R'.cells ≤ e.platform.maxCells
      omega
    · show T.slotsUsed + R'.slots ≤ e.platform.maxSlots
      omega
  · rw [State.stackLimits_setFrames]; rfl
  · rw [State.stackBytes_setFrames]; rfl
  · refine ⟨?_, Nat.le_refl _, Nat.le_refl _, ?_, ?_, fun a c9 h9 => ⟨c9, h9, rfl, rfl, fun _ _ => rfl⟩⟩
    · obtain ⟨t, ht, -⟩ := State.frames_cons hr
      show T.setVm s.vm = { ((T.setVm s.vm).setFrames (.invoking m args :: below)).setFrames (T.setVm s.vm).frames with heap := T.heap, slotsUsed := T.slotsUsed }
      rw [State.setFrames_setFrames, State.setFrames_self ht]
      rfl
    · show T.slotsUsed = T.slotsUsed + ((T.heap.toList.drop T.heap.size).map (·.slots.size)).sum
      rw [List.drop_eq_nil_of_le (Nat.le_of_eq Array.length_toList)]
      rfl
    · show ((T.heap.toList.drop T.heap.size).map (·.slots.size)).sum ≤ 0
      rw [List.drop_eq_nil_of_le (Nat.le_of_eq Array.length_toList)]
      exact Nat.le_refl _
/-- 'throw new E()': new; dup; invokespecial; athrow -/
theorem vx_throw0 {cc : ByteArray} {pc : Nat} (hexec : p.tables.exec = Jvm.exec) (hb : c.code = cc) (hl : l.stackTraces = false) {own cls : String} {names : List String} {ik ic mc ms : Nat} {A : Nat → Prop}
    (hown : s.vm.findClass own = some m.cls) (hcls : Bundle.fit cls = true) (hnames : ∀ n ∈ names, Bundle.fit n = true)
    (hk : (Cond.classLink own ik cls).before args s = true) (hini : (Cond.initialized cls).before args s = true) (hat : ∀ w ∈ vx_at0 own ic cls names, w.before args s = true)
    (hgood : ∀ w ∈ Cond.classLink own ik cls :: Cond.initialized cls :: vx_at0 own ic cls names, vx_ot w = true)
    (hU : vx_Zq Bundle.tN "UNASSIGNED_STACK" Bundle.steD A s s.heap) (hN : vx_Zq Bundle.tN "SUPPRESSED_SENTINEL" Bundle.listD A s s.heap) (hS : va_S A s.heap H locs) (hsize : ls.size = c.maxLocals)
    (d0 : decode cc pc = .ok (.new ik, 3)) (d3 : decode cc (pc + 3) = .ok (.dup, 1)) (d4 : decode cc (pc + 4) = .ok (.invokespecial ic, 3)) (d7 : decode cc (pc + 7) = .ok (.athrow, 1))
    (hout : ∀ x ∈ c.exceptionTable.toList, covers x (pc + 7) = false)
    (hRframes : names.length + 3 < R.frames) (hRlocals : (rest.map fun v => v.category).sum + (13 * (names.length + 1) + 42) ≤ R.locals) (hRcells : cells + 1 ≤ R.cells) (hRslots : slots + 6 ≤ R.slots) (hlocks : meth.locks = false)
    (hx : ∀ t : State, s.vm.Alike t.vm → H.size ≤ t.heap.size → (∀ q : Nat, q < H.size → t.heap[q]? = H[q]?) → XC cls s t)
    (hf : ∀ z ∈ locs, free z.base) (hc : cells + 1 ≤ mc) (hs : slots + 6 ≤ ms) :
    W p l e R s m args below meth c H locs cells slots (vx_MQ below Qc XC args s mc ms free) (F0 m pc ls rest) := by
  intro T hT X
  have htr : e.platform.stackTraces = false := (show e.platform.stackTraces = l.stackTraces by rw [X.admits.platform]).trans hl
  have Y := vx_rebase X (R' := { frames := R.frames, locals := R.locals, cells := 1, slots := 6 }) (Nat.le_refl _) (Nat.le_refl _) hRcells hRslots
  obtain ⟨s', hA⟩ : ∃ z, z = (T.setVm s.vm).setFrames (.invoking m args :: below) := ⟨_, rfl⟩
  rw [← hA] at Y
  have hvm : s'.vm = s.vm := by rw [hA]; rfl
  have hhp : s'.heap = H := by rw [hA]; exact hT
  have hW0 : s.WarmedH s'.vm := by rw [hvm]; exact State.WarmedH.refl s
  have hat' : ∀ w ∈ vx_at0 own ic cls names, w.before args s' = true := fun w hw => vx_ot_at hW0 hvm.symm (hgood w (List.mem_cons_of_mem _ (List.mem_cons_of_mem _ hw))) (hat w hw)
  have hk' : (Cond.classLink own ik cls).before args s' = true := vx_ot_at hW0 hvm.symm (hgood _ List.mem_cons_self) hk
  have hini' : (Cond.initialized cls).before args s' = true := vx_ot_at hW0 hvm.symm (hgood _ (List.mem_cons_of_mem _ List.mem_cons_self)) hini
  have hU' : vx_Zq Bundle.tN "UNASSIGNED_STACK" Bundle.steD A s' s'.heap := by rw [hhp]; exact vx_Zq.moved hW0.alike (hU.kept hS.2.1)
  have hN' : vx_Zq Bundle.tN "SUPPRESSED_SENTINEL" Bundle.listD A s' s'.heap := by rw [hhp]; exact vx_Zq.moved hW0.alike (hN.kept hS.2.1)
  have h : ∀ w ∈ Bundle.ownAtoms0 own ic cls names, w.before args s' = true := vx_own hat' (vx_isRefq hU'.1) (vx_isRefq hN'.1) hU'.2.word hN'.2.word
  have hown' : s'.vm.findClass own = some m.cls := by rw [hvm]; exact hown
  have hins : (Cond.instantiable cls 6).before args s' = true := h _ (by simp [Bundle.ownAtoms0])
  obtain ⟨vm₁, cX, kX, hfX, hkX, -, -, X₁, st1⟩ := Y.newCold hexec (own := own) (C := cls) (index := ik) (n := 6) hown' hk' hins hini'
    (g := F0 m pc ls rest) rfl (by rw [hb]; exact d0) (Nat.le_refl _) (Nat.le_refl _)
  generalize hT1 : (T.setVm vm₁).pushCell { cls := cX, slots := kX.instanceTypes.map defaultValue, vm := .none } = T1 at X₁ st1
  have hcat : (Value.ref T.heap.size).category = 1 := rfl
  have hcellA : T1.heap[T.heap.size]? = some (freshCell cX kX) := by rw [← hT1]; exact State.heap_pushCell_size _ _
  have d3' : decode c.code (pc + 3) = .ok (.dup, 1) := by rw [hb]; exact d3
  obtain ⟨U, hsteps, hrun, hend, hW, hsame, ce, hce, hO⟩ := X₁.ctorThrow0 hexec htr (own := own) (cls := cls) (names := names) (ic := ic) hown' hcls hnames h (fun x hx => nomatch hx) hfX hkX hcellA (by rw [hhp, hT]; exact Nat.le_refl _)
    (g := { method := m, pc := pc + 4, locals := ls, stack := .ref T.heap.size :: .ref T.heap.size :: rest, locked := none }) rfl hsize rfl rfl (rest := rest) rfl
    (by rw [hb]; exact d4) (by rw [hb]; exact d7) hout hRframes (by simp only [List.map_cons, List.sum_cons, hcat]; omega) hlocks
  obtain ⟨f1, f2⟩ := vx_frame hsame
  rw [hhp] at f1 f2
  have hWs : s.WarmedH U.vm := State.WarmedH.trans hW0 hW
  have hcl : s.vm.findClass cls = some ce.cls := by
    have h9 := hO.cls
    rw [hvm] at h9
    exact h9
  have hall : s.sameButNew ({ U with vm := s.vm } : State) locs mc ms := by
    subst hA
    obtain ⟨e1, e2⟩ := hsame
    rw [State.setFrames_setFrames] at e1
    have h2 : (T.setVm s.vm).sameButNew ({ U with vm := s.vm } : State) [] (0 + 1) (0 + 6) := ⟨e1, e2⟩
    have h3 := X.same.trans h2
    rw [List.append_nil] at h3
    exact h3.mono hc hs
  refine ⟨U, ?_, .threw T.heap.size, hrun, hend, Or.inr ⟨T.heap.size, rfl, cls, ce, locs, hx U hWs.alike f1 (fun q hq => f2 q hq (fun z hz => nomatch hz)), hce, hO.vm, hcl, hWs, hall, hf⟩⟩
  refine st1 _ ?_
  show Steps p.tables e below (T1.setTop { method := m, pc := pc + 3, locals := ls, stack := .ref T.heap.size :: rest, locked := none }) _
  jvm_step X₁.here [X₁.here.top, hexec, d3', Value.category]
  exact hsteps
/-- 'throw new E("text")': new; dup; ldc; invokespecial; athrow -/
theorem vx_throwS {cc : ByteArray} {pc : Nat} (hexec : p.tables.exec = Jvm.exec) (hb : c.code = cc) (hl : l.stackTraces = false) {own cls text : String} {names : List String} {ik is ic mc ms sa : Nat} {A : Nat → Prop}
    (hown : s.vm.findClass own = some m.cls) (hcls : Bundle.fit cls = true) (hnames : ∀ n ∈ names, Bundle.fit n = true)
    (hk : (Cond.classLink own ik cls).before args s = true) (hini : (Cond.initialized cls).before args s = true) (hstr : vk_R own is text sa s) (hat : ∀ w ∈ vx_atS own ic cls names, w.before args s = true)
    (hgood : ∀ w ∈ Cond.classLink own ik cls :: Cond.initialized cls :: vx_atS own ic cls names, vx_ot w = true)
    (hU : vx_Zq Bundle.tN "UNASSIGNED_STACK" Bundle.steD A s s.heap) (hN : vx_Zq Bundle.tN "SUPPRESSED_SENTINEL" Bundle.listD A s s.heap) (hS : va_S A s.heap H locs) (hsize : ls.size = c.maxLocals)
    (d0 : decode cc pc = .ok (.new ik, 3)) (d3 : decode cc (pc + 3) = .ok (.dup, 1)) (d4 : decode cc (pc + 4) = .ok (.ldc is, 2)) (d6 : decode cc (pc + 6) = .ok (.invokespecial ic, 3)) (d9 : decode cc (pc + 9) = .ok (.athrow, 1))
    (hout : ∀ x ∈ c.exceptionTable.toList, covers x (pc + 9) = false)
    (hRframes : names.length + 3 < R.frames) (hRlocals : (rest.map fun v => v.category).sum + (13 * (names.length + 1) + 43) ≤ R.locals) (hRcells : cells + 1 ≤ R.cells) (hRslots : slots + 6 ≤ R.slots) (hlocks : meth.locks = false)
    (hx : ∀ t : State, s.vm.Alike t.vm → H.size ≤ t.heap.size → (∀ q : Nat, q < H.size → t.heap[q]? = H[q]?) → XC cls s t)
    (hf : ∀ z ∈ locs, free z.base) (hc : cells + 1 ≤ mc) (hs : slots + 6 ≤ ms) :
    W p l e R s m args below meth c H locs cells slots (vx_MQ below Qc XC args s mc ms free) (F0 m pc ls rest) := by
  intro T hT X
  have htr : e.platform.stackTraces = false := (show e.platform.stackTraces = l.stackTraces by rw [X.admits.platform]).trans hl
  have Y := vx_rebase X (R' := { frames := R.frames, locals := R.locals, cells := 1, slots := 6 }) (Nat.le_refl _) (Nat.le_refl _) hRcells hRslots
  obtain ⟨s', hA⟩ : ∃ z, z = (T.setVm s.vm).setFrames (.invoking m args :: below) := ⟨_, rfl⟩
  rw [← hA] at Y
  have hvm : s'.vm = s.vm := by rw [hA]; rfl
  have hhp : s'.heap = H := by rw [hA]; exact hT
  have hW0 : s.WarmedH s'.vm := by rw [hvm]; exact State.WarmedH.refl s
  have hat' : ∀ w ∈ vx_atS own ic cls names, w.before args s' = true := fun w hw => vx_ot_at hW0 hvm.symm (hgood w (List.mem_cons_of_mem _ (List.mem_cons_of_mem _ hw))) (hat w hw)
  have hk' : (Cond.classLink own ik cls).before args s' = true := vx_ot_at hW0 hvm.symm (hgood _ List.mem_cons_self) hk
  have hini' : (Cond.initialized cls).before args s' = true := vx_ot_at hW0 hvm.symm (hgood _ (List.mem_cons_of_mem _ List.mem_cons_self)) hini
  have hU' : vx_Zq Bundle.tN "UNASSIGNED_STACK" Bundle.steD A s' s'.heap := by rw [hhp]; exact vx_Zq.moved hW0.alike (hU.kept hS.2.1)
  have hN' : vx_Zq Bundle.tN "SUPPRESSED_SENTINEL" Bundle.listD A s' s'.heap := by rw [hhp]; exact vx_Zq.moved hW0.alike (hN.kept hS.2.1)
  have h : ∀ w ∈ Bundle.ownAtoms own ic cls names, w.before args s' = true := vx_own hat' (vx_isRefq hU'.1) (vx_isRefq hN'.1) hU'.2.word hN'.2.word
  have hown' : s'.vm.findClass own = some m.cls := by rw [hvm]; exact hown
  have hins : (Cond.instantiable cls 6).before args s' = true := h _ (by simp [Bundle.ownAtoms])
  obtain ⟨vm₁, cX, kX, hfX, hkX, -, -, X₁, st1⟩ := Y.newCold hexec (own := own) (C := cls) (index := ik) (n := 6) hown' hk' hins hini'
    (g := F0 m pc ls rest) rfl (by rw [hb]; exact d0) (Nat.le_refl _) (Nat.le_refl _)
  generalize hT1 : (T.setVm vm₁).pushCell { cls := cX, slots := kX.instanceTypes.map defaultValue, vm := .none } = T1 at X₁ st1
  have hcat : (Value.ref T.heap.size).category = 1 := rfl
  have hcellA : T1.heap[T.heap.size]? = some (freshCell cX kX) := by rw [← hT1]; exact State.heap_pushCell_size _ _
  have d3' : decode c.code (pc + 3) = .ok (.dup, 1) := by rw [hb]; exact d3
  have d4' : decode c.code (pc + 4) = .ok (.ldc is, 2) := by rw [hb]; exact d4
  have hstr' : vk_R own is text sa s' := vk_R.warm hW0 hstr
  obtain ⟨U, hsteps, hrun, hend, hW, hsame, ce, hce, hO⟩ := X₁.ctorThrowS hexec htr (own := own) (cls := cls) (names := names) (ic := ic) hown' hcls hnames h (fun x hx => nomatch hx) hfX hkX hcellA (by rw [hhp, hT]; exact Nat.le_refl _) (msg := .ref sa) rfl
    (g := { method := m, pc := pc + 6, locals := ls, stack := .ref sa :: .ref T.heap.size :: .ref T.heap.size :: rest, locked := none }) rfl hsize rfl rfl (rest := rest) rfl
    (by rw [hb]; exact d6) (by rw [hb]; exact d9) hout hRframes (by simp only [List.map_cons, List.sum_cons, hcat]; omega) hlocks
  obtain ⟨f1, f2⟩ := vx_frame hsame
  rw [hhp] at f1 f2
  have hWs : s.WarmedH U.vm := State.WarmedH.trans hW0 hW
  have hcl : s.vm.findClass cls = some ce.cls := by
    have h9 := hO.cls
    rw [hvm] at h9
    exact h9
  have hall : s.sameButNew ({ U with vm := s.vm } : State) locs mc ms := by
    subst hA
    obtain ⟨e1, e2⟩ := hsame
    rw [State.setFrames_setFrames] at e1
    have h2 : (T.setVm s.vm).sameButNew ({ U with vm := s.vm } : State) [] (0 + 1) (0 + 6) := ⟨e1, e2⟩
    have h3 := X.same.trans h2
    rw [List.append_nil] at h3
    exact h3.mono hc hs
  refine ⟨U, ?_, .threw T.heap.size, hrun, hend, Or.inr ⟨T.heap.size, rfl, cls, ce, locs, hx U hWs.alike f1 (fun q hq => f2 q hq (fun z hz => nomatch hz)), hce, hO.vm, hcl, hWs, hall, hf⟩⟩
  refine st1 _ ?_
  show Steps p.tables e below (T1.setTop { method := m, pc := pc + 3, locals := ls, stack := .ref T.heap.size :: rest, locked := none }) _
  jvm_step X₁.here [X₁.here.top, hexec, d3', Value.category]
  exact X₁.ldcString hexec (own := own) (text := text) (index := is) (a := sa) hown' hstr'.1 hstr'.2
    (g := { method := m, pc := pc + 4, locals := ls, stack := .ref T.heap.size :: .ref T.heap.size :: rest, locked := none }) rfl d4' _ hsteps
/-- 'throw new E("text")', the text by a wide index -/
theorem vx_throwSW {cc : ByteArray} {pc : Nat} (hexec : p.tables.exec = Jvm.exec) (hb : c.code = cc) (hl : l.stackTraces = false) {own cls text : String} {names : List String} {ik is ic mc ms sa : Nat} {A : Nat → Prop}
    (hown : s.vm.findClass own = some m.cls) (hcls : Bundle.fit cls = true) (hnames : ∀ n ∈ names, Bundle.fit n = true)
    (hk : (Cond.classLink own ik cls).before args s = true) (hini : (Cond.initialized cls).before args s = true) (hstr : vk_R own is text sa s) (hat : ∀ w ∈ vx_atS own ic cls names, w.before args s = true)
    (hgood : ∀ w ∈ Cond.classLink own ik cls :: Cond.initialized cls :: vx_atS own ic cls names, vx_ot w = true)
    (hU : vx_Zq Bundle.tN "UNASSIGNED_STACK" Bundle.steD A s s.heap) (hN : vx_Zq Bundle.tN "SUPPRESSED_SENTINEL" Bundle.listD A s s.heap) (hS : va_S A s.heap H locs) (hsize : ls.size = c.maxLocals)
    (d0 : decode cc pc = .ok (.new ik, 3)) (d3 : decode cc (pc + 3) = .ok (.dup, 1)) (d4 : decode cc (pc + 4) = .ok (.ldc_w is, 3)) (d7 : decode cc (pc + 7) = .ok (.invokespecial ic, 3)) (d10 : decode cc (pc + 10) = .ok (.athrow, 1))
    (hout : ∀ x ∈ c.exceptionTable.toList, covers x (pc + 10) = false)
    (hRframes : names.length + 3 < R.frames) (hRlocals : (rest.map fun v => v.category).sum + (13 * (names.length + 1) + 43) ≤ R.locals) (hRcells : cells + 1 ≤ R.cells) (hRslots : slots + 6 ≤ R.slots) (hlocks : meth.locks = false)
    (hx : ∀ t : State, s.vm.Alike t.vm → H.size ≤ t.heap.size → (∀ q : Nat, q < H.size → t.heap[q]? = H[q]?) → XC cls s t)
    (hf : ∀ z ∈ locs, free z.base) (hc : cells + 1 ≤ mc) (hs : slots + 6 ≤ ms) :
    W p l e R s m args below meth c H locs cells slots (vx_MQ below Qc XC args s mc ms free) (F0 m pc ls rest) := by
  intro T hT X
  have htr : e.platform.stackTraces = false := (show e.platform.stackTraces = l.stackTraces by rw [X.admits.platform]).trans hl
  have Y := vx_rebase X (R' := { frames := R.frames, locals := R.locals, cells := 1, slots := 6 }) (Nat.le_refl _) (Nat.le_refl _) hRcells hRslots
  obtain ⟨s', hA⟩ : ∃ z, z = (T.setVm s.vm).setFrames (.invoking m args :: below) := ⟨_, rfl⟩
  rw [← hA] at Y
  have hvm : s'.vm = s.vm := by rw [hA]; rfl
  have hhp : s'.heap = H := by rw [hA]; exact hT
  have hW0 : s.WarmedH s'.vm := by rw [hvm]; exact State.WarmedH.refl s
  have hat' : ∀ w ∈ vx_atS own ic cls names, w.before args s' = true := fun w hw => vx_ot_at hW0 hvm.symm (hgood w (List.mem_cons_of_mem _ (List.mem_cons_of_mem _ hw))) (hat w hw)
  have hk' : (Cond.classLink own ik cls).before args s' = true := vx_ot_at hW0 hvm.symm (hgood _ List.mem_cons_self) hk
  have hini' : (Cond.initialized cls).before args s' = true := vx_ot_at hW0 hvm.symm (hgood _ (List.mem_cons_of_mem _ List.mem_cons_self)) hini
  have hU' : vx_Zq Bundle.tN "UNASSIGNED_STACK" Bundle.steD A s' s'.heap := by rw [hhp]; exact vx_Zq.moved hW0.alike (hU.kept hS.2.1)
  have hN' : vx_Zq Bundle.tN "SUPPRESSED_SENTINEL" Bundle.listD A s' s'.heap := by rw [hhp]; exact vx_Zq.moved hW0.alike (hN.kept hS.2.1)
  have h : ∀ w ∈ Bundle.ownAtoms own ic cls names, w.before args s' = true := vx_own hat' (vx_isRefq hU'.1) (vx_isRefq hN'.1) hU'.2.word hN'.2.word
  have hown' : s'.vm.findClass own = some m.cls := by rw [hvm]; exact hown
  have hins : (Cond.instantiable cls 6).before args s' = true := h _ (by simp [Bundle.ownAtoms])
  obtain ⟨vm₁, cX, kX, hfX, hkX, -, -, X₁, st1⟩ := Y.newCold hexec (own := own) (C := cls) (index := ik) (n := 6) hown' hk' hins hini'
    (g := F0 m pc ls rest) rfl (by rw [hb]; exact d0) (Nat.le_refl _) (Nat.le_refl _)
  generalize hT1 : (T.setVm vm₁).pushCell { cls := cX, slots := kX.instanceTypes.map defaultValue, vm := .none } = T1 at X₁ st1
  have hcat : (Value.ref T.heap.size).category = 1 := rfl
  have hcellA : T1.heap[T.heap.size]? = some (freshCell cX kX) := by rw [← hT1]; exact State.heap_pushCell_size _ _
  have d3' : decode c.code (pc + 3) = .ok (.dup, 1) := by rw [hb]; exact d3
  have d4' : decode c.code (pc + 4) = .ok (.ldc_w is, 3) := by rw [hb]; exact d4
  have hstr' : vk_R own is text sa s' := vk_R.warm hW0 hstr
  obtain ⟨U, hsteps, hrun, hend, hW, hsame, ce, hce, hO⟩ := X₁.ctorThrowS hexec htr (own := own) (cls := cls) (names := names) (ic := ic) hown' hcls hnames h (fun x hx => nomatch hx) hfX hkX hcellA (by rw [hhp, hT]; exact Nat.le_refl _) (msg := .ref sa) rfl
    (g := { method := m, pc := pc + 7, locals := ls, stack := .ref sa :: .ref T.heap.size :: .ref T.heap.size :: rest, locked := none }) rfl hsize rfl rfl (rest := rest) rfl
    (by rw [hb]; exact d7) (by rw [hb]; exact d10) hout hRframes (by simp only [List.map_cons, List.sum_cons, hcat]; omega) hlocks
  obtain ⟨f1, f2⟩ := vx_frame hsame
  rw [hhp] at f1 f2
  have hWs : s.WarmedH U.vm := State.WarmedH.trans hW0 hW
  have hcl : s.vm.findClass cls = some ce.cls := by
    have h9 := hO.cls
    rw [hvm] at h9
    exact h9
  have hall : s.sameButNew ({ U with vm := s.vm } : State) locs mc ms := by
    subst hA
    obtain ⟨e1, e2⟩ := hsame
    rw [State.setFrames_setFrames] at e1
    have h2 : (T.setVm s.vm).sameButNew ({ U with vm := s.vm } : State) [] (0 + 1) (0 + 6) := ⟨e1, e2⟩
    have h3 := X.same.trans h2
    rw [List.append_nil] at h3
    exact h3.mono hc hs
  refine ⟨U, ?_, .threw T.heap.size, hrun, hend, Or.inr ⟨T.heap.size, rfl, cls, ce, locs, hx U hWs.alike f1 (fun q hq => f2 q hq (fun z hz => nomatch hz)), hce, hO.vm, hcl, hWs, hall, hf⟩⟩
  refine st1 _ ?_
  show Steps p.tables e below (T1.setTop { method := m, pc := pc + 3, locals := ls, stack := .ref T.heap.size :: rest, locked := none }) _
  jvm_step X₁.here [X₁.here.top, hexec, d3', Value.category]
  exact X₁.ldcStringW hexec (own := own) (text := text) (index := is) (a := sa) hown' hstr'.1 hstr'.2
    (g := { method := m, pc := pc + 4, locals := ls, stack := .ref T.heap.size :: .ref T.heap.size :: rest, locked := none }) rfl d4' _ hsteps
end Ends
section Bodies
variable {l : Launch}
theorem vx_ofW {y : MethodName} {ws ws' : List Cond} {rm : Room} {Pc : Array Value → State → Prop} {Qc : Array Value → State → Outcome → State → Prop} {XC : String → State → State → Prop} {mc ms : Nat} {free : Addr → Prop} {cc : ByteArray} {maxL : Nat} {ret : Option FieldType}
    (hy : plainName y.cls = true) (hw : ws = Cond.code y cc maxL ret :: ws')
    (body : ∀ p e s m args below meth c s₁, BodyLoose p l y (headSpec ws rm) cc maxL ret e s m args below meth c s₁ → c.maxLocals = maxL → (∀ x ∈ c.exceptionTable.toList, False) → Pc args s →
      W p l e (headSpec ws rm).room s m args below meth c s.heap [] 0 0 (vx_MQ below Qc XC args s mc ms free) (entryFrame m args maxL)) : vx_Met l y ws rm Pc Qc XC mc ms free := by
  refine MetFree.of_bodyS (code := cc) (maxLocals := maxL) (ret := ret) hy ?_ ?_
  · intro args s m h hn
    obtain ⟨meth, c, h1, h2, h3, h4, h5, h6, -, -⟩ := Cond.code_spec hn (atoms_spec (ws := ws) h _ (by rw [hw]; exact List.mem_cons_self))
    exact ⟨meth, c, h1, h2, h3, h4, h5, h6⟩
  · intro p e s m args below meth c s₁ B hml hP _
    have hh0 : s₁.heap = s.heap := by rw [B.state]; rfl
    have ht : ∀ x ∈ c.exceptionTable.toList, False := by
      obtain ⟨meth9, c9, h1, h2, -, -, -, -, h7, -⟩ := Cond.code_spec B.named (atoms_spec (ws := ws) B.pre _ (by rw [hw]; exact List.mem_cons_self))
      cases Option.some.inj (h1.symm.trans B.method)
      cases Option.some.inj (h2.symm.trans (Stand.of_body B).code)
      intro x hx
      rw [Array.isEmpty_iff.mp h7] at hx
      cases hx
    obtain ⟨t, a1, o, b1, b2, b3⟩ := body p e s m args below meth c s₁ B hml ht hP s₁ hh0 (Stand.of_body B)
    exact ⟨t, o, a1, b1, b2, b3⟩
/-- the table of a body with handlers -/
theorem vx_table {p : Program} {x y : MethodName} {S : Spec} {cc bytes : ByteArray} {maxL maxL' : Nat} {ret ret' : Option FieldType} {e : Env} {s s₁ : State} {m : MethodId} {args : Array Value} {below : List Frame} {meth : Method} {c : Code} {hh : List (Nat × Nat × Nat × Nat)}
    (B : BodyLoose p l y S cc maxL ret e s m args below meth c s₁) (h : (Cond.codeWith y bytes maxL' ret' hh).before args s = true) : c.exceptionTable.toList = tableOf hh := by
  obtain ⟨m9, meth9, c9, hn9, h1, h2, -, -, h6, -⟩ := Cond.codeWith_spec h
  cases Option.some.inj (hn9.symm.trans B.named)
  cases Option.some.inj (h1.symm.trans B.method)
  cases Option.some.inj (h2.symm.trans (Stand.of_body B).code)
  rw [← h6, table_eq]
end Bodies
end VXA
/-! ===== END ===== -/
/-! ===== BEGIN a static call of a method with an exception table ===== -/
section VXS
variable {p : Program} {l : Launch} {e : Env} {R : Room} {s : State} {m : MethodId} {args : Array Value} {below : List Frame} {meth : Method} {c : Code} {T : State} {H : Heap} {locs : List Loc} {cells slots : Nat}
abbrev vx_CSW (R : Room) (s : State) (args : Array Value) (own : String) (index : Nat) (y : MethodName) (bytes : ByteArray) (maxL : Nat) (ret : Option FieldType) (hh : List (Nat × Nat × Nat × Nat)) (ws : List Cond) (rm : Room) (mc ms n : Nat) : Prop :=
  (rm.cells = mc ∧ rm.slots = ms ∧ rm.frames + 1 ≤ R.frames ∧ 8 + (maxL + 11) + rm.locals ≤ R.locals ∧ (∀ w ∈ ws, ∀ (a' : Array Value) (U : State), s.WarmedH U.vm → w.before a' U = true) ∧ Cond.codeWith y bytes maxL ret hh ∈ ws) ∧
  (Cond.codeWith y bytes maxL ret hh).before args s = true ∧ (Cond.initialized y.cls).before args s = true ∧ (y.cls ≠ "java/lang/invoke/MethodHandle" ∧ y.cls ≠ "java/lang/invoke/VarHandle") ∧
  (∀ sig, parseMethodDescriptor y.desc = some sig → n = sig.parameters.length) ∧ (Cond.methodLink own index y).before args s = true ∧ (Cond.static y).before args s = true
theorem vx_cwSW {own : String} {index maxL mc ms : Nat} {y : MethodName} {bytes : ByteArray} {ret : Option FieldType} {hh : List (Nat × Nat × Nat × Nat)} {Ts ws ws' : List Cond} {rm : Room} (n : Nat) (ht : ∀ w ∈ Ts, w.before args s = true) (hT : GoodIn Ts (va_wsS own index y ws)) (hw : ws = Cond.codeWith y bytes maxL ret hh :: ws') (hrc : rm.cells = mc) (hrs : rm.slots = ms)
    (hd : y.cls ≠ "java/lang/invoke/MethodHandle" ∧ y.cls ≠ "java/lang/invoke/VarHandle" ∧ (parseMethodDescriptor y.desc).map (fun d => d.parameters.length) = some n) (hR : rm.frames + 1 ≤ R.frames ∧ 8 + (maxL + 11) + rm.locals ≤ R.locals) :
    vx_CSW R s args own index y bytes maxL ret hh ws rm mc ms n := by
  have ok : ∀ w ∈ va_wsS own index y ws, w.before args s = true := fun w h => ht w (hT w h).1
  have hG : GoodIn Ts ws := fun w h => hT w (by unfold va_wsS; exact List.mem_append_right _ h)
  have hc : Cond.codeWith y bytes maxL ret hh ∈ ws := by rw [hw]; exact List.mem_cons_self
  refine ⟨⟨hrc, hrs, hR.1, hR.2, pay_in ht hG, hc⟩, ht _ (hG _ hc).1, ok _ (by simp [va_wsS]), ⟨hd.1, hd.2.1⟩, fun sig h => ?_, ok _ (by simp [va_wsS]), ok _ (by simp [va_wsS])⟩
  have h2 := hd.2.2
  rw [h] at h2
  exact (Option.some.inj h2).symm
theorem vx_callSW (X : Stand p l e R s m args below meth c T locs cells slots) (hexec : p.tables.exec = Jvm.exec) {own : String} {index : Nat} {y : MethodName} {bytes : ByteArray} {maxL : Nat} {ret : Option FieldType} {hh : List (Nat × Nat × Nat × Nat)}
    (hown : s.vm.findClass own = some m.cls) (hlink : (Cond.methodLink own index y).before args s = true) (hstat : (Cond.static y).before args s = true) (hinit : (Cond.initialized y.cls).before args s = true)
    (hcode : (Cond.codeWith y bytes maxL ret hh).before args s = true) (hy : y.cls ≠ "java/lang/invoke/MethodHandle" ∧ y.cls ≠ "java/lang/invoke/VarHandle")
    {W9 : Nat} {Pre : Pt → Array Value → Prop} {Post : Pt → Array Value → Option Value → Pt → Prop} (hK : Back l R p e below s args y 3 W9 Pre Post)
    {g : JFrame} (hg : g.method = m) (hsize : g.locals.size = c.maxLocals) {argsL rest : List Value} (hlen : ∀ sig, parseMethodDescriptor y.desc = some sig → argsL.length = sig.parameters.length)
    (hstack : g.stack = argsL.reverse ++ rest) (hW : 2 * g.monitorRoom + (rest.map fun v => v.category).sum ≤ W9) (hdg : decode c.code g.pc = .ok (.invokestatic index, 3))
    (hpre : ∀ vm₁, s.WarmedH vm₁ → Pre ⟨T.setVm vm₁, locs, cells, slots⟩ argsL.toArray) :
    ∃ (v : Option Value) (vm₁ : Vm) (B : Pt), s.WarmedH vm₁ ∧ Stand p l e R s m args below meth c B.U B.locs B.cells B.slots ∧ Post ⟨T.setVm vm₁, locs, cells, slots⟩ argsL.toArray v B ∧
      ∀ target, Steps p.tables e below (B.U.setTop { g with pc := g.pc + 3, stack := v.toList ++ rest }) target → Steps p.tables e below (T.setTop g) target := by
  obtain ⟨mk, methM, cM, hnamed, hmethM, -, -, -, -, -, -, hsigM⟩ := Cond.codeWith_spec hcode
  have hstatic : methM.isStatic = true := Cond.static_spec hnamed hmethM hstat
  obtain ⟨kP, hkP, -⟩ := className_of_methodNamed hnamed
  have hinitP : kP.init = .initialized := Cond.initialized_spec (findClass_of_methodNamed hnamed) hkP hinit
  obtain ⟨vm₁, X₁, hstep₁⟩ := X.invokestatic hexec hown hlink hnamed hmethM hstatic hkP hinitP hy (g := g) hg (argsL := argsL) (rest := rest) (hlen _ hsigM) hstack hdg
  obtain ⟨v, B, X', hpost, hsteps⟩ := hK m meth c ⟨T.setVm vm₁, locs, cells, slots⟩ { g with stack := rest } (.invokestatic index) mk argsL.toArray X₁ hg hsize hdg hW (X₁.named hnamed) (hpre vm₁ X₁.warmed)
  exact ⟨v, vm₁, B, X₁.warmed, X', hpost, fun target h => hstep₁ _ fun acts => by rw [doInvoke_state]; exact hsteps.trans h⟩
theorem vx_runSW {y : MethodName} {bytes cc : ByteArray} {maxL nL mc ms n index : Nat} {ret : Option FieldType} {hh : List (Nat × Nat × Nat × Nat)} {ws : List Cond} {rm : Room} {Pc : Array Value → State → Prop} {Qc : Array Value → State → Outcome → State → Prop} {free : Addr → Prop} {Ts : List Cond} {own : String} {As rest : List Value} {g : JFrame}
    (S : CallFix p m c cc nL s args Ts own) (hM : Met l y ws rm Pc Qc mc ms free) (cw : vx_CSW R s args own index y bytes maxL ret hh ws rm mc ms n) (hp : PreS s H Pc As)
    (hg : g.method = m) (hn : As.length = n) (hsize : g.locals.size = nL) (hstack : g.stack = As.reverse ++ rest) (hW : 2 * g.monitorRoom + (rest.map fun v => v.category).sum ≤ 8) (hdg : decode cc g.pc = .ok (.invokestatic index, 3)) (hf : cells + mc ≤ R.cells ∧ slots + ms ≤ R.slots) :
    va_Run p l e R s m args below meth c H locs cells slots mc ms g rest (Qc As.toArray) (free) := by
  obtain ⟨⟨hrc, hrs, hfr, hlo, hws, hcw⟩, hcode, hini, hy, hlen, hl, hstt⟩ := cw
  have hK : Back l R p e below s args y 3 8 (PreOf R mc ms Pc) (PostOf Qc mc ms free) := va_backW (hh := hh) (bytes := bytes) (maxL := maxL) (ret := ret) hM hp.1 hrc hrs hfr hlo hws hcw (fun a' U hW => word_at hW (Or.inl (by first | rfl | simp [Cond.onTables, Cond.keeps, Cond.steady])) hini)
  obtain ⟨hx, hb, hml, ho, -⟩ := S
  intro T hT X
  obtain ⟨v, vm₁, ⟨U', l2, c2, s2⟩, hW₁, X', ⟨g', mk, t, L, e1, e2, hq, h1, hL, h2, h3⟩, st⟩ := vx_callSW X hx (hh := hh) (bytes := bytes) (maxL := maxL) (ret := ret) ho hl hstt hini hcode hy hK hg (hsize.trans hml.symm) (argsL := As) (rest := rest) (fun sig h => hn.trans (hlen sig h)) hstack hW (by rw [hb]; exact hdg)
    (fun vm₁ hW₁ => ⟨hf.1, hf.2, hp.2 (T.setVm vm₁) hT hW₁⟩)
  dsimp only [Pt.U, Pt.locs, Pt.cells, Pt.slots] at X' e1 e2 h1 h2 h3 st
  subst h1; subst h2; subst h3
  exact ⟨v, (T.setVm vm₁).calling g' mk As.toArray, t, U', L, hT, X', hL, e1, e2, hq, st⟩
/-- not caught here, past rows that name other classes: it goes on to the caller -/
theorem vx_outP {p : Program} {l : Launch} {e : Env} {R : Room} {s : State} {m : MethodId} {args : Array Value} {below : List Frame} {meth : Method} {c : Code} {H : Heap} {locs : List Loc} {cells slots : Nat} {free : Addr → Prop} {ls : Array Slot} {rest : List Value} {Qc : Array Value → State → Outcome → State → Prop} {XC : String → State → State → Prop}
    {pc : Nat} {own E : String} {ce : Cell} {q : Addr} {mc ms : Nat} (hown : s.vm.findClass own = some m.cls) (hlocks : meth.locks = false)
    (hpass : ∀ z ∈ c.exceptionTable.toList, covers z pc = false ∨ (z.catchType ≠ 0 ∧ ∃ nm : String, (Cond.classLink own z.catchType nm).before args s = true ∧ va_Nc E nm s)) (hcell : H[q]? = some ce) (hv : ce.vm = .none) (hcl : s.vm.findClass E = some ce.cls)
    (hx : ∀ t : State, t.heap = H → s.vm.Alike t.vm → XC E s t) (hf : ∀ z ∈ locs, free z.base) (hc : cells ≤ mc) (hs : slots ≤ ms) :
    vx_W p l e R s m args below meth c H locs cells slots (vx_MQ below Qc XC args s mc ms free) (F0 m pc ls rest) q := by
  intro T hT X
  have hpl : e.platform.magicAccessors = ({} : Platform).magicAccessors := by rw [X.admits.platform]
  obtain ⟨vm', hW', X', st⟩ := X.outThrough hlocks q (g := F0 m pc ls rest) rfl rfl rfl (cell := ce) (by rw [hT]; exact hcell) (by rw [hv]; rfl)
    (by obtain ⟨k9, h9, -⟩ := Vm.findClass_spec hcl; exact ⟨k9, h9⟩) (fun z hz => by
      rcases hpass z hz with h | ⟨hz0, nm, hl1, hn1⟩
      · exact Or.inl h
      · obtain ⟨c6, hc6, hcl6⟩ := Cond.classLink_spec hown hl1 e.platform hpl
        obtain ⟨a8, b8, h1, h2, h3⟩ := hn1
        cases Option.some.inj (h1.symm.trans hcl)
        cases Option.some.inj (h2.symm.trans hc6)
        exact Or.inr ⟨hz0, _, hcl6, h3⟩)
  obtain ⟨g₀, hfr⟩ := X'.frames_eq
  have hcell9 : ((T.setVm vm').setFrames (.throwing q :: below)).heap[q]? = some ce := by
    show T.heap[q]? = some ce
    rw [hT]; exact hcell
  have hend : Ended ((T.setVm vm').setFrames (.throwing q :: below)) below (.threw q) := State.frames_setFrames _ (State.cur_lt_of_frames hfr)
  refine ⟨(T.setVm vm').setFrames (.throwing q :: below), ?_, .threw q, X'.here.running, hend, Or.inr ⟨q, rfl, E, ce, locs, hx _ hT (X'.ends _).1.alike, hcell9, hv, hcl, (X'.ends _).1, (X'.ends _).2.mono hc hs, hf⟩⟩
  rw [X.pushThrowing_eq]
  exact st
/-- a thing of a world lies in the heap -/
theorem vx_lt {D : va_G} {cl : List vw_C} {ws : va_W} {H1 : Heap} (h : va_P D cl ws H1) {k : Nat} {q : Nat × va_E} (hk : ws[k]? = some q) : q.1 < H1.size := (h k q hk).lt
end VXS
/-! ===== END ===== -/
/-! ===== BEGIN methods with a table of their own: called by a name, returning or throwing ===== -/
section VXH
/-! vx_backW, vx_callVX, vx_callSX, vx_callVW, vx_runVW, vx_runVX, vx_runSX, vx_ofWH follow the same proofs as their sisters above (Free/Laws.lean, Shelf42/LK1.lean); vx_outP calls Shelf42/NT130.lean (outThrough). -/
section
variable {l : Launch} {R : Room} {p : Program} {e : Env} {below : List Frame} {s : State} {sargs : Array Value} {y : MethodName} {len W9 : Nat}
theorem vx_backW {ws : List Cond} {rm : Room} {Pc : Array Value → State → Prop} {Qc : Array Value → State → Outcome → State → Prop} {XC : String → State → State → Prop} {mc ms : Nat} {free : Addr → Prop} {bytes : ByteArray} {maxL : Nat} {ret : Option FieldType} {hh : List (Nat × Nat × Nat × Nat)}
    (hM : vx_Met l y ws rm Pc Qc XC mc ms free) (hblind : FrameBlind Pc) (hrc : rm.cells = mc) (hrs : rm.slots = ms)
    (hframes : rm.frames + 1 ≤ R.frames) (hlocals : W9 + (maxL + 11) + rm.locals ≤ R.locals)
    (hws : ∀ w ∈ ws, ∀ a' U, s.WarmedH U.vm → w.before a' U = true) (hcode : Cond.codeWith y bytes maxL ret hh ∈ ws) (hinit : ∀ a' U, s.WarmedH U.vm → (Cond.initialized y.cls).before a' U = true) :
    vx_Back l R p e below s sargs y len W9 (PreOf R mc ms Pc) (PostOf Qc mc ms free) (vx_Post XC mc ms free) := by
  intro m meth c A g ig mk a X hg hsize hdg hW hn hp
  have h1 : (headSpec ws rm).pre.before a A.U = true := atoms_intro fun w hw => hws w hw _ _ X.warmed
  have h2 : (Cond.codeWith y bytes maxL ret hh).before a A.U = true := hws _ hcode _ _ X.warmed
  have h3 : (Cond.initialized y.cls).before a A.U = true := hinit _ _ X.warmed
  have h4 : A.cells + (headSpec ws rm).room.cells ≤ R.cells := by rw [show (headSpec ws rm).room.cells = mc from hrc]; exact hp.1
  have h5 : A.slots + (headSpec ws rm).room.slots ≤ R.slots := by rw [show (headSpec ws rm).room.slots = ms from hrs]; exact hp.2.1
  have hPc : Pc a (A.U.calling g mk a) := hblind _ _ _ _ hp.2.2
  obtain ⟨U, Ls, c0, s0⟩ := A
  dsimp only [Pt.U, Pt.locs, Pt.cells, Pt.slots] at h1 h2 h3 h4 h5 X hn hPc ⊢
  obtain ⟨m9, methY, cY, hn9, hmY, hcY, -, hlY, -⟩ := Cond.codeWith_spec h2
  cases Option.some.inj (hn9.symm.trans hn)
  obtain ⟨kY, hkY, -⟩ := className_of_methodNamed hn
  have hinitY : kY.init = .initialized := Cond.initialized_spec (findClass_of_methodNamed hn) hkY h3
  have h : At U g.method c below := by rw [hg]; exact X.here
  have hlocals9 : W9 + (maxL + 11) + (headSpec ws rm).room.locals ≤ R.locals := hlocals
  have happ : (headSpec ws rm).appliesLoose y e.platform (U.calling g mk a) = true :=
    Spec.appliesLoose_calling (g := g) h hdg hn hkY hinitY
      (X.room_calling (g := g) (R' := (headSpec ws rm).room) hsize hmY hcY hframes (by rw [hlY]; omega) h4 h5) h1
  obtain ⟨mid, hmid⟩ := h.above
  have hfr : (U.setTop g).frames = (.java g :: mid) ++ below := by rw [State.frames_setTop' g h.top, hmid]; rfl
  obtain ⟨o, s₂, hsteps, -, hend, hq⟩ := Steps.callFree hM p X.admits X.cas X.clock (acts := []) hfr happ hPc trivial
  have hq' : vx_Q Qc XC mc ms free a (U.calling g mk a) o s₂ := hq
  rw [State.frames_setTop' g h.top] at hend
  obtain ⟨g₀, hg0⟩ := Option.isSome_iff_exists.mp h.top
  obtain ⟨r, hr⟩ := State.topJava?_eq_some.mp hg0
  have hr' : (({ U with heap := s₂.heap, slotsUsed := s₂.slotsUsed } : State).setVm s₂.vm).frames = .java g₀ :: r := hr
  rcases hq' with ⟨hqc, L, hfe, hL⟩ | ⟨q, rfl, E, ce, L, hx, hce, hcv, hcl, hW₂, hsm, hL⟩
  · obtain ⟨⟨v, rfl⟩, hW₂, e2, q2, q3, q4, q5, q6⟩ := id hfe
    have e3 : s₂ = ({ (U.calling g mk a).setFrames s₂.frames with heap := s₂.heap, slotsUsed := s₂.slotsUsed } : State).setVm s₂.vm := by
      have : s₂ = ({ s₂ with vm := (U.calling g mk a).vm } : State).setVm s₂.vm := rfl
      rw [e2] at this
      exact this
    obtain ⟨c₂, i₂, len₂, hc₂, hd₂, hf₂⟩ := hend
    have hW' : U.WarmedH s₂.vm := hW₂
    have hcc : c₂ = c := by
      have h1 : s₂.code? g.method = U.code? g.method := by
        rw [State.code?_eq, State.code?_eq, hW'.alike.method?]
      exact Option.some.inj (hc₂.symm.trans (h1.trans h.code))
    subst hcc
    have hlen : len₂ = len := by rw [hdg] at hd₂; cases hd₂; rfl
    subst hlen
    have hs₂ : s₂ = (({ U with heap := s₂.heap, slotsUsed := s₂.slotsUsed } : State).setVm s₂.vm).setTop { g with pc := g.pc + len₂, stack := v.toList ++ g.stack } := by
      refine e3.trans ?_
      rw [hf₂, State.calling_eq h.top, State.setFrames_setFrames, State.setTop_of_frames _ hr', hr]
      rfl
    have hsame : U.sameButNew ({ U with heap := s₂.heap, slotsUsed := s₂.slotsUsed } : State) L mc ms := by
      refine ⟨?_, q2, q3, q4, q5, q6⟩
      obtain ⟨t, ht, -⟩ := State.frames_cons hr
      show ({ U with heap := s₂.heap, slotsUsed := s₂.slotsUsed } : State) = { U.setFrames U.frames with heap := s₂.heap, slotsUsed := s₂.slotsUsed }
      rw [State.setFrames_self ht]
    subst hg
    refine Or.inl ⟨v, ⟨(({ U with heap := s₂.heap, slotsUsed := s₂.slotsUsed } : State).setVm s₂.vm), Ls ++ L, c0 + mc, s0 + ms⟩,
      ⟨X.admits, X.cas, X.clock, X.frames, X.room, X.hears, X.method, X.code, (X.here.setHeapUsed s₂.heap s₂.slotsUsed).setVm hW'.alike, X.tail, State.WarmedH.trans X.warmed hW', X.limits, X.bytes, X.same.trans (hsame.setVm s.vm)⟩,
      ⟨g, mk, s₂, L, rfl, rfl, hqc, rfl, hL, rfl, rfl⟩, ?_⟩
    show Steps p.tables e below _ ((({ U with heap := s₂.heap, slotsUsed := s₂.slotsUsed } : State).setVm s₂.vm).setTop { g with pc := g.pc + len₂, stack := v.toList ++ g.stack })
    rw [← hs₂]
    exact hsteps
  · obtain ⟨e2, q2, q3, q4, q5, q6⟩ := id hsm
    have e3 : s₂ = ({ (U.calling g mk a).setFrames s₂.frames with heap := s₂.heap, slotsUsed := s₂.slotsUsed } : State).setVm s₂.vm := by
      have : s₂ = ({ s₂ with vm := (U.calling g mk a).vm } : State).setVm s₂.vm := rfl
      rw [e2] at this
      exact this
    have hf₂ : s₂.frames = .throwing q :: .java g :: U.frames.tail := hend
    have hW' : U.WarmedH s₂.vm := hW₂
    have hs₂ : s₂ = ((({ U with heap := s₂.heap, slotsUsed := s₂.slotsUsed } : State).setVm s₂.vm).setTop g).pushFrame (.throwing q) := by
      refine e3.trans ?_
      rw [hf₂, State.calling_eq h.top, State.setFrames_setFrames, State.pushFrame, State.frames_setTop _ hr', State.setTop_of_frames _ hr', State.setFrames_setFrames, hr]
      rfl
    have hsame : U.sameButNew ({ U with heap := s₂.heap, slotsUsed := s₂.slotsUsed } : State) L mc ms := by
      refine ⟨?_, q2, q3, q4, q5, q6⟩
      obtain ⟨t, ht, -⟩ := State.frames_cons hr
      show ({ U with heap := s₂.heap, slotsUsed := s₂.slotsUsed } : State) = { U.setFrames U.frames with heap := s₂.heap, slotsUsed := s₂.slotsUsed }
      rw [State.setFrames_self ht]
    subst hg
    refine Or.inr ⟨q, ⟨(({ U with heap := s₂.heap, slotsUsed := s₂.slotsUsed } : State).setVm s₂.vm), Ls ++ L, c0 + mc, s0 + ms⟩,
      ⟨X.admits, X.cas, X.clock, X.frames, X.room, X.hears, X.method, X.code, (X.here.setHeapUsed s₂.heap s₂.slotsUsed).setVm hW'.alike, X.tail, State.WarmedH.trans X.warmed hW', X.limits, X.bytes, X.same.trans (hsame.setVm s.vm)⟩,
      ⟨g, mk, s₂, L, E, ce, rfl, rfl, hx, hce, hcv, hcl, rfl, hL, rfl, rfl⟩, ?_⟩
    show Steps p.tables e below _ (((({ U with heap := s₂.heap, slotsUsed := s₂.slotsUsed } : State).setVm s₂.vm).setTop g).pushFrame (.throwing q))
    rw [← hs₂]
    exact hsteps
end
variable {p : Program} {l : Launch} {e : Env} {R : Room} {s : State} {m : MethodId} {args : Array Value} {below : List Frame} {meth : Method} {c : Code} {T : State} {H : Heap} {locs : List Loc} {cells slots : Nat}
theorem vx_callVX (X : Stand p l e R s m args below meth c T locs cells slots) (hexec : p.tables.exec = Jvm.exec) {own C : String} {index : Nat} {y : MethodName} {bytes : ByteArray} {maxL : Nat} {ret : Option FieldType} {hh : List (Nat × Nat × Nat × Nat)}
    (hown : s.vm.findClass own = some m.cls) (hlink : (Cond.methodLink own index y).before args s = true) (hinst : (Cond.instanceMethod y).before args s = true) (hsel : (Cond.selects C y y).before args s = true)
    (hcode : (Cond.codeWith y bytes maxL ret hh).before args s = true) (hy : y.cls ≠ "java/lang/invoke/MethodHandle" ∧ y.cls ≠ "java/lang/invoke/VarHandle")
    {W9 : Nat} {Pre : Pt → Array Value → Prop} {Post : Pt → Array Value → Option Value → Pt → Prop} {PostX : Pt → Array Value → Addr → Pt → Prop} (hK : vx_Back l R p e below s args y 3 W9 Pre Post PostX)
    {b : Addr} {cellB : Cell} (hcell : T.heap[b]? = some cellB) (hobj : cellB.vm.isStatics = false) (hcls : s.vm.findClass C = some cellB.cls)
    {g : JFrame} (hg : g.method = m) (hsize : g.locals.size = c.maxLocals) {argsL rest : List Value} (hlen : ∀ sig, parseMethodDescriptor y.desc = some sig → argsL.length = sig.parameters.length)
    (hstack : g.stack = argsL.reverse ++ .ref b :: rest) (hW : 2 * g.monitorRoom + (rest.map fun v => v.category).sum ≤ W9) (hdg : decode c.code g.pc = .ok (.invokevirtual index, 3))
    (hpre : ∀ vm₁, s.WarmedH vm₁ → Pre ⟨T.setVm vm₁, locs, cells, slots⟩ (Value.ref b :: argsL).toArray) :
    (∃ (v : Option Value) (vm₁ : Vm) (B : Pt), s.WarmedH vm₁ ∧ Stand p l e R s m args below meth c B.U B.locs B.cells B.slots ∧ Post ⟨T.setVm vm₁, locs, cells, slots⟩ (Value.ref b :: argsL).toArray v B ∧
      ∀ target, Steps p.tables e below (B.U.setTop { g with pc := g.pc + 3, stack := v.toList ++ rest }) target → Steps p.tables e below (T.setTop g) target) ∨
    (∃ (q : Addr) (vm₁ : Vm) (B : Pt), s.WarmedH vm₁ ∧ Stand p l e R s m args below meth c B.U B.locs B.cells B.slots ∧ PostX ⟨T.setVm vm₁, locs, cells, slots⟩ (Value.ref b :: argsL).toArray q B ∧
      Steps p.tables e below (T.setTop g) ((B.U.setTop { g with stack := rest }).pushFrame (.throwing q))) := by
  obtain ⟨mk, methM, hnamed, hmethM, hstM, habM⟩ := Cond.instanceMethod_spec hinst
  obtain ⟨m8, methM', cM, hn8, hmethM', -, -, -, -, -, -, hsigM⟩ := Cond.codeWith_spec hcode
  cases Option.some.inj (hn8.symm.trans hnamed)
  cases hmethM.symm.trans hmethM'
  obtain ⟨c2, r2, m2, q1, q2, q3, q4, kP, hkP, hkPi⟩ := Cond.selects_spec hsel
  cases hcls.symm.trans q1
  cases (State.methodFound?_of_named hnamed hy).symm.trans q2
  cases hnamed.symm.trans q3
  have hselP : selectMethod e.platform s.vm cellB.cls mk = .method mk := by rw [Launch.admits_selectMethod X.admits]; exact q4
  obtain ⟨vm₁, X₁, hstep₁⟩ := X.invokevirtual hexec hown hlink hnamed hmethM hstM hkP hkPi hy (a := b) (cell := cellB) hcell
    (fun z h => by rw [h] at hobj; cases hobj) hselP hmethM habM hkP hkPi (g := g) hg (argsL := argsL) (rest := rest) (hlen _ hsigM) hstack hdg
  rcases hK m meth c ⟨T.setVm vm₁, locs, cells, slots⟩ { g with stack := rest } (.invokevirtual index) mk (Value.ref b :: argsL).toArray X₁ hg hsize hdg hW (X₁.named hnamed) (hpre vm₁ X₁.warmed) with ⟨v, B, X', hpost, hsteps⟩ | ⟨q, B, X', hpost, hsteps⟩
  · exact Or.inl ⟨v, vm₁, B, X₁.warmed, X', hpost, fun target h => hstep₁ _ fun acts => by rw [doInvoke_state]; exact hsteps.trans h⟩
  · exact Or.inr ⟨q, vm₁, B, X₁.warmed, X', hpost, hstep₁ _ fun acts => by rw [doInvoke_state]; exact hsteps⟩
theorem vx_callSX (X : Stand p l e R s m args below meth c T locs cells slots) (hexec : p.tables.exec = Jvm.exec) {own : String} {index : Nat} {y : MethodName} {bytes : ByteArray} {maxL : Nat} {ret : Option FieldType} {hh : List (Nat × Nat × Nat × Nat)}
    (hown : s.vm.findClass own = some m.cls) (hlink : (Cond.methodLink own index y).before args s = true) (hstat : (Cond.static y).before args s = true) (hinit : (Cond.initialized y.cls).before args s = true)
    (hcode : (Cond.codeWith y bytes maxL ret hh).before args s = true) (hy : y.cls ≠ "java/lang/invoke/MethodHandle" ∧ y.cls ≠ "java/lang/invoke/VarHandle")
    {W9 : Nat} {Pre : Pt → Array Value → Prop} {Post : Pt → Array Value → Option Value → Pt → Prop} {PostX : Pt → Array Value → Addr → Pt → Prop} (hK : vx_Back l R p e below s args y 3 W9 Pre Post PostX)
    {g : JFrame} (hg : g.method = m) (hsize : g.locals.size = c.maxLocals) {argsL rest : List Value} (hlen : ∀ sig, parseMethodDescriptor y.desc = some sig → argsL.length = sig.parameters.length)
    (hstack : g.stack = argsL.reverse ++ rest) (hW : 2 * g.monitorRoom + (rest.map fun v => v.category).sum ≤ W9) (hdg : decode c.code g.pc = .ok (.invokestatic index, 3))
    (hpre : ∀ vm₁, s.WarmedH vm₁ → Pre ⟨T.setVm vm₁, locs, cells, slots⟩ argsL.toArray) :
    (∃ (v : Option Value) (vm₁ : Vm) (B : Pt), s.WarmedH vm₁ ∧ Stand p l e R s m args below meth c B.U B.locs B.cells B.slots ∧ Post ⟨T.setVm vm₁, locs, cells, slots⟩ argsL.toArray v B ∧
      ∀ target, Steps p.tables e below (B.U.setTop { g with pc := g.pc + 3, stack := v.toList ++ rest }) target → Steps p.tables e below (T.setTop g) target) ∨
    (∃ (q : Addr) (vm₁ : Vm) (B : Pt), s.WarmedH vm₁ ∧ Stand p l e R s m args below meth c B.U B.locs B.cells B.slots ∧ PostX ⟨T.setVm vm₁, locs, cells, slots⟩ argsL.toArray q B ∧
      Steps p.tables e below (T.setTop g) ((B.U.setTop { g with stack := rest }).pushFrame (.throwing q))) := by
  obtain ⟨mk, methM, cM, hnamed, hmethM, -, -, -, -, -, -, hsigM⟩ := Cond.codeWith_spec hcode
  have hstatic : methM.isStatic = true := Cond.static_spec hnamed hmethM hstat
  obtain ⟨kP, hkP, -⟩ := className_of_methodNamed hnamed
  have hinitP : kP.init = .initialized := Cond.initialized_spec (findClass_of_methodNamed hnamed) hkP hinit
  obtain ⟨vm₁, X₁, hstep₁⟩ := X.invokestatic hexec hown hlink hnamed hmethM hstatic hkP hinitP hy (g := g) hg (argsL := argsL) (rest := rest) (hlen _ hsigM) hstack hdg
  rcases hK m meth c ⟨T.setVm vm₁, locs, cells, slots⟩ { g with stack := rest } (.invokestatic index) mk argsL.toArray X₁ hg hsize hdg hW (X₁.named hnamed) (hpre vm₁ X₁.warmed) with ⟨v, B, X', hpost, hsteps⟩ | ⟨q, B, X', hpost, hsteps⟩
  · exact Or.inl ⟨v, vm₁, B, X₁.warmed, X', hpost, fun target h => hstep₁ _ fun acts => by rw [doInvoke_state]; exact hsteps.trans h⟩
  · exact Or.inr ⟨q, vm₁, B, X₁.warmed, X', hpost, hstep₁ _ fun acts => by rw [doInvoke_state]; exact hsteps⟩
theorem vx_callVW (X : Stand p l e R s m args below meth c T locs cells slots) (hexec : p.tables.exec = Jvm.exec) {own C : String} {index : Nat} {y : MethodName} {bytes : ByteArray} {maxL : Nat} {ret : Option FieldType} {hh : List (Nat × Nat × Nat × Nat)}
    (hown : s.vm.findClass own = some m.cls) (hlink : (Cond.methodLink own index y).before args s = true) (hinst : (Cond.instanceMethod y).before args s = true) (hsel : (Cond.selects C y y).before args s = true)
    (hcode : (Cond.codeWith y bytes maxL ret hh).before args s = true) (hy : y.cls ≠ "java/lang/invoke/MethodHandle" ∧ y.cls ≠ "java/lang/invoke/VarHandle")
    {W9 : Nat} {Pre : Pt → Array Value → Prop} {Post : Pt → Array Value → Option Value → Pt → Prop} (hK : Back l R p e below s args y 3 W9 Pre Post)
    {b : Addr} {cellB : Cell} (hcell : T.heap[b]? = some cellB) (hobj : cellB.vm.isStatics = false) (hcls : s.vm.findClass C = some cellB.cls)
    {g : JFrame} (hg : g.method = m) (hsize : g.locals.size = c.maxLocals) {argsL rest : List Value} (hlen : ∀ sig, parseMethodDescriptor y.desc = some sig → argsL.length = sig.parameters.length)
    (hstack : g.stack = argsL.reverse ++ .ref b :: rest) (hW : 2 * g.monitorRoom + (rest.map fun v => v.category).sum ≤ W9) (hdg : decode c.code g.pc = .ok (.invokevirtual index, 3))
    (hpre : ∀ vm₁, s.WarmedH vm₁ → Pre ⟨T.setVm vm₁, locs, cells, slots⟩ (Value.ref b :: argsL).toArray) :
    ∃ (v : Option Value) (vm₁ : Vm) (B : Pt), s.WarmedH vm₁ ∧ Stand p l e R s m args below meth c B.U B.locs B.cells B.slots ∧ Post ⟨T.setVm vm₁, locs, cells, slots⟩ (Value.ref b :: argsL).toArray v B ∧
      ∀ target, Steps p.tables e below (B.U.setTop { g with pc := g.pc + 3, stack := v.toList ++ rest }) target → Steps p.tables e below (T.setTop g) target := by
  obtain ⟨mk, methM, hnamed, hmethM, hstM, habM⟩ := Cond.instanceMethod_spec hinst
  obtain ⟨m8, methM', cM, hn8, hmethM', -, -, -, -, -, -, hsigM⟩ := Cond.codeWith_spec hcode
  cases Option.some.inj (hn8.symm.trans hnamed)
  cases hmethM.symm.trans hmethM'
  obtain ⟨c2, r2, m2, q1, q2, q3, q4, kP, hkP, hkPi⟩ := Cond.selects_spec hsel
  cases hcls.symm.trans q1
  cases (State.methodFound?_of_named hnamed hy).symm.trans q2
  cases hnamed.symm.trans q3
  have hselP : selectMethod e.platform s.vm cellB.cls mk = .method mk := by rw [Launch.admits_selectMethod X.admits]; exact q4
  obtain ⟨vm₁, X₁, hstep₁⟩ := X.invokevirtual hexec hown hlink hnamed hmethM hstM hkP hkPi hy (a := b) (cell := cellB) hcell
    (fun z h => by rw [h] at hobj; cases hobj) hselP hmethM habM hkP hkPi (g := g) hg (argsL := argsL) (rest := rest) (hlen _ hsigM) hstack hdg
  obtain ⟨v, B, X', hpost, hsteps⟩ := hK m meth c ⟨T.setVm vm₁, locs, cells, slots⟩ { g with stack := rest } (.invokevirtual index) mk (Value.ref b :: argsL).toArray X₁ hg hsize hdg hW (X₁.named hnamed) (hpre vm₁ X₁.warmed)
  exact ⟨v, vm₁, B, X₁.warmed, X', hpost, fun target h => hstep₁ _ fun acts => by rw [doInvoke_state]; exact hsteps.trans h⟩
abbrev vx_CVW (R : Room) (s : State) (args : Array Value) (own C : String) (index : Nat) (y : MethodName) (bytes : ByteArray) (maxL : Nat) (ret : Option FieldType) (hh : List (Nat × Nat × Nat × Nat)) (ws : List Cond) (rm : Room) (mc ms n : Nat) : Prop :=
  (rm.cells = mc ∧ rm.slots = ms ∧ rm.frames + 1 ≤ R.frames ∧ 8 + (maxL + 11) + rm.locals ≤ R.locals ∧ (∀ w ∈ ws, ∀ (a' : Array Value) (U : State), s.WarmedH U.vm → w.before a' U = true) ∧ Cond.codeWith y bytes maxL ret hh ∈ ws) ∧
  (Cond.codeWith y bytes maxL ret hh).before args s = true ∧ (Cond.initialized y.cls).before args s = true ∧ (y.cls ≠ "java/lang/invoke/MethodHandle" ∧ y.cls ≠ "java/lang/invoke/VarHandle") ∧
  (∀ sig, parseMethodDescriptor y.desc = some sig → n = sig.parameters.length) ∧ (Cond.methodLink own index y).before args s = true ∧ (Cond.instanceMethod y).before args s = true ∧ (Cond.selects C y y).before args s = true
theorem vx_cwVW {own C : String} {index maxL mc ms : Nat} {y : MethodName} {bytes : ByteArray} {ret : Option FieldType} {hh : List (Nat × Nat × Nat × Nat)} {Ts ws ws' : List Cond} {rm : Room} (n : Nat) (ht : ∀ w ∈ Ts, w.before args s = true) (hT : GoodIn Ts (wsV own index C y ws)) (hw : ws = Cond.codeWith y bytes maxL ret hh :: ws') (hrc : rm.cells = mc) (hrs : rm.slots = ms)
    (hd : y.cls = C ∧ y.cls ≠ "java/lang/invoke/MethodHandle" ∧ y.cls ≠ "java/lang/invoke/VarHandle" ∧ (parseMethodDescriptor y.desc).map (fun d => d.parameters.length) = some n) (hR : rm.frames + 1 ≤ R.frames ∧ 8 + (maxL + 11) + rm.locals ≤ R.locals) :
    vx_CVW R s args own C index y bytes maxL ret hh ws rm mc ms n := by
  obtain ⟨hC, hd⟩ := hd
  subst hC
  have ok : ∀ w ∈ wsV own index y.cls y ws, w.before args s = true := fun w h => ht w (hT w h).1
  have hG : GoodIn Ts ws := fun w h => hT w (by unfold wsV; exact List.mem_append_right _ h)
  have hc : Cond.codeWith y bytes maxL ret hh ∈ ws := by rw [hw]; exact List.mem_cons_self
  refine ⟨⟨hrc, hrs, hR.1, hR.2, pay_in ht hG, hc⟩, ht _ (hG _ hc).1, ok _ (by simp [wsV]), ⟨hd.1, hd.2.1⟩, fun sig h => ?_, ok _ (by simp [wsV]), ok _ (by simp [wsV]), ok _ (by simp [wsV])⟩
  have h2 := hd.2.2
  rw [h] at h2
  exact (Option.some.inj h2).symm
theorem vx_runVW {y : MethodName} {bytes cc : ByteArray} {maxL nL mc ms n index : Nat} {ret : Option FieldType} {hh : List (Nat × Nat × Nat × Nat)} {ws : List Cond} {rm : Room} {Pc : Array Value → State → Prop} {Qc : Array Value → State → Outcome → State → Prop} {free : Addr → Prop} {Ts : List Cond} {own C : String} {b : Addr} {As rest : List Value} {g : JFrame}
    (S : CallFix p m c cc nL s args Ts own) (hM : Met l y ws rm Pc Qc mc ms free) (cw : vx_CVW R s args own C index y bytes maxL ret hh ws rm mc ms n) (hp : PreV s H C b Pc As)
    (hg : g.method = m) (hn : As.length = n) (hsize : g.locals.size = nL) (hstack : g.stack = As.reverse ++ .ref b :: rest) (hW : 2 * g.monitorRoom + (rest.map fun v => v.category).sum ≤ 8) (hdg : decode cc g.pc = .ok (.invokevirtual index, 3)) (hf : cells + mc ≤ R.cells ∧ slots + ms ≤ R.slots) :
    va_Run p l e R s m args below meth c H locs cells slots mc ms g rest (Qc (Value.ref b :: As).toArray) free := by
  obtain ⟨⟨hrc, hrs, hfr, hlo, hws, hcw⟩, hcode, hini, hy, hlen, hl, hin, hse⟩ := cw
  have hK : Back l R p e below s args y 3 8 (PreOf R mc ms Pc) (PostOf Qc mc ms free) := va_backW (hh := hh) (bytes := bytes) (maxL := maxL) (ret := ret) hM hp.1 hrc hrs hfr hlo hws hcw (fun a' U hW => word_at hW (Or.inl (by first | rfl | simp [Cond.onTables, Cond.keeps, Cond.steady])) hini)
  obtain ⟨hx, hb, hml, ho, -⟩ := S
  obtain ⟨-, ⟨cellB, hcB, hoB, hclB⟩, hPc⟩ := hp
  intro T hT X
  obtain ⟨v, vm₁, ⟨U', l2, c2, s2⟩, hW₁, X', ⟨g', mk, t, L, e1, e2, hq, h1, hL, h2, h3⟩, st⟩ := vx_callVW X hx (C := C) (hh := hh) (bytes := bytes) (maxL := maxL) (ret := ret) ho hl hin hse hcode hy hK (by rw [hT]; exact hcB) hoB hclB hg (hsize.trans hml.symm) (argsL := As) (rest := rest) (fun sig h => hn.trans (hlen sig h)) hstack hW (by rw [hb]; exact hdg)
    (fun vm₁ hW₁ => ⟨hf.1, hf.2, hPc (T.setVm vm₁) hT hW₁⟩)
  dsimp only [Pt.U, Pt.locs, Pt.cells, Pt.slots] at X' e1 e2 h1 h2 h3 st
  subst h1; subst h2; subst h3
  exact ⟨v, (T.setVm vm₁).calling g' mk (Value.ref b :: As).toArray, t, U', L, hT, X', hL, e1, e2, hq, st⟩
section
variable {y : MethodName} {bytes cc : ByteArray} {maxL nL mc ms n index : Nat} {ret : Option FieldType} {ws : List Cond} {rm : Room} {Pc : Array Value → State → Prop} {Qc : Array Value → State → Outcome → State → Prop} {XC : String → State → State → Prop} {free : Addr → Prop} {Ts : List Cond} {own C : String} {b : Addr} {As rest : List Value} {g : JFrame}
theorem vx_runVX {hh : List (Nat × Nat × Nat × Nat)} (S : CallFix p m c cc nL s args Ts own) (hM : vx_Met l y ws rm Pc Qc XC mc ms free) (cw : vx_CVW R s args own C index y bytes maxL ret hh ws rm mc ms n) (hp : PreV s H C b Pc As)
    (hg : g.method = m) (hn : As.length = n) (hsize : g.locals.size = nL) (hstack : g.stack = As.reverse ++ .ref b :: rest) (hW : 2 * g.monitorRoom + (rest.map fun v => v.category).sum ≤ 8) (hdg : decode cc g.pc = .ok (.invokevirtual index, 3)) (hf : cells + mc ≤ R.cells ∧ slots + ms ≤ R.slots) :
    vx_Run p l e R s m args below meth c H locs cells slots mc ms g rest (Qc (Value.ref b :: As).toArray) XC free := by
  obtain ⟨⟨hrc, hrs, hfr, hlo, hws, hcw⟩, hcode, hini, hy, hlen, hl, hin, hse⟩ := cw
  have hK : vx_Back l R p e below s args y 3 8 (PreOf R mc ms Pc) (PostOf Qc mc ms free) (vx_Post XC mc ms free) := vx_backW (hh := hh) (bytes := bytes) (maxL := maxL) (ret := ret) hM hp.1 hrc hrs hfr hlo hws hcw (fun a' U hW => word_at hW (Or.inl (by first | rfl | simp [Cond.onTables, Cond.keeps, Cond.steady])) hini)
  obtain ⟨hx, hb, hml, ho, -⟩ := S
  obtain ⟨-, ⟨cellB, hcB, hoB, hclB⟩, hPc⟩ := hp
  intro T hT X
  rcases vx_callVX X hx (C := C) (hh := hh) (bytes := bytes) (maxL := maxL) (ret := ret) ho hl hin hse hcode hy hK (by rw [hT]; exact hcB) hoB hclB hg (hsize.trans hml.symm) (argsL := As) (rest := rest) (fun sig h => hn.trans (hlen sig h)) hstack hW (by rw [hb]; exact hdg)
    (fun vm₁ hW₁ => ⟨hf.1, hf.2, hPc (T.setVm vm₁) hT hW₁⟩) with ⟨v, vm₁, ⟨U', l2, c2, s2⟩, hW₁, X', ⟨g', mk, t, L, e1, e2, hq, h1, hL, h2, h3⟩, st⟩ | ⟨q, vm₁, ⟨U', l2, c2, s2⟩, hW₁, X', ⟨g', mk, t, L, E, ce, e1, e2, hq, hce, hcv, hcl, h1, hL, h2, h3⟩, st⟩
  · dsimp only [Pt.U, Pt.locs, Pt.cells, Pt.slots] at X' e1 e2 h1 h2 h3 st
    subst h1; subst h2; subst h3
    exact Or.inl ⟨v, (T.setVm vm₁).calling g' mk (Value.ref b :: As).toArray, t, U', L, hT, X', hL, e1, e2, hq, st⟩
  · dsimp only [Pt.U, Pt.locs, Pt.cells, Pt.slots] at X' e1 e2 h1 h2 h3 st hcl
    subst h1; subst h2; subst h3
    exact Or.inr ⟨q, (T.setVm vm₁).calling g' mk (Value.ref b :: As).toArray, t, U', L, E, ce, hT, X', hL, e1, e2, hq, hce, hcv, vx_cls hW₁ hcl, st⟩
theorem vx_runSX {hh : List (Nat × Nat × Nat × Nat)} (S : CallFix p m c cc nL s args Ts own) (hM : vx_Met l y ws rm Pc Qc XC mc ms free) (cw : vx_CSW R s args own index y bytes maxL ret hh ws rm mc ms n) (hp : PreS s H Pc As)
    (hg : g.method = m) (hn : As.length = n) (hsize : g.locals.size = nL) (hstack : g.stack = As.reverse ++ rest) (hW : 2 * g.monitorRoom + (rest.map fun v => v.category).sum ≤ 8) (hdg : decode cc g.pc = .ok (.invokestatic index, 3)) (hf : cells + mc ≤ R.cells ∧ slots + ms ≤ R.slots) :
    vx_Run p l e R s m args below meth c H locs cells slots mc ms g rest (Qc As.toArray) XC free := by
  obtain ⟨⟨hrc, hrs, hfr, hlo, hws, hcw⟩, hcode, hini, hy, hlen, hl, hstt⟩ := cw
  have hK : vx_Back l R p e below s args y 3 8 (PreOf R mc ms Pc) (PostOf Qc mc ms free) (vx_Post XC mc ms free) := vx_backW (hh := hh) (bytes := bytes) (maxL := maxL) (ret := ret) hM hp.1 hrc hrs hfr hlo hws hcw (fun a' U hW => word_at hW (Or.inl (by first | rfl | simp [Cond.onTables, Cond.keeps, Cond.steady])) hini)
  obtain ⟨hx, hb, hml, ho, -⟩ := S
  intro T hT X
  rcases vx_callSX X hx (hh := hh) (bytes := bytes) (maxL := maxL) (ret := ret) ho hl hstt hini hcode hy hK hg (hsize.trans hml.symm) (argsL := As) (rest := rest) (fun sig h => hn.trans (hlen sig h)) hstack hW (by rw [hb]; exact hdg)
    (fun vm₁ hW₁ => ⟨hf.1, hf.2, hp.2 (T.setVm vm₁) hT hW₁⟩) with ⟨v, vm₁, ⟨U', l2, c2, s2⟩, hW₁, X', ⟨g', mk, t, L, e1, e2, hq, h1, hL, h2, h3⟩, st⟩ | ⟨q, vm₁, ⟨U', l2, c2, s2⟩, hW₁, X', ⟨g', mk, t, L, E, ce, e1, e2, hq, hce, hcv, hcl, h1, hL, h2, h3⟩, st⟩
  · dsimp only [Pt.U, Pt.locs, Pt.cells, Pt.slots] at X' e1 e2 h1 h2 h3 st
    subst h1; subst h2; subst h3
    exact Or.inl ⟨v, (T.setVm vm₁).calling g' mk As.toArray, t, U', L, hT, X', hL, e1, e2, hq, st⟩
  · dsimp only [Pt.U, Pt.locs, Pt.cells, Pt.slots] at X' e1 e2 h1 h2 h3 st hcl
    subst h1; subst h2; subst h3
    exact Or.inr ⟨q, (T.setVm vm₁).calling g' mk As.toArray, t, U', L, E, ce, hT, X', hL, e1, e2, hq, hce, hcv, vx_cls hW₁ hcl, st⟩
end
end VXH
theorem vx_ofWH {l : Launch} {y : MethodName} {ws ws' : List Cond} {rm : Room} {Pc : Array Value → State → Prop} {Qc : Array Value → State → Outcome → State → Prop} {XC : String → State → State → Prop} {mc ms : Nat} {free : Addr → Prop} {cc : ByteArray} {maxL : Nat} {ret : Option FieldType} {hh : List (Nat × Nat × Nat × Nat)}
    (hy : plainName y.cls = true) (hw : ws = Cond.codeWith y cc maxL ret hh :: ws')
    (body : ∀ p e s m args below meth c s₁, BodyLoose p l y (headSpec ws rm) cc maxL ret e s m args below meth c s₁ → c.maxLocals = maxL → Pc args s →
      W p l e (headSpec ws rm).room s m args below meth c s.heap [] 0 0 (vx_MQ below Qc XC args s mc ms free) (entryFrame m args maxL)) : vx_Met l y ws rm Pc Qc XC mc ms free := by
  refine MetFree.of_bodyS (code := cc) (maxLocals := maxL) (ret := ret) hy ?_ ?_
  · intro args s m h hn
    obtain ⟨m9, meth, c, hn9, h1, h2, h3, h4, -, h5, h6, -⟩ := Cond.codeWith_spec (atoms_spec (ws := ws) h _ (by rw [hw]; exact List.mem_cons_self))
    cases hn.symm.trans hn9
    exact ⟨meth, c, h1, h2, h3, h4, h5, h6⟩
  · intro p e s m args below meth c s₁ B hml hP _
    have hh0 : s₁.heap = s.heap := by rw [B.state]; rfl
    obtain ⟨t, a1, o, b1, b2, b3⟩ := body p e s m args below meth c s₁ B hml hP s₁ hh0 (Stand.of_body B)
    exact ⟨t, o, a1, b1, b2, b3⟩
/-! ===== END ===== -/
/-! ===== BEGIN what the machine throws by itself, no traces kept ===== -/
section VXM
set_option maxHeartbeats 1000000 in
/-- the machine throws cls with the message text, no traces kept: from its note over the frame g to 'throwing' over the same frame (follows the proofs of Stand.vmThrowsMessage, Shelf/KitTracedVmS.lean, and Stand.throwsMessageColdBareV, StandMessageColdV.lean, without the step out of the frame) -/
theorem vx_vmAt {p : Program} {l : Launch} {e : Env} {R : Room} {s : State} {m₀ : MethodId} {args : Array Value} {below : List Frame} {meth : Method} {c : Code} {W : State} {locs : List Loc} {cells slots : Nat}
    (X : Stand p l e R s m₀ args below meth c W locs cells slots) (hexec : p.tables.exec = Jvm.exec) (htr : e.platform.stackTraces = false) {cls : String} {names : List String} {text : String}
    (hcls : Bundle.fit cls = true) (hnames : ∀ n ∈ names, Bundle.fit n = true) (hsoe : (cls == "java/lang/StackOverflowError") = false) (hoom : (cls == "java/lang/OutOfMemoryError") = false)
    (h : ∀ a ∈ Bundle.messageArmAtoms cls names, a.before args s = true)
    (hlocs : ∀ x ∈ locs, ∀ cell, s.heap[x.base]? = some cell → cell.vm.isStatics = false)
    (htext : (text == notModelled) = false) (hlimit : ¬ (stringBytes (stringToUtf16 text)).size > e.platform.arrayLengthLimit) (hheap : ¬ (stringBytes (stringToUtf16 text)).size * componentBytes .byte > e.platform.maxHeapBytes)
    {g : JFrame} (hg : g.method = m₀) (hsize : g.locals.size = c.maxLocals)
    (hRframes : names.length + 4 < R.frames) (hRlocals : 2 * g.monitorRoom + (g.stack.map fun v => v.category).sum + 10240 ≤ R.locals) (hshort : 13 * names.length + 55 ≤ 10240)
    (hRcells : cells + 3 ≤ R.cells) (hRslots : slots + ((stringBytes (stringToUtf16 text)).size + 4 + 6) ≤ R.slots) (hlocks : meth.locks = false) :
    ∃ (S : State) (q : Addr) (ce : Cell), (∀ target, Steps p.tables e below ((S.setTop g).pushFrame (.throwing q)) target → Steps p.tables e below ((W.setTop g).pushFrame (.throwNew cls (some text) none)) target) ∧
      Stand p l e R s m₀ args below meth c S locs (cells + 3) (slots + ((stringBytes (stringToUtf16 text)).size + 4 + 6)) ∧ S.heap[q]? = some ce ∧ s.vm.findClass cls = some ce.cls ∧ ce.vm = .none := by
  have howns : e.platform.frameOwnsMonitors = true := by rw [X.admits.platform]
  have hfin : e.platform.finalization = false := by rw [X.admits.platform]
  have hpl : e.platform.magicAccessors = ({} : Platform).magicAccessors := by rw [X.admits.platform]
  have a : ∀ x, x ∈ Bundle.messageArmAtoms cls names → x.holds args s none s [] = true := fun x hx => h x hx
  obtain ⟨T, Z0, L, -, Y⟩ := ThrowableC.of_atoms (args := args) howns hfin hpl (fun x hx => h x (by simp [Bundle.messageArmAtoms, hx]))
  obtain ⟨Z, M, LZ, LM, hnZ⟩ := Init0T.ofS_atoms (args := args) hpl L Y (fun x hx => h x (by simp [Bundle.messageArmAtoms, hx]))
  obtain ⟨P1, Ps, hlen, L1, hL, hP1m, hlink1, hlink⟩ := Bundle.chainS (args := args) hpl hnZ names cls hcls hnames (fun x hx => h x (by simp [Bundle.messageArmAtoms, hx]))
  obtain ⟨Zs, LZs, hn4, hfitv, hfitc⟩ := StringT.of_atoms (args := args) (fun x hx => h x (by simp [Bundle.messageArmAtoms, hx]))
  have hfound : s.vm.findClass cls = some P1.m.cls := findClass_of_methodNamed hP1m
  obtain ⟨c1, kX, hc1, hk, hord, -, -, hn6⟩ := Cond.instantiable_spec (a (.instantiable cls 6) (by simp [Bundle.messageArmAtoms]))
  cases Option.some.inj (hc1.symm.trans hfound)
  have hinit := Cond.initialized_spec hfound hk (a (.initialized cls) (by simp [Bundle.messageArmAtoms]))
  have hctor : kX.findMethod "<init>" "(Ljava/lang/String;)V" = some P1.m.idx := findMethod_of_methodNamed hP1m hk
  have hsel0 : selectMethod e.platform s.vm P1.m.cls T.fill0 = .method T.fill0 := by
    obtain ⟨c2, r2, m2, q1, q2, q3, q4, -⟩ := Cond.selects_spec (a (.selects cls Bundle.tFill0 Bundle.tFill0) (by simp [Bundle.messageArmAtoms]))
    cases Option.some.inj (q1.symm.trans hfound)
    cases Option.some.inj (q2.symm.trans (State.methodFound?_of_named Y.fill0 (by decide)))
    cases Option.some.inj (q3.symm.trans Y.fill0)
    rw [Launch.admits_selectMethod X.admits]; exact q4
  have hselF : selectMethod e.platform s.vm P1.m.cls T.fill = .method T.fill := by
    obtain ⟨c2, r2, m2, q1, q2, q3, q4, -⟩ := Cond.selects_spec (a (.selects cls Bundle.tFill Bundle.tFill) (by simp [Bundle.messageArmAtoms]))
    cases Option.some.inj (q1.symm.trans hfound)
    cases Option.some.inj (q2.symm.trans (State.methodFound?_of_named Y.fill (by decide)))
    cases Option.some.inj (q3.symm.trans Y.fill)
    rw [Launch.admits_selectMethod X.admits]; exact q4
  obtain ⟨cellS0, hcS0, hiss⟩ := Y.statics
  obtain ⟨u0, hu0⟩ := Cond.staticRefV Y.unassigned L.unassignedStatic L.statics hcS0 hiss (a (.isRef (.static Bundle.tN "UNASSIGNED_STACK" Bundle.steD)) (by simp [Bundle.messageArmAtoms]))
  obtain ⟨sen, hsen⟩ := Cond.staticRefV Y.sentinel L.sentinelStatic L.statics hcS0 hiss (a (.isRef (.static Bundle.tN "SUPPRESSED_SENTINEL" Bundle.listD)) (by simp [Bundle.messageArmAtoms]))
  obtain ⟨ci198, i198, fB, hk198, hg198, ha198, hsB, -, hnB, htB, hffB⟩ := Cond.ownField (t := .object "java/lang/Object") Y.found L.cls (by decide +kernel) (a (.fieldLink Bundle.tN 198 Bundle.tN "backtrace" "Ljava/lang/Object;") (by simp [Bundle.messageArmAtoms])) (a (.lays Bundle.tN Bundle.tN "backtrace" "Ljava/lang/Object;") (by simp [Bundle.messageArmAtoms])) e.platform hpl
  obtain ⟨cellS, hcS', heS, -, hkeep⟩ := X.same.2.2.2.2.2 T.aS cellS0 hcS0
  have hcellS : W.heap[T.aS]? = some cellS := hcS'
  have hout' : ∀ i, (⟨T.aS, i⟩ : Loc) ∉ locs := fun i hmem => by
    have := hlocs _ hmem cellS0 hcS0
    rw [hiss] at this; cases this
  have hknownS : cellS.vm ≠ .unknown := by
    rw [heS]; intro hu
    rw [show cellS0.vm = .unknown from hu] at hiss
    cases hiss
  have hvU : cellS.slots[T.fUnassigned.slot]? = some u0.v := by rw [hkeep _ (hout' _)]; exact hu0
  have hvSen : cellS.slots[T.fSentinel.slot]? = some sen.v := by rw [hkeep _ (hout' _)]; exact hsen
  obtain ⟨iM, hffM⟩ := Y.msg
  obtain ⟨tyC, dC, hdC, hdnC⟩ := Cond.laysAt hfound hk Y.cause (a (.lays cls Bundle.tN "cause" "Ljava/lang/Throwable;") (by simp [Bundle.messageArmAtoms]))
  obtain ⟨tyS, dS, hdS, hdnS⟩ := Cond.laysAt hfound hk Y.stack (a (.lays cls Bundle.tN "stackTrace" Bundle.steD) (by simp [Bundle.messageArmAtoms]))
  obtain ⟨tyP, dP, hdP, hdnP⟩ := Cond.laysAt hfound hk Y.supp (a (.lays cls Bundle.tN "suppressedExceptions" Bundle.listD) (by simp [Bundle.messageArmAtoms]))
  obtain ⟨tyM, dM, hdM, hdnM⟩ := Cond.laysAt hfound hk hffM (a (.lays cls Bundle.tN "detailMessage" "Ljava/lang/String;") (by simp [Bundle.messageArmAtoms]))
  obtain ⟨tyB, dB, hdB, hdnB⟩ := Cond.laysAt hfound hk hffB (a (.lays cls Bundle.tN "backtrace" "Ljava/lang/Object;") (by simp [Bundle.messageArmAtoms]))
  have bC := Cond.laysApart hdB hdC hdnB hdnC (by rw [hnB, Y.causeName]; decide)
  have bS := Cond.laysApart hdB hdS hdnB hdnS (by rw [hnB, Y.stackName]; decide)
  have bP := Cond.laysApart hdB hdP hdnB hdnP (by rw [hnB, Y.suppName]; decide)
  have hbk : ((preparedCellV T.toThrowableT (freshCell P1.m.cls kX) (W.heap.size + 2) u0 sen).withEntry W.cur).slots[fB.slot]? = some .null := by
    have := fresh_default (c := P1.m.cls) tyB
    rw [htB] at this
    simpa [preparedCellV, Cell.setSlot, Cell.withEntry, Array.getElem?_setIfInBounds, bC, bS, bP, bC.symm, bS.symm, bP.symm, defaultValue] using this
  have tkC := Takes.of_laid (v := .ref (W.heap.size + 2)) hk hord tyC (by rw [Y.causeType]; rfl)
  have tkS := Takes.of_laid (v := u0.v) hk hord tyS (by rw [Y.stackType]; exact fits_refV_array _ u0)
  have tkP := Takes.of_laid (v := sen.v) hk hord tyP (by rw [Y.suppType]; exact fits_refV_object _ sen)
  have tkM := Takes.of_laid (v := .ref (W.heap.size + 1)) hk hord tyM (by rw [Y.msgType]; rfl)
  have hskip : SkipFacts T e.platform s (fun u => u) u0 ((preparedCellV T.toThrowableT (freshCell P1.m.cls kX) (W.heap.size + 2) u0 sen).withEntry W.cur) := ⟨{ ci198 := ci198, i198 := i198, fBack := fB }, ⟨hk198, hg198, ha198, hsB⟩, hbk, fun _ _ => rfl⟩
  have h0 : At W g.method c below := by rw [hg]; exact X.here
  obtain ⟨hbeyond, hfreeW⟩ := X.vmMayThrow hsize (.throwNew cls (some text) none) (fun f hf => by cases hf) rfl hRlocals
  have hfr' : W.frames.length + Ps.length + 4 < (e.platform.stackLimits W.me).1 := by have := X.framesAbove hRframes; omega
  have hwd' : (stackUse (.java g :: W.frames.tail)).2 + 13 * Ps.length + 55 ≤ (e.platform.stackLimits W.me).2 := by have := X.stackAbove hsize (K := 13 * Ps.length + 55) (by omega); omega
  have hslots : W.slotsUsed + (stringBytes (stringToUtf16 text)).size + Zs.kS.instanceTypes.size + kX.instanceTypes.size ≤ e.platform.maxSlots := by
    have := X.slotsAbove hRslots
    rw [hn4, hn6]
    omega
  obtain ⟨vm', hW', st⟩ := Steps.vmThrowsMessageColdByV p (s₀ := s) (S := W) (g := g) h0 hexec T L Z LZ M LM X.warmed (t := W.cur) rfl Zs LZs P1 L1 Ps hL hlink1 hlink hsoe hoom hfound hk hinit hord hctor
    (Launch.admits_hotImplicitExceptions X.admits) hbeyond hfreeW htext hlimit hheap (X.cellsAbove hRcells) hslots (hfitv _) (hfitc _)
    (Nn := fun u => u) heapOnly_id (fun _ _ => rfl) (fun _ => rfl) (fun u x y => setCell_twice _ _ _ _) (fun _ => Nat.le_refl _) (cN := ((preparedCellV T.toThrowableT (freshCell P1.m.cls kX) (W.heap.size + 2) u0 sen).withEntry W.cur))
    hsel0 hcellS hknownS hvU tkS (fun _ hu => hu) (fun _ hu => hu) rfl rfl rfl (by simp [preparedCellV, Cell.setSlot, Cell.withEntry]) hskip (fun _ _ hA hW _ hroom _ hrest => L.nativeOff p htr hA hW hroom hrest) hselF hvSen tkC tkP tkM Y.objLocals rfl hfr' hwd'
  rw [plainBareV_eq T.toThrowableT (W.heap.size + 2) u0 sen (.ref (W.heap.size + 1)) W.cur rfl rfl] at st
  obtain ⟨-, -, w3, w4, -, -, -⟩ := withThrown_facts e.platform W Zs text P1.m.cls kX
  have X3 := ((X.pushed (bytesOf Zs.cB (stringToUtf16 text))).pushed (stringAt Zs.cS Zs.kS Zs.fv Zs.fc (stringToUtf16 text) W.heap.size)).pushed (freshCell P1.m.cls kX)
  rw [← withString_eq] at X3
  have X4 := X3.noted hW'
  have ha : (W.heap.size + 2) < ((withThrown W Zs text P1.m.cls kX).setVm vm').heap.size := by show _ < (withThrown W Zs text P1.m.cls kX).heap.size; rw [w3]; omega
  have hcell : ((withThrown W Zs text P1.m.cls kX).setVm vm').heap[(W.heap.size + 2)]? = some (freshCell P1.m.cls kX) := w4
  have X5 := ((((X4.stored hcell T.fCause.slot (.ref (W.heap.size + 2))).storedAgain ha T.fStack.slot u0.v).storedAgain ha T.fSupp.slot sen.v).storedAgain ha T.fStack.slot u0.v).storedAgain ha T.fMsg.slot (.ref (W.heap.size + 1))
  obtain ⟨g₁, hfrM⟩ := X5.frames_eq
  have hU : ((((withThrown W Zs text P1.m.cls kX).setVm vm').setCell (W.heap.size + 2) (plainBareV T.toThrowableT (freshCell P1.m.cls kX) (W.heap.size + 2) u0 sen (.ref (W.heap.size + 1)))).setTop g).pushFrame (.throwing (W.heap.size + 2)) = (((withThrown W Zs text P1.m.cls kX).setVm vm').setCell (W.heap.size + 2) (plainBareV T.toThrowableT (freshCell P1.m.cls kX) (W.heap.size + 2) u0 sen (.ref (W.heap.size + 1)))).setFrames (.throwing (W.heap.size + 2) :: .java g :: below) := by
    rw [State.pushFrame, State.frames_setTop _ hfrM, State.setTop_of_frames _ hfrM, State.setFrames_setFrames]
  have b1 : (bytesOf Zs.cB (stringToUtf16 text)).slots.size = (stringBytes (stringToUtf16 text)).size := by
    rw [(Cell.writeAll_facts _ _).2.2]; simp [bytes0]
  have b2 : (stringAt Zs.cS Zs.kS Zs.fv Zs.fc (stringToUtf16 text) W.heap.size).slots.size = 4 := by simp [string0, Cell.setSlot, hn4]
  have b3 : (freshCell P1.m.cls kX).slots.size = 6 := by simp [hn6]
  rw [b1, b2, b3] at X5
  have e9 : slots + (stringBytes (stringToUtf16 text)).size + 4 + 6 = slots + ((stringBytes (stringToUtf16 text)).size + 4 + 6) := by omega
  rw [e9] at X5
  simp only [List.append_assoc, List.cons_append, List.nil_append] at X5
  refine ⟨((withThrown W Zs text P1.m.cls kX).setVm vm').setCell (W.heap.size + 2) (plainBareV T.toThrowableT (freshCell P1.m.cls kX) (W.heap.size + 2) u0 sen (.ref (W.heap.size + 1))), W.heap.size + 2, _, fun target ht => st _ (by rw [X.tail, ← hU]; exact ht),
    X5.forget (fun y hy => ?_), heapAt_setCell_self _ ha, hfound, rfl⟩
  simp only [List.mem_cons, List.not_mem_nil, or_false] at hy
  have hge : s.heap.size ≤ W.heap.size := X.same.2.1
  rcases hy with rfl | rfl | rfl | rfl | rfl <;> exact Nat.le_trans hge (Nat.le_add_right _ 2)
set_option maxHeartbeats 1000000 in
/-- the machine throws NullPointerException, no traces kept: from its note over the frame g to 'throwing' over the same frame (follows the proof of Stand.vmThrowsNpe, Shelf42/KT2.lean; throwsNpeColdBareVAt, Shelf42/NT91.lean, called) -/
theorem vx_npeAt {p : Program} {l : Launch} {e : Env} {R : Room} {s : State} {m₀ : MethodId} {args : Array Value} {below : List Frame} {meth : Method} {c : Code} {W : State} {locs : List Loc} {cells slots : Nat}
    (X : Stand p l e R s m₀ args below meth c W locs cells slots) (hexec : p.tables.exec = Jvm.exec) (htr : e.platform.stackTraces = false) {n : Nat}
    (h : ∀ a ∈ Bundle.npeArmAtoms n, a.before args s = true)
    (hlocs : ∀ x ∈ locs, ∀ cell, s.heap[x.base]? = some cell → cell.vm.isStatics = false)
    {g : JFrame} (hg : g.method = m₀) (hsize : g.locals.size = c.maxLocals)
    (hRframes : 7 < R.frames) (hRlocals : 2 * g.monitorRoom + (g.stack.map fun v => v.category).sum + 10240 ≤ R.locals)
    (hRcells : cells + 1 ≤ R.cells) (hRslots : slots + n ≤ R.slots) (hlocks : meth.locks = false) :
    ∃ (S : State) (q : Addr) (ce : Cell), (∀ target, Steps p.tables e below ((S.setTop g).pushFrame (.throwing q)) target → Steps p.tables e below ((W.setTop g).pushFrame (.throwNew "java/lang/NullPointerException" none none)) target) ∧
      Stand p l e R s m₀ args below meth c S locs (cells + 1) (slots + n) ∧ S.heap[q]? = some ce ∧ s.vm.findClass "java/lang/NullPointerException" = some ce.cls ∧ ce.vm = .none := by
  have howns : e.platform.frameOwnsMonitors = true := by rw [X.admits.platform]
  have hfin : e.platform.finalization = false := by rw [X.admits.platform]
  have hpl : e.platform.magicAccessors = ({} : Platform).magicAccessors := by rw [X.admits.platform]
  have hpl2 : e.platform.arrayCloneIsPublic = true := by rw [X.admits.platform]
  have a' : ∀ x, x ∈ Bundle.npeArmAtoms n → x.holds args s none s [] = true := fun x hx => h x hx
  obtain ⟨T, Z, L, LZ, Y⟩ := ThrowableC.of_atoms (args := args) howns hfin hpl (fun x hx => h x (by simp [Bundle.npeArmAtoms, hx]))
  obtain ⟨N, LN, hcN, hnNF, hordN, hffS⟩ := NpeC.of_atoms (args := args) hpl hpl2 L Y (fun x hx => h x (by simp [Bundle.npeArmAtoms, hx]))
  obtain ⟨P1, L1, hP1m, hP1s⟩ := PassC.of_atoms (args := args) (s := s) hpl (X := Bundle.nN) (Y := Bundle.rN) (by decide) (by decide) LibCode.NullPointerException.Init0.at_0 LibCode.NullPointerException.Init0.at_1 LibCode.NullPointerException.Init0.at_4 (fun x hx => h x (by simp [Bundle.npeArmAtoms, hx]))
  obtain ⟨PR, LR, hPRm, hPRs⟩ := PassC.of_atoms (args := args) (s := s) hpl (X := Bundle.rN) (Y := Bundle.eN) (by decide) (by decide) LibCode.RuntimeException.Init0.at_0 LibCode.RuntimeException.Init0.at_1 LibCode.RuntimeException.Init0.at_4 (fun x hx => h x (by simp [Bundle.npeArmAtoms, hx]))
  obtain ⟨PE, LEx, hPEm, hPEs⟩ := PassC.of_atoms (args := args) (s := s) hpl (X := Bundle.eN) (Y := Bundle.tN) (by decide) (by decide) LibCode.Exception.Init0.at_0 LibCode.Exception.Init0.at_1 LibCode.Exception.Init0.at_4 (fun x hx => h x (by simp [Bundle.npeArmAtoms, hx]))
  have hfound : s.vm.findClass Bundle.nN = some P1.m.cls := findClass_of_methodNamed hP1m
  have ecls : N.cN = P1.m.cls := Option.some.inj (hcN.symm.trans hfound)
  have hk : s.vm.classes[P1.m.cls]? = some N.kN := by rw [← ecls]; exact LN.cls
  have hinit := Cond.initialized_spec hfound hk (a' (.initialized Bundle.nN) (by simp [Bundle.npeArmAtoms]))
  have hctor : N.kN.findMethod "<init>" "()V" = some P1.m.idx := findMethod_of_methodNamed hP1m hk
  obtain ⟨c1, k1, hc1, hk1, -, -, -, hn⟩ := Cond.instantiable_spec (a' (.instantiable Bundle.nN n) (by simp [Bundle.npeArmAtoms]))
  cases Option.some.inj (hc1.symm.trans hfound)
  cases Option.some.inj (hk1.symm.trans hk)
  have hfsz : (freshCell P1.m.cls N.kN).slots.size = n := by simp [hn]
  have hlink1 : P1.sup = PR.m := Option.some.inj (hP1s.symm.trans hPRm)
  have hlinkR : PR.sup = PE.m := Option.some.inj (hPRs.symm.trans hPEm)
  have hlinkE : PE.sup = Z.m T.toThrowableT := Option.some.inj (hPEs.symm.trans Y.init0)
  have hLs : ∀ P, P ∈ [PR, PE] → P.Links0 e.platform s := fun P hP => by
    simp only [List.mem_cons, List.not_mem_nil, or_false] at hP
    rcases hP with rfl | rfl
    · exact LR
    · exact LEx
  have hsel0 : selectMethod e.platform s.vm P1.m.cls T.fill0 = .method T.fill0 := by
    obtain ⟨c2, r2, m2, q1, q2, q3, q4, -⟩ := Cond.selects_spec (a' (.selects Bundle.nN Bundle.tFill0 Bundle.tFill0) (by simp [Bundle.npeArmAtoms]))
    cases Option.some.inj (q1.symm.trans hfound)
    cases Option.some.inj (q2.symm.trans (State.methodFound?_of_named Y.fill0 (by decide)))
    cases Option.some.inj (q3.symm.trans Y.fill0)
    rw [Launch.admits_selectMethod X.admits]; exact q4
  have hselF : selectMethod e.platform s.vm P1.m.cls T.fill = .method N.fill := by
    obtain ⟨c2, r2, m2, q1, q2, q3, q4, -⟩ := Cond.selects_spec (a' (.selects Bundle.nN Bundle.tFill Bundle.nFill) (by simp [Bundle.npeArmAtoms]))
    cases Option.some.inj (q1.symm.trans hfound)
    cases Option.some.inj (q2.symm.trans (State.methodFound?_of_named Y.fill (by decide)))
    cases Option.some.inj (q3.symm.trans hnNF)
    rw [Launch.admits_selectMethod X.admits]; exact q4
  obtain ⟨cellS0, hcS0, hiss⟩ := Y.statics
  obtain ⟨u0, hu0⟩ := Cond.staticRefV Y.unassigned L.unassignedStatic L.statics hcS0 hiss (a' (.isRef (.static Bundle.tN "UNASSIGNED_STACK" Bundle.steD)) (by simp [Bundle.npeArmAtoms]))
  obtain ⟨sen, hsen⟩ := Cond.staticRefV Y.sentinel L.sentinelStatic L.statics hcS0 hiss (a' (.isRef (.static Bundle.tN "SUPPRESSED_SENTINEL" Bundle.listD)) (by simp [Bundle.npeArmAtoms]))
  obtain ⟨ci198, i198, fB, hk198, hg198, ha198, hsB, -, hnB, htB, hffB⟩ := Cond.ownField (t := .object "java/lang/Object") Y.found L.cls (by decide +kernel) (a' (.fieldLink Bundle.tN 198 Bundle.tN "backtrace" Bundle.objD) (by simp [Bundle.npeArmAtoms])) (a' (.lays Bundle.tN Bundle.tN "backtrace" Bundle.objD) (by simp [Bundle.npeArmAtoms])) e.platform hpl
  obtain ⟨cellS, hcS', heS, -, hkeep⟩ := X.same.2.2.2.2.2 T.aS cellS0 hcS0
  have hcellS : W.heap[T.aS]? = some cellS := hcS'
  have hout' : ∀ i, (⟨T.aS, i⟩ : Loc) ∉ locs := fun i hmem => by
    have := hlocs _ hmem cellS0 hcS0
    rw [hiss] at this; cases this
  have hknownS : cellS.vm ≠ .unknown := by
    rw [heS]; intro hu
    rw [show cellS0.vm = .unknown from hu] at hiss
    cases hiss
  have hvU : cellS.slots[T.fUnassigned.slot]? = some u0.v := by rw [hkeep _ (hout' _)]; exact hu0
  have hvSen : cellS.slots[T.fSentinel.slot]? = some sen.v := by rw [hkeep _ (hout' _)]; exact hsen
  obtain ⟨tyC, dC, hdC, hdnC⟩ := Cond.laysAt hfound hk Y.cause (a' (.lays Bundle.nN Bundle.tN "cause" "Ljava/lang/Throwable;") (by simp [Bundle.npeArmAtoms]))
  obtain ⟨tyS, dS, hdS, hdnS⟩ := Cond.laysAt hfound hk Y.stack (a' (.lays Bundle.nN Bundle.tN "stackTrace" Bundle.steD) (by simp [Bundle.npeArmAtoms]))
  obtain ⟨tyP, dP, hdP, hdnP⟩ := Cond.laysAt hfound hk Y.supp (a' (.lays Bundle.nN Bundle.tN "suppressedExceptions" Bundle.listD) (by simp [Bundle.npeArmAtoms]))
  obtain ⟨tyX, dX, hdX, hdnX⟩ := Cond.laysAt hfound hk hffS (a' (.lays Bundle.nN Bundle.nN "extendedMessageState" "I") (by simp [Bundle.npeArmAtoms, Bundle.npeAtoms]))
  obtain ⟨hnX, htX⟩ := State.fieldFound?_type hffS (t := .int) (by decide +kernel)
  have xC := Cond.laysApart hdC hdX hdnC hdnX (by rw [hnX, Y.causeName]; decide)
  have xS := Cond.laysApart hdS hdX hdnS hdnX (by rw [hnX, Y.stackName]; decide)
  have xP := Cond.laysApart hdP hdX hdnP hdnX (by rw [hnX, Y.suppName]; decide)
  have hv0 : (freshCell P1.m.cls N.kN).slots[N.fState.slot]? = some (.int 0) := by
    have := fresh_default (c := P1.m.cls) tyX
    rw [htX] at this; exact this
  obtain ⟨tyB, dB, hdB, hdnB⟩ := Cond.laysAt hfound hk hffB (a' (.lays Bundle.nN Bundle.tN "backtrace" Bundle.objD) (by simp [Bundle.npeArmAtoms]))
  have bC := Cond.laysApart hdB hdC hdnB hdnC (by rw [hnB, Y.causeName]; decide)
  have bS := Cond.laysApart hdB hdS hdnB hdnS (by rw [hnB, Y.stackName]; decide)
  have bP := Cond.laysApart hdB hdP hdnB hdnP (by rw [hnB, Y.suppName]; decide)
  have bX := Cond.laysApart hdB hdX hdnB hdnX (by rw [hnB, hnX]; decide)
  have hbk : ((npeCell N.toNpeT (preparedCellV T.toThrowableT (freshCell P1.m.cls N.kN) W.heap.size u0 sen) W.cur).withEntry W.cur).slots[fB.slot]? = some .null := by
    have := fresh_default (c := P1.m.cls) tyB
    rw [htB] at this
    simpa [npeCell, preparedCellV, Cell.setSlot, Cell.withEntry, Array.getElem?_setIfInBounds, bC, bS, bP, bX, bC.symm, bS.symm, bP.symm, bX.symm, defaultValue] using this
  have tkC := Takes.of_laid (v := .ref W.heap.size) hk hordN tyC (by rw [Y.causeType]; rfl)
  have tkS := Takes.of_laid (v := u0.v) hk hordN tyS (by rw [Y.stackType]; exact fits_refV_array _ u0)
  have tkP := Takes.of_laid (v := sen.v) hk hordN tyP (by rw [Y.suppType]; exact fits_refV_object _ sen)
  have tkX := Takes.of_laid (v := .int 1) hk hordN tyX (by rw [htX]; rfl)
  have hskip : SkipFacts T e.platform s (fun u => u) u0 ((npeCell N.toNpeT (preparedCellV T.toThrowableT (freshCell P1.m.cls N.kN) W.heap.size u0 sen) W.cur).withEntry W.cur) := ⟨{ ci198 := ci198, i198 := i198, fBack := fB }, ⟨hk198, hg198, ha198, hsB⟩, hbk, fun _ _ => rfl⟩
  obtain ⟨vm', X3, st, -⟩ := X.throwsNpeColdBareVAt hexec hg hsize T L Z LZ N LN P1 L1 [PR, PE] hLs hlink1 ⟨hlinkR, hlinkE, trivial⟩ hfound hk hinit hordN hctor hsel0 hselF hcellS hknownS hvU hvSen
    hv0 xC xS xP tkC tkS tkP tkX Y.objLocals hskip (fun _ _ hA hW _ hroom _ hrest => L.nativeOff p htr hA hW hroom hrest) (by simpa using hRframes) hRlocals (by simp) hRcells (by rw [hn]; exact hRslots)
  have hlt : W.heap.size < ((W.pushCell (freshCell P1.m.cls N.kN)).setVm vm').heap.size := by
    show W.heap.size < (W.pushCell (freshCell P1.m.cls N.kN)).heap.size
    rw [State.heap_size_pushCell]; omega
  rw [hfsz] at X3
  obtain ⟨g₁, hfrM⟩ := X3.frames_eq
  have hU : ((((W.pushCell (freshCell P1.m.cls N.kN)).setVm vm').setCell W.heap.size (npeBareV T.toThrowableT N.toNpeT (freshCell P1.m.cls N.kN) W.heap.size u0 sen)).setTop g).pushFrame (.throwing W.heap.size) = (((W.pushCell (freshCell P1.m.cls N.kN)).setVm vm').setCell W.heap.size (npeBareV T.toThrowableT N.toNpeT (freshCell P1.m.cls N.kN) W.heap.size u0 sen)).setFrames (.throwing W.heap.size :: .java g :: below) := by
    rw [State.pushFrame, State.frames_setTop _ hfrM, State.setTop_of_frames _ hfrM, State.setFrames_setFrames]
  refine ⟨_, W.heap.size, _, fun target ht => st.trans (by rw [← hU]; exact ht), X3.forget (fun y hy => ?_), heapAt_setCell_self _ hlt, hfound, rfl⟩
  simp only [List.mem_cons, List.not_mem_nil, or_false] at hy
  have hge : s.heap.size ≤ W.heap.size := X.same.2.1
  rcases hy with rfl | rfl | rfl | rfl | rfl <;> exact hge
/-- the words of a machine's NullPointerException, but the four that speak of the heap -/
def vx_atN (n : Nat) : List Cond := (Bundle.npeArmAtoms n).filter vx_no
/-- the words of a machine's throw with a message, but the four that speak of the heap -/
def vx_atM (X : String) (names : List String) : List Cond := (Bundle.messageArmAtoms X names).filter vx_no
section
variable {p : Program} {l : Launch} {e : Env} {R : Room} {s : State} {m : MethodId} {args : Array Value} {below : List Frame} {meth : Method} {c : Code} {H : Heap} {locs : List Loc} {cells slots : Nat}
/-- a frame seen from a rebased start, seen from the first start again -/
theorem vx_back9 {T S : State} {R' : Room} {k n : Nat} (X : Stand p l e R s m args below meth c T locs cells slots) (Y : Stand p l e R' ((T.setVm s.vm).setFrames (.invoking m args :: below)) m args below meth c T [] 0 0) (Z : Stand p l e R' ((T.setVm s.vm).setFrames (.invoking m args :: below)) m args below meth c S [] k n) :
    Stand p l e R s m args below meth c S locs (cells + k) (slots + n) := by
  have hW0 : s.WarmedH ((T.setVm s.vm).setFrames (.invoking m args :: below)).vm := State.WarmedH.refl s
  refine { admits := X.admits, cas := X.cas, clock := X.clock, frames := X.frames, room := X.room, hears := X.hears, method := X.method, code := X.code, here := Z.here, tail := Z.tail, warmed := State.WarmedH.trans hW0 Z.warmed, limits := Z.limits.trans (Y.limits.symm.trans X.limits), bytes := Z.bytes.trans (Y.bytes.symm.trans X.bytes), same := ?_ }
  obtain ⟨e1, e2⟩ := Z.same
  rw [State.setFrames_setFrames] at e1
  have h2 : (T.setVm s.vm).sameButNew (S.setVm s.vm) [] k n := ⟨e1, e2⟩
  have h3 := X.same.trans h2
  rw [List.append_nil] at h3
  exact h3
/-- from the machine's note that E is thrown here with this text -/
def vx_Note (p : Program) (l : Launch) (e : Env) (R : Room) (s : State) (m : MethodId) (args : Array Value) (below : List Frame) (meth : Method) (c : Code) (H : Heap) (locs : List Loc) (cells slots : Nat) (Q : State → Prop) (g : JFrame) (E text : String) : Prop :=
  ∀ T : State, T.heap = H → Stand p l e R s m args below meth c T locs cells slots → ∃ t, Steps p.tables e below ((T.setTop g).pushFrame (.throwNew E (some text) none)) t ∧ Q t
theorem vx_vm {pc : Nat} {ls : Array Slot} {rest : List Value} {Q : State → Prop} (hexec : p.tables.exec = Jvm.exec) (hl : l.stackTraces = false) {cls text : String} {names : List String} {nb : Nat} {A : Nat → Prop}
    (hcls : Bundle.fit cls = true) (hnames : ∀ n ∈ names, Bundle.fit n = true) (hsoe : (cls == "java/lang/StackOverflowError") = false) (hoom : (cls == "java/lang/OutOfMemoryError") = false)
    (hat : ∀ w ∈ vx_atM cls names, w.before args s = true) (hgood : ∀ w ∈ vx_atM cls names, vx_ot w = true)
    (hU : vx_Zq Bundle.tN "UNASSIGNED_STACK" Bundle.steD A s s.heap) (hN : vx_Zq Bundle.tN "SUPPRESSED_SENTINEL" Bundle.listD A s s.heap) (hS : va_S A s.heap H locs) (hsize : ls.size = c.maxLocals)
    (htext : (text == notModelled) = false) (hnb : (stringBytes (stringToUtf16 text)).size ≤ nb) (hnb1 : nb ≤ 1000)
    (hRframes : names.length + 4 < R.frames) (hRlocals : (rest.map fun v => v.category).sum + 10240 ≤ R.locals) (hshort : 13 * names.length + 55 ≤ 10240) (hRcells : cells + 3 ≤ R.cells) (hRslots : slots + (nb + 10) ≤ R.slots) (hlocks : meth.locks = false)
    (k : ∀ (H1 : Heap) (q9 : Addr) (ce : Cell), H.size ≤ H1.size → (∀ q : Nat, q < H.size → H1[q]? = H[q]?) → va_S A s.heap H1 locs → H1[q9]? = some ce → ce.vm = .none → s.vm.findClass cls = some ce.cls → vx_W p l e R s m args below meth c H1 locs (cells + 3) (slots + (nb + 10)) Q (F0 m pc ls rest) q9) :
    vx_Note p l e R s m args below meth c H locs cells slots Q (F0 m pc ls rest) cls text := by
  intro T hT X
  have htr : e.platform.stackTraces = false := (show e.platform.stackTraces = l.stackTraces by rw [X.admits.platform]).trans hl
  have Y := vx_rebase X (R' := { frames := R.frames, locals := R.locals, cells := 3, slots := nb + 10 }) (Nat.le_refl _) (Nat.le_refl _) hRcells hRslots
  have hhp : ((T.setVm s.vm).setFrames (.invoking m args :: below)).heap = H := hT
  have hW0 : s.WarmedH ((T.setVm s.vm).setFrames (.invoking m args :: below)).vm := State.WarmedH.refl s
  have hat' : ∀ w ∈ vx_atM cls names, w.before args ((T.setVm s.vm).setFrames (.invoking m args :: below)) = true := fun w hw => vx_ot_at hW0 rfl (hgood w hw) (hat w hw)
  have hU' : vx_Zq Bundle.tN "UNASSIGNED_STACK" Bundle.steD A ((T.setVm s.vm).setFrames (.invoking m args :: below)) ((T.setVm s.vm).setFrames (.invoking m args :: below)).heap := by rw [hhp]; exact vx_Zq.moved hW0.alike (hU.kept hS.2.1)
  have hN' : vx_Zq Bundle.tN "SUPPRESSED_SENTINEL" Bundle.listD A ((T.setVm s.vm).setFrames (.invoking m args :: below)) ((T.setVm s.vm).setFrames (.invoking m args :: below)).heap := by rw [hhp]; exact vx_Zq.moved hW0.alike (hN.kept hS.2.1)
  obtain ⟨S, q, ce, st, Z, hce, hcl', hv⟩ := vx_vmAt Y hexec htr (cls := cls) (names := names) (text := text) hcls hnames hsoe hoom (vx_own hat' (vx_isRefq hU'.1) (vx_isRefq hN'.1) hU'.2.word hN'.2.word) (fun x hx => nomatch hx) htext
    (by rw [Launch.admits_arrayLengthLimit X.admits]; omega) (by rw [Launch.admits_maxHeapBytes X.admits]; simp only [componentBytes]; omega)
    (g := F0 m pc ls rest) rfl hsize hRframes (by show 2 * 0 + (rest.map fun v => v.category).sum + 10240 ≤ R.locals; omega) hshort (by show 0 + 3 ≤ 3; omega) (by show 0 + (_ + 4 + 6) ≤ nb + 10; omega) hlocks
  obtain ⟨f1, f2⟩ := vx_frame Z.same
  have f1' : H.size ≤ S.heap.size := by rw [← hT]; exact f1
  have f2' : ∀ q : Nat, q < H.size → S.heap[q]? = H[q]? := fun q hq => by
    rw [← hT]
    exact f2 q (by rw [← hT] at hq; exact hq) (fun z hz => nomatch hz)
  have X5 := vx_back9 X Y Z
  have X6 : Stand p l e R s m args below meth c S locs (cells + 3) (slots + (nb + 10)) := { X5 with same := X5.same.mono (by omega) (by omega) }
  obtain ⟨t, a1, b1⟩ := k S.heap q ce f1' f2' ⟨Nat.le_trans hS.1 f1', fun q h1 h2 => (f2' q (Nat.lt_of_lt_of_le h1 hS.1)).trans (hS.2.1 q h1 h2), hS.2.2⟩ hce hv hcl' S rfl X6
  exact ⟨t, st t a1, b1⟩
/-- from the machine's note that NullPointerException is thrown here -/
def vx_NoteN (p : Program) (l : Launch) (e : Env) (R : Room) (s : State) (m : MethodId) (args : Array Value) (below : List Frame) (meth : Method) (c : Code) (H : Heap) (locs : List Loc) (cells slots : Nat) (Q : State → Prop) (g : JFrame) : Prop :=
  ∀ T : State, T.heap = H → Stand p l e R s m args below meth c T locs cells slots → ∃ t, Steps p.tables e below ((T.setTop g).pushFrame (.throwNew "java/lang/NullPointerException" none none)) t ∧ Q t
theorem vx_npe {pc : Nat} {ls : Array Slot} {rest : List Value} {Q : State → Prop} (hexec : p.tables.exec = Jvm.exec) (hl : l.stackTraces = false) {nb : Nat} {A : Nat → Prop}
    (hat : ∀ w ∈ vx_atN nb, w.before args s = true) (hgood : ∀ w ∈ vx_atN nb, vx_ot w = true)
    (hU : vx_Zq Bundle.tN "UNASSIGNED_STACK" Bundle.steD A s s.heap) (hN : vx_Zq Bundle.tN "SUPPRESSED_SENTINEL" Bundle.listD A s s.heap) (hS : va_S A s.heap H locs) (hsize : ls.size = c.maxLocals)
    (hRframes : 7 < R.frames) (hRlocals : (rest.map fun v => v.category).sum + 10240 ≤ R.locals) (hRcells : cells + 1 ≤ R.cells) (hRslots : slots + nb ≤ R.slots) (hlocks : meth.locks = false)
    (k : ∀ (H1 : Heap) (q9 : Addr) (ce : Cell), H.size ≤ H1.size → (∀ q : Nat, q < H.size → H1[q]? = H[q]?) → va_S A s.heap H1 locs → H1[q9]? = some ce → ce.vm = .none → s.vm.findClass "java/lang/NullPointerException" = some ce.cls → vx_W p l e R s m args below meth c H1 locs (cells + 1) (slots + nb) Q (F0 m pc ls rest) q9) :
    vx_NoteN p l e R s m args below meth c H locs cells slots Q (F0 m pc ls rest) := by
  intro T hT X
  have htr : e.platform.stackTraces = false := (show e.platform.stackTraces = l.stackTraces by rw [X.admits.platform]).trans hl
  have Y := vx_rebase X (R' := { frames := R.frames, locals := R.locals, cells := 1, slots := nb }) (Nat.le_refl _) (Nat.le_refl _) hRcells hRslots
  have hhp : ((T.setVm s.vm).setFrames (.invoking m args :: below)).heap = H := hT
  have hW0 : s.WarmedH ((T.setVm s.vm).setFrames (.invoking m args :: below)).vm := State.WarmedH.refl s
  have hat' : ∀ w ∈ vx_atN nb, w.before args ((T.setVm s.vm).setFrames (.invoking m args :: below)) = true := fun w hw => vx_ot_at hW0 rfl (hgood w hw) (hat w hw)
  have hU' : vx_Zq Bundle.tN "UNASSIGNED_STACK" Bundle.steD A ((T.setVm s.vm).setFrames (.invoking m args :: below)) ((T.setVm s.vm).setFrames (.invoking m args :: below)).heap := by rw [hhp]; exact vx_Zq.moved hW0.alike (hU.kept hS.2.1)
  have hN' : vx_Zq Bundle.tN "SUPPRESSED_SENTINEL" Bundle.listD A ((T.setVm s.vm).setFrames (.invoking m args :: below)) ((T.setVm s.vm).setFrames (.invoking m args :: below)).heap := by rw [hhp]; exact vx_Zq.moved hW0.alike (hN.kept hS.2.1)
  obtain ⟨S, q, ce, st, Z, hce, hcl', hv⟩ := vx_npeAt Y hexec htr (n := nb) (vx_own hat' (vx_isRefq hU'.1) (vx_isRefq hN'.1) hU'.2.word hN'.2.word) (fun x hx => nomatch hx)
    (g := F0 m pc ls rest) rfl hsize hRframes (by show 2 * 0 + (rest.map fun v => v.category).sum + 10240 ≤ R.locals; omega) (by show 0 + 1 ≤ 1; omega) (by show 0 + nb ≤ nb; omega) hlocks
  obtain ⟨f1, f2⟩ := vx_frame Z.same
  have f1' : H.size ≤ S.heap.size := by rw [← hT]; exact f1
  have f2' : ∀ q : Nat, q < H.size → S.heap[q]? = H[q]? := fun q hq => by
    rw [← hT]
    exact f2 q (by rw [← hT] at hq; exact hq) (fun z hz => nomatch hz)
  have X5 := vx_back9 X Y Z
  have X6 : Stand p l e R s m args below meth c S locs (cells + 1) (slots + nb) := { X5 with same := X5.same.mono (by omega) (by omega) }
  obtain ⟨t, a1, b1⟩ := k S.heap q ce f1' f2' ⟨Nat.le_trans hS.1 f1', fun q h1 h2 => (f2' q (Nat.lt_of_lt_of_le h1 hS.1)).trans (hS.2.1 q h1 h2), hS.2.2⟩ hce hv hcl' S rfl X6
  exact ⟨t, st t a1, b1⟩
variable {Q : State → Prop} {cc : ByteArray} {pc : Nat} {ls : Array Slot} {rest : List Value}
theorem vx_idivZ (hexec : p.tables.exec = Jvm.exec) (hb : c.code = cc) {a b : Int32} (h0 : b = 0) (d : decode cc pc = .ok (.idiv, 1)) (k : vx_Note p l e R s m args below meth c H locs cells slots Q (F0 m pc ls rest) "java/lang/ArithmeticException" "/ by zero") :
    W p l e R s m args below meth c H locs cells slots Q (F0 m pc ls (.int b :: .int a :: rest)) := by
  intro T hT X
  obtain ⟨t, st, q⟩ := k T hT X
  exact ⟨t, X.idivZero hexec (g := F0 m pc ls (.int b :: .int a :: rest)) rfl (a := a) (rest := rest) (by rw [h0]) (by rw [hb]; exact d) t st, q⟩
theorem vx_iremZ (hexec : p.tables.exec = Jvm.exec) (hb : c.code = cc) {a b : Int32} (h0 : b = 0) (d : decode cc pc = .ok (.irem, 1)) (k : vx_Note p l e R s m args below meth c H locs cells slots Q (F0 m pc ls rest) "java/lang/ArithmeticException" "/ by zero") :
    W p l e R s m args below meth c H locs cells slots Q (F0 m pc ls (.int b :: .int a :: rest)) := by
  intro T hT X
  obtain ⟨t, st, q⟩ := k T hT X
  exact ⟨t, X.iremZero hexec (g := F0 m pc ls (.int b :: .int a :: rest)) rfl (a := a) (rest := rest) (by rw [h0]) (by rw [hb]; exact d) t st, q⟩
theorem vx_ldivZ (hexec : p.tables.exec = Jvm.exec) (hb : c.code = cc) {a b : Int64} (h0 : b = 0) (d : decode cc pc = .ok (.ldiv, 1)) (k : vx_Note p l e R s m args below meth c H locs cells slots Q (F0 m pc ls rest) "java/lang/ArithmeticException" "/ by zero") :
    W p l e R s m args below meth c H locs cells slots Q (F0 m pc ls (.long b :: .long a :: rest)) := by
  intro T hT X
  obtain ⟨t, st, q⟩ := k T hT X
  exact ⟨t, X.ldivZero hexec (g := F0 m pc ls (.long b :: .long a :: rest)) rfl (a := a) (rest := rest) (by rw [h0]) (by rw [hb]; exact d) t st, q⟩
theorem vx_lremZ (hexec : p.tables.exec = Jvm.exec) (hb : c.code = cc) {a b : Int64} (h0 : b = 0) (d : decode cc pc = .ok (.lrem, 1)) (k : vx_Note p l e R s m args below meth c H locs cells slots Q (F0 m pc ls rest) "java/lang/ArithmeticException" "/ by zero") :
    W p l e R s m args below meth c H locs cells slots Q (F0 m pc ls (.long b :: .long a :: rest)) := by
  intro T hT X
  obtain ⟨t, st, q⟩ := k T hT X
  exact ⟨t, X.lremZero hexec (g := F0 m pc ls (.long b :: .long a :: rest)) rfl (a := a) (rest := rest) (by rw [h0]) (by rw [hb]; exact d) t st, q⟩
theorem vx_ialdZ {D : va_G} {cl : List vw_C} {ws : va_W} {tys : List (ClassId × FieldType)} {a : Nat} (hexec : p.tables.exec = Jvm.exec) (hb : c.code = cc) (hK : va_K D cl tys s) (hP : va_P D cl ws H) (q0 t0 : Nat) {cA : ClassId} {n : Nat} {f : Nat → Int32} (ha : ws[q0]? = some (a, .inl (cA, n, .inl f))) (ht : tys[t0]? = some (cA, .int)) {i : Int32} (hout : ¬ vp_in i n) (hdg : decode cc pc = .ok (.iaload, 1))
    (k : ∀ tx : String, tx = (toString "Index " ++ toString i ++ toString " out of bounds for length " ++ toString n : String) → vx_Note p l e R s m args below meth c H locs cells slots Q (F0 m pc ls rest) "java/lang/ArrayIndexOutOfBoundsException" tx) : W p l e R s m args below meth c H locs cells slots Q (F0 m pc ls (.int i :: .ref a :: rest)) := by
  intro T hT X
  obtain ⟨t, st, q⟩ := k _ rfl T hT X
  refine ⟨t, ?_, q⟩
  have h1 := X.ialoadOut hexec (by rw [hT]; exact hP q0 _ ha) ((hK.2 t0 _ ht).1 n (fun j => .int (f j))) (j := i) (by show (i < 0 ∨ (arrV _ _ _).slots.size ≤ _); rw [arrV_size]; exact Classical.byContradiction hout) (g := F0 m pc ls (.int i :: .ref a :: rest)) rfl (rest := rest) rfl (by rw [hb]; exact hdg) t
  simp only [arrV_size] at h1
  exact h1 st
theorem vx_iastZ {D : va_G} {cl : List vw_C} {ws : va_W} {tys : List (ClassId × FieldType)} {a : Nat} (hexec : p.tables.exec = Jvm.exec) (hb : c.code = cc) (hK : va_K D cl tys s) (hP : va_P D cl ws H) (q0 t0 : Nat) {cA : ClassId} {n : Nat} {f : Nat → Int32} (ha : ws[q0]? = some (a, .inl (cA, n, .inl f))) (ht : tys[t0]? = some (cA, .int)) {i : Int32} {x : Int32} (hout : ¬ vp_in i n) (hdg : decode cc pc = .ok (.iastore, 1))
    (k : ∀ tx : String, tx = (toString "Index " ++ toString i ++ toString " out of bounds for length " ++ toString n : String) → vx_Note p l e R s m args below meth c H locs cells slots Q (F0 m pc ls rest) "java/lang/ArrayIndexOutOfBoundsException" tx) : W p l e R s m args below meth c H locs cells slots Q (F0 m pc ls (.int x :: .int i :: .ref a :: rest)) := by
  intro T hT X
  obtain ⟨t, st, q⟩ := k _ rfl T hT X
  refine ⟨t, ?_, q⟩
  have h1 := X.iastoreOut hexec (by rw [hT]; exact hP q0 _ ha) ((hK.2 t0 _ ht).1 n (fun j => .int (f j))) (j := i) (by show (i < 0 ∨ (arrV _ _ _).slots.size ≤ _); rw [arrV_size]; exact Classical.byContradiction hout) (g := F0 m pc ls (.int x :: .int i :: .ref a :: rest)) rfl (rest := rest) rfl (by rw [hb]; exact hdg) t
  simp only [arrV_size] at h1
  exact h1 st
theorem vx_baldZ {D : va_G} {cl : List vw_C} {ws : va_W} {tys : List (ClassId × FieldType)} {a : Nat} (hexec : p.tables.exec = Jvm.exec) (hb : c.code = cc) (hK : va_K D cl tys s) (hP : va_P D cl ws H) (q0 t0 : Nat) {cA : ClassId} {n : Nat} {f : Nat → Int32} (ha : ws[q0]? = some (a, .inl (cA, n, .inl f))) (ht : tys[t0]? = some (cA, .byte)) {i : Int32} (hout : ¬ vp_in i n) (hdg : decode cc pc = .ok (.baload, 1))
    (k : ∀ tx : String, tx = (toString "Index " ++ toString i ++ toString " out of bounds for length " ++ toString n : String) → vx_Note p l e R s m args below meth c H locs cells slots Q (F0 m pc ls rest) "java/lang/ArrayIndexOutOfBoundsException" tx) : W p l e R s m args below meth c H locs cells slots Q (F0 m pc ls (.int i :: .ref a :: rest)) := by
  intro T hT X
  obtain ⟨t, st, q⟩ := k _ rfl T hT X
  refine ⟨t, ?_, q⟩
  have h1 := X.baloadOut hexec (by rw [hT]; exact hP q0 _ ha) ((hK.2 t0 _ ht).1 n (fun j => .int (f j))) (j := i) (by show (i < 0 ∨ (arrV _ _ _).slots.size ≤ _); rw [arrV_size]; exact Classical.byContradiction hout) (g := F0 m pc ls (.int i :: .ref a :: rest)) rfl (rest := rest) rfl (by rw [hb]; exact hdg) t
  simp only [arrV_size] at h1
  exact h1 st
theorem vx_bastZ {D : va_G} {cl : List vw_C} {ws : va_W} {tys : List (ClassId × FieldType)} {a : Nat} (hexec : p.tables.exec = Jvm.exec) (hb : c.code = cc) (hK : va_K D cl tys s) (hP : va_P D cl ws H) (q0 t0 : Nat) {cA : ClassId} {n : Nat} {f : Nat → Int32} (ha : ws[q0]? = some (a, .inl (cA, n, .inl f))) (ht : tys[t0]? = some (cA, .byte)) {i : Int32} {x : Int32} (hout : ¬ vp_in i n) (hdg : decode cc pc = .ok (.bastore, 1))
    (k : ∀ tx : String, tx = (toString "Index " ++ toString i ++ toString " out of bounds for length " ++ toString n : String) → vx_Note p l e R s m args below meth c H locs cells slots Q (F0 m pc ls rest) "java/lang/ArrayIndexOutOfBoundsException" tx) : W p l e R s m args below meth c H locs cells slots Q (F0 m pc ls (.int x :: .int i :: .ref a :: rest)) := by
  intro T hT X
  obtain ⟨t, st, q⟩ := k _ rfl T hT X
  refine ⟨t, ?_, q⟩
  have h1 := X.bastoreOut hexec (by rw [hT]; exact hP q0 _ ha) ((hK.2 t0 _ ht).1 n (fun j => .int (f j))) (j := i) (by show (i < 0 ∨ (arrV _ _ _).slots.size ≤ _); rw [arrV_size]; exact Classical.byContradiction hout) (g := F0 m pc ls (.int x :: .int i :: .ref a :: rest)) rfl (rest := rest) rfl (by rw [hb]; exact hdg) t
  simp only [arrV_size] at h1
  exact h1 st
theorem vx_zaldZ {D : va_G} {cl : List vw_C} {ws : va_W} {tys : List (ClassId × FieldType)} {a : Nat} (hexec : p.tables.exec = Jvm.exec) (hb : c.code = cc) (hK : va_K D cl tys s) (hP : va_P D cl ws H) (q0 t0 : Nat) {cA : ClassId} {n : Nat} {f : Nat → Int32} (ha : ws[q0]? = some (a, .inl (cA, n, .inl f))) (ht : tys[t0]? = some (cA, .boolean)) {i : Int32} (hout : ¬ vp_in i n) (hdg : decode cc pc = .ok (.baload, 1))
    (k : ∀ tx : String, tx = (toString "Index " ++ toString i ++ toString " out of bounds for length " ++ toString n : String) → vx_Note p l e R s m args below meth c H locs cells slots Q (F0 m pc ls rest) "java/lang/ArrayIndexOutOfBoundsException" tx) : W p l e R s m args below meth c H locs cells slots Q (F0 m pc ls (.int i :: .ref a :: rest)) := by
  intro T hT X
  obtain ⟨t, st, q⟩ := k _ rfl T hT X
  refine ⟨t, ?_, q⟩
  have h1 := X.baloadOut hexec (by rw [hT]; exact hP q0 _ ha) ((hK.2 t0 _ ht).1 n (fun j => .int (f j))) (j := i) (by show (i < 0 ∨ (arrV _ _ _).slots.size ≤ _); rw [arrV_size]; exact Classical.byContradiction hout) (g := F0 m pc ls (.int i :: .ref a :: rest)) rfl (rest := rest) rfl (by rw [hb]; exact hdg) t
  simp only [arrV_size] at h1
  exact h1 st
theorem vx_zastZ {D : va_G} {cl : List vw_C} {ws : va_W} {tys : List (ClassId × FieldType)} {a : Nat} (hexec : p.tables.exec = Jvm.exec) (hb : c.code = cc) (hK : va_K D cl tys s) (hP : va_P D cl ws H) (q0 t0 : Nat) {cA : ClassId} {n : Nat} {f : Nat → Int32} (ha : ws[q0]? = some (a, .inl (cA, n, .inl f))) (ht : tys[t0]? = some (cA, .boolean)) {i : Int32} {x : Int32} (hout : ¬ vp_in i n) (hdg : decode cc pc = .ok (.bastore, 1))
    (k : ∀ tx : String, tx = (toString "Index " ++ toString i ++ toString " out of bounds for length " ++ toString n : String) → vx_Note p l e R s m args below meth c H locs cells slots Q (F0 m pc ls rest) "java/lang/ArrayIndexOutOfBoundsException" tx) : W p l e R s m args below meth c H locs cells slots Q (F0 m pc ls (.int x :: .int i :: .ref a :: rest)) := by
  intro T hT X
  obtain ⟨t, st, q⟩ := k _ rfl T hT X
  refine ⟨t, ?_, q⟩
  have h1 := X.bastoreOut hexec (by rw [hT]; exact hP q0 _ ha) ((hK.2 t0 _ ht).1 n (fun j => .int (f j))) (j := i) (by show (i < 0 ∨ (arrV _ _ _).slots.size ≤ _); rw [arrV_size]; exact Classical.byContradiction hout) (g := F0 m pc ls (.int x :: .int i :: .ref a :: rest)) rfl (rest := rest) rfl (by rw [hb]; exact hdg) t
  simp only [arrV_size] at h1
  exact h1 st
theorem vx_caldZ {D : va_G} {cl : List vw_C} {ws : va_W} {tys : List (ClassId × FieldType)} {a : Nat} (hexec : p.tables.exec = Jvm.exec) (hb : c.code = cc) (hK : va_K D cl tys s) (hP : va_P D cl ws H) (q0 t0 : Nat) {cA : ClassId} {n : Nat} {f : Nat → Int32} (ha : ws[q0]? = some (a, .inl (cA, n, .inl f))) (ht : tys[t0]? = some (cA, .char)) {i : Int32} (hout : ¬ vp_in i n) (hdg : decode cc pc = .ok (.caload, 1))
    (k : ∀ tx : String, tx = (toString "Index " ++ toString i ++ toString " out of bounds for length " ++ toString n : String) → vx_Note p l e R s m args below meth c H locs cells slots Q (F0 m pc ls rest) "java/lang/ArrayIndexOutOfBoundsException" tx) : W p l e R s m args below meth c H locs cells slots Q (F0 m pc ls (.int i :: .ref a :: rest)) := by
  intro T hT X
  obtain ⟨t, st, q⟩ := k _ rfl T hT X
  refine ⟨t, ?_, q⟩
  have h1 := X.caloadOut hexec (by rw [hT]; exact hP q0 _ ha) ((hK.2 t0 _ ht).1 n (fun j => .int (f j))) (j := i) (by show (i < 0 ∨ (arrV _ _ _).slots.size ≤ _); rw [arrV_size]; exact Classical.byContradiction hout) (g := F0 m pc ls (.int i :: .ref a :: rest)) rfl (rest := rest) rfl (by rw [hb]; exact hdg) t
  simp only [arrV_size] at h1
  exact h1 st
theorem vx_castZ {D : va_G} {cl : List vw_C} {ws : va_W} {tys : List (ClassId × FieldType)} {a : Nat} (hexec : p.tables.exec = Jvm.exec) (hb : c.code = cc) (hK : va_K D cl tys s) (hP : va_P D cl ws H) (q0 t0 : Nat) {cA : ClassId} {n : Nat} {f : Nat → Int32} (ha : ws[q0]? = some (a, .inl (cA, n, .inl f))) (ht : tys[t0]? = some (cA, .char)) {i : Int32} {x : Int32} (hout : ¬ vp_in i n) (hdg : decode cc pc = .ok (.castore, 1))
    (k : ∀ tx : String, tx = (toString "Index " ++ toString i ++ toString " out of bounds for length " ++ toString n : String) → vx_Note p l e R s m args below meth c H locs cells slots Q (F0 m pc ls rest) "java/lang/ArrayIndexOutOfBoundsException" tx) : W p l e R s m args below meth c H locs cells slots Q (F0 m pc ls (.int x :: .int i :: .ref a :: rest)) := by
  intro T hT X
  obtain ⟨t, st, q⟩ := k _ rfl T hT X
  refine ⟨t, ?_, q⟩
  have h1 := X.castoreOut hexec (by rw [hT]; exact hP q0 _ ha) ((hK.2 t0 _ ht).1 n (fun j => .int (f j))) (j := i) (by show (i < 0 ∨ (arrV _ _ _).slots.size ≤ _); rw [arrV_size]; exact Classical.byContradiction hout) (g := F0 m pc ls (.int x :: .int i :: .ref a :: rest)) rfl (rest := rest) rfl (by rw [hb]; exact hdg) t
  simp only [arrV_size] at h1
  exact h1 st
theorem vx_saldZ {D : va_G} {cl : List vw_C} {ws : va_W} {tys : List (ClassId × FieldType)} {a : Nat} (hexec : p.tables.exec = Jvm.exec) (hb : c.code = cc) (hK : va_K D cl tys s) (hP : va_P D cl ws H) (q0 t0 : Nat) {cA : ClassId} {n : Nat} {f : Nat → Int32} (ha : ws[q0]? = some (a, .inl (cA, n, .inl f))) (ht : tys[t0]? = some (cA, .short)) {i : Int32} (hout : ¬ vp_in i n) (hdg : decode cc pc = .ok (.saload, 1))
    (k : ∀ tx : String, tx = (toString "Index " ++ toString i ++ toString " out of bounds for length " ++ toString n : String) → vx_Note p l e R s m args below meth c H locs cells slots Q (F0 m pc ls rest) "java/lang/ArrayIndexOutOfBoundsException" tx) : W p l e R s m args below meth c H locs cells slots Q (F0 m pc ls (.int i :: .ref a :: rest)) := by
  intro T hT X
  obtain ⟨t, st, q⟩ := k _ rfl T hT X
  refine ⟨t, ?_, q⟩
  have h1 := X.saloadOut hexec (by rw [hT]; exact hP q0 _ ha) ((hK.2 t0 _ ht).1 n (fun j => .int (f j))) (j := i) (by show (i < 0 ∨ (arrV _ _ _).slots.size ≤ _); rw [arrV_size]; exact Classical.byContradiction hout) (g := F0 m pc ls (.int i :: .ref a :: rest)) rfl (rest := rest) rfl (by rw [hb]; exact hdg) t
  simp only [arrV_size] at h1
  exact h1 st
theorem vx_sastZ {D : va_G} {cl : List vw_C} {ws : va_W} {tys : List (ClassId × FieldType)} {a : Nat} (hexec : p.tables.exec = Jvm.exec) (hb : c.code = cc) (hK : va_K D cl tys s) (hP : va_P D cl ws H) (q0 t0 : Nat) {cA : ClassId} {n : Nat} {f : Nat → Int32} (ha : ws[q0]? = some (a, .inl (cA, n, .inl f))) (ht : tys[t0]? = some (cA, .short)) {i : Int32} {x : Int32} (hout : ¬ vp_in i n) (hdg : decode cc pc = .ok (.sastore, 1))
    (k : ∀ tx : String, tx = (toString "Index " ++ toString i ++ toString " out of bounds for length " ++ toString n : String) → vx_Note p l e R s m args below meth c H locs cells slots Q (F0 m pc ls rest) "java/lang/ArrayIndexOutOfBoundsException" tx) : W p l e R s m args below meth c H locs cells slots Q (F0 m pc ls (.int x :: .int i :: .ref a :: rest)) := by
  intro T hT X
  obtain ⟨t, st, q⟩ := k _ rfl T hT X
  refine ⟨t, ?_, q⟩
  have h1 := X.sastoreOut hexec (by rw [hT]; exact hP q0 _ ha) ((hK.2 t0 _ ht).1 n (fun j => .int (f j))) (j := i) (by show (i < 0 ∨ (arrV _ _ _).slots.size ≤ _); rw [arrV_size]; exact Classical.byContradiction hout) (g := F0 m pc ls (.int x :: .int i :: .ref a :: rest)) rfl (rest := rest) rfl (by rw [hb]; exact hdg) t
  simp only [arrV_size] at h1
  exact h1 st
theorem vx_laldZ {D : va_G} {cl : List vw_C} {ws : va_W} {tys : List (ClassId × FieldType)} {a : Nat} (hexec : p.tables.exec = Jvm.exec) (hb : c.code = cc) (hK : va_K D cl tys s) (hP : va_P D cl ws H) (q0 t0 : Nat) {cA : ClassId} {n : Nat} {f : Nat → Int64} (ha : ws[q0]? = some (a, .inl (cA, n, .inr (.inl f)))) (ht : tys[t0]? = some (cA, .long)) {i : Int32} (hout : ¬ vp_in i n) (hdg : decode cc pc = .ok (.laload, 1))
    (k : ∀ tx : String, tx = (toString "Index " ++ toString i ++ toString " out of bounds for length " ++ toString n : String) → vx_Note p l e R s m args below meth c H locs cells slots Q (F0 m pc ls rest) "java/lang/ArrayIndexOutOfBoundsException" tx) : W p l e R s m args below meth c H locs cells slots Q (F0 m pc ls (.int i :: .ref a :: rest)) := by
  intro T hT X
  obtain ⟨t, st, q⟩ := k _ rfl T hT X
  refine ⟨t, ?_, q⟩
  have h1 := X.laloadOut hexec (by rw [hT]; exact hP q0 _ ha) ((hK.2 t0 _ ht).1 n (fun j => .long (f j))) (j := i) (by show (i < 0 ∨ (arrV _ _ _).slots.size ≤ _); rw [arrV_size]; exact Classical.byContradiction hout) (g := F0 m pc ls (.int i :: .ref a :: rest)) rfl (rest := rest) rfl (by rw [hb]; exact hdg) t
  simp only [arrV_size] at h1
  exact h1 st
theorem vx_lastZ {D : va_G} {cl : List vw_C} {ws : va_W} {tys : List (ClassId × FieldType)} {a : Nat} (hexec : p.tables.exec = Jvm.exec) (hb : c.code = cc) (hK : va_K D cl tys s) (hP : va_P D cl ws H) (q0 t0 : Nat) {cA : ClassId} {n : Nat} {f : Nat → Int64} (ha : ws[q0]? = some (a, .inl (cA, n, .inr (.inl f)))) (ht : tys[t0]? = some (cA, .long)) {i : Int32} {x : Int64} (hout : ¬ vp_in i n) (hdg : decode cc pc = .ok (.lastore, 1))
    (k : ∀ tx : String, tx = (toString "Index " ++ toString i ++ toString " out of bounds for length " ++ toString n : String) → vx_Note p l e R s m args below meth c H locs cells slots Q (F0 m pc ls rest) "java/lang/ArrayIndexOutOfBoundsException" tx) : W p l e R s m args below meth c H locs cells slots Q (F0 m pc ls (.long x :: .int i :: .ref a :: rest)) := by
  intro T hT X
  obtain ⟨t, st, q⟩ := k _ rfl T hT X
  refine ⟨t, ?_, q⟩
  have h1 := X.lastoreOut hexec (by rw [hT]; exact hP q0 _ ha) ((hK.2 t0 _ ht).1 n (fun j => .long (f j))) (j := i) (by show (i < 0 ∨ (arrV _ _ _).slots.size ≤ _); rw [arrV_size]; exact Classical.byContradiction hout) (g := F0 m pc ls (.long x :: .int i :: .ref a :: rest)) rfl (rest := rest) rfl (by rw [hb]; exact hdg) t
  simp only [arrV_size] at h1
  exact h1 st
theorem vx_faldZ {D : va_G} {cl : List vw_C} {ws : va_W} {tys : List (ClassId × FieldType)} {a : Nat} (hexec : p.tables.exec = Jvm.exec) (hb : c.code = cc) (hK : va_K D cl tys s) (hP : va_P D cl ws H) (q0 t0 : Nat) {cA : ClassId} {n : Nat} {f : Nat → UInt32} (ha : ws[q0]? = some (a, .inl (cA, n, .inr (.inr (.inl f))))) (ht : tys[t0]? = some (cA, .float)) {i : Int32} (hout : ¬ vp_in i n) (hdg : decode cc pc = .ok (.faload, 1))
    (k : ∀ tx : String, tx = (toString "Index " ++ toString i ++ toString " out of bounds for length " ++ toString n : String) → vx_Note p l e R s m args below meth c H locs cells slots Q (F0 m pc ls rest) "java/lang/ArrayIndexOutOfBoundsException" tx) : W p l e R s m args below meth c H locs cells slots Q (F0 m pc ls (.int i :: .ref a :: rest)) := by
  intro T hT X
  obtain ⟨t, st, q⟩ := k _ rfl T hT X
  refine ⟨t, ?_, q⟩
  have h1 := X.faloadOut hexec (by rw [hT]; exact hP q0 _ ha) ((hK.2 t0 _ ht).1 n (fun j => .float (f j))) (j := i) (by show (i < 0 ∨ (arrV _ _ _).slots.size ≤ _); rw [arrV_size]; exact Classical.byContradiction hout) (g := F0 m pc ls (.int i :: .ref a :: rest)) rfl (rest := rest) rfl (by rw [hb]; exact hdg) t
  simp only [arrV_size] at h1
  exact h1 st
theorem vx_fastZ {D : va_G} {cl : List vw_C} {ws : va_W} {tys : List (ClassId × FieldType)} {a : Nat} (hexec : p.tables.exec = Jvm.exec) (hb : c.code = cc) (hK : va_K D cl tys s) (hP : va_P D cl ws H) (q0 t0 : Nat) {cA : ClassId} {n : Nat} {f : Nat → UInt32} (ha : ws[q0]? = some (a, .inl (cA, n, .inr (.inr (.inl f))))) (ht : tys[t0]? = some (cA, .float)) {i : Int32} {x : UInt32} (hout : ¬ vp_in i n) (hdg : decode cc pc = .ok (.fastore, 1))
    (k : ∀ tx : String, tx = (toString "Index " ++ toString i ++ toString " out of bounds for length " ++ toString n : String) → vx_Note p l e R s m args below meth c H locs cells slots Q (F0 m pc ls rest) "java/lang/ArrayIndexOutOfBoundsException" tx) : W p l e R s m args below meth c H locs cells slots Q (F0 m pc ls (.float x :: .int i :: .ref a :: rest)) := by
  intro T hT X
  obtain ⟨t, st, q⟩ := k _ rfl T hT X
  refine ⟨t, ?_, q⟩
  have h1 := X.fastoreOut hexec (by rw [hT]; exact hP q0 _ ha) ((hK.2 t0 _ ht).1 n (fun j => .float (f j))) (j := i) (by show (i < 0 ∨ (arrV _ _ _).slots.size ≤ _); rw [arrV_size]; exact Classical.byContradiction hout) (g := F0 m pc ls (.float x :: .int i :: .ref a :: rest)) rfl (rest := rest) rfl (by rw [hb]; exact hdg) t
  simp only [arrV_size] at h1
  exact h1 st
theorem vx_daldZ {D : va_G} {cl : List vw_C} {ws : va_W} {tys : List (ClassId × FieldType)} {a : Nat} (hexec : p.tables.exec = Jvm.exec) (hb : c.code = cc) (hK : va_K D cl tys s) (hP : va_P D cl ws H) (q0 t0 : Nat) {cA : ClassId} {n : Nat} {f : Nat → UInt64} (ha : ws[q0]? = some (a, .inl (cA, n, .inr (.inr (.inr (.inl f)))))) (ht : tys[t0]? = some (cA, .double)) {i : Int32} (hout : ¬ vp_in i n) (hdg : decode cc pc = .ok (.daload, 1))
    (k : ∀ tx : String, tx = (toString "Index " ++ toString i ++ toString " out of bounds for length " ++ toString n : String) → vx_Note p l e R s m args below meth c H locs cells slots Q (F0 m pc ls rest) "java/lang/ArrayIndexOutOfBoundsException" tx) : W p l e R s m args below meth c H locs cells slots Q (F0 m pc ls (.int i :: .ref a :: rest)) := by
  intro T hT X
  obtain ⟨t, st, q⟩ := k _ rfl T hT X
  refine ⟨t, ?_, q⟩
  have h1 := X.daloadOut hexec (by rw [hT]; exact hP q0 _ ha) ((hK.2 t0 _ ht).1 n (fun j => .double (f j))) (j := i) (by show (i < 0 ∨ (arrV _ _ _).slots.size ≤ _); rw [arrV_size]; exact Classical.byContradiction hout) (g := F0 m pc ls (.int i :: .ref a :: rest)) rfl (rest := rest) rfl (by rw [hb]; exact hdg) t
  simp only [arrV_size] at h1
  exact h1 st
theorem vx_dastZ {D : va_G} {cl : List vw_C} {ws : va_W} {tys : List (ClassId × FieldType)} {a : Nat} (hexec : p.tables.exec = Jvm.exec) (hb : c.code = cc) (hK : va_K D cl tys s) (hP : va_P D cl ws H) (q0 t0 : Nat) {cA : ClassId} {n : Nat} {f : Nat → UInt64} (ha : ws[q0]? = some (a, .inl (cA, n, .inr (.inr (.inr (.inl f)))))) (ht : tys[t0]? = some (cA, .double)) {i : Int32} {x : UInt64} (hout : ¬ vp_in i n) (hdg : decode cc pc = .ok (.dastore, 1))
    (k : ∀ tx : String, tx = (toString "Index " ++ toString i ++ toString " out of bounds for length " ++ toString n : String) → vx_Note p l e R s m args below meth c H locs cells slots Q (F0 m pc ls rest) "java/lang/ArrayIndexOutOfBoundsException" tx) : W p l e R s m args below meth c H locs cells slots Q (F0 m pc ls (.double x :: .int i :: .ref a :: rest)) := by
  intro T hT X
  obtain ⟨t, st, q⟩ := k _ rfl T hT X
  refine ⟨t, ?_, q⟩
  have h1 := X.dastoreOut hexec (by rw [hT]; exact hP q0 _ ha) ((hK.2 t0 _ ht).1 n (fun j => .double (f j))) (j := i) (by show (i < 0 ∨ (arrV _ _ _).slots.size ≤ _); rw [arrV_size]; exact Classical.byContradiction hout) (g := F0 m pc ls (.double x :: .int i :: .ref a :: rest)) rfl (rest := rest) rfl (by rw [hb]; exact hdg) t
  simp only [arrV_size] at h1
  exact h1 st
theorem vx_arraylengthN (hexec : p.tables.exec = Jvm.exec) (hb : c.code = cc) (hdg : decode cc pc = .ok (.arraylength, 1)) (k : vx_NoteN p l e R s m args below meth c H locs cells slots Q (F0 m pc ls rest)) : W p l e R s m args below meth c H locs cells slots Q (F0 m pc ls (.null :: rest)) := by
  intro T hT X
  obtain ⟨t, st, q⟩ := k T hT X
  exact ⟨t, X.arraylengthNull hexec (g := F0 m pc ls (.null :: rest)) rfl (rest := rest) rfl (by rw [hb]; exact hdg) t st, q⟩
theorem vx_ialoadN (hexec : p.tables.exec = Jvm.exec) (hb : c.code = cc) {i : Int32} (hdg : decode cc pc = .ok (.iaload, 1)) (k : vx_NoteN p l e R s m args below meth c H locs cells slots Q (F0 m pc ls rest)) : W p l e R s m args below meth c H locs cells slots Q (F0 m pc ls (.int i :: .null :: rest)) := by
  intro T hT X
  obtain ⟨t, st, q⟩ := k T hT X
  exact ⟨t, X.ialoadNull hexec (g := F0 m pc ls (.int i :: .null :: rest)) rfl (rest := rest) rfl (by rw [hb]; exact hdg) t st, q⟩
theorem vx_laloadN (hexec : p.tables.exec = Jvm.exec) (hb : c.code = cc) {i : Int32} (hdg : decode cc pc = .ok (.laload, 1)) (k : vx_NoteN p l e R s m args below meth c H locs cells slots Q (F0 m pc ls rest)) : W p l e R s m args below meth c H locs cells slots Q (F0 m pc ls (.int i :: .null :: rest)) := by
  intro T hT X
  obtain ⟨t, st, q⟩ := k T hT X
  exact ⟨t, X.laloadNull hexec (g := F0 m pc ls (.int i :: .null :: rest)) rfl (rest := rest) rfl (by rw [hb]; exact hdg) t st, q⟩
theorem vx_faloadN (hexec : p.tables.exec = Jvm.exec) (hb : c.code = cc) {i : Int32} (hdg : decode cc pc = .ok (.faload, 1)) (k : vx_NoteN p l e R s m args below meth c H locs cells slots Q (F0 m pc ls rest)) : W p l e R s m args below meth c H locs cells slots Q (F0 m pc ls (.int i :: .null :: rest)) := by
  intro T hT X
  obtain ⟨t, st, q⟩ := k T hT X
  exact ⟨t, X.faloadNull hexec (g := F0 m pc ls (.int i :: .null :: rest)) rfl (rest := rest) rfl (by rw [hb]; exact hdg) t st, q⟩
theorem vx_daloadN (hexec : p.tables.exec = Jvm.exec) (hb : c.code = cc) {i : Int32} (hdg : decode cc pc = .ok (.daload, 1)) (k : vx_NoteN p l e R s m args below meth c H locs cells slots Q (F0 m pc ls rest)) : W p l e R s m args below meth c H locs cells slots Q (F0 m pc ls (.int i :: .null :: rest)) := by
  intro T hT X
  obtain ⟨t, st, q⟩ := k T hT X
  exact ⟨t, X.daloadNull hexec (g := F0 m pc ls (.int i :: .null :: rest)) rfl (rest := rest) rfl (by rw [hb]; exact hdg) t st, q⟩
theorem vx_aaloadN (hexec : p.tables.exec = Jvm.exec) (hb : c.code = cc) {i : Int32} (hdg : decode cc pc = .ok (.aaload, 1)) (k : vx_NoteN p l e R s m args below meth c H locs cells slots Q (F0 m pc ls rest)) : W p l e R s m args below meth c H locs cells slots Q (F0 m pc ls (.int i :: .null :: rest)) := by
  intro T hT X
  obtain ⟨t, st, q⟩ := k T hT X
  exact ⟨t, X.aaloadNull hexec (g := F0 m pc ls (.int i :: .null :: rest)) rfl (rest := rest) rfl (by rw [hb]; exact hdg) t st, q⟩
theorem vx_baloadN (hexec : p.tables.exec = Jvm.exec) (hb : c.code = cc) {i : Int32} (hdg : decode cc pc = .ok (.baload, 1)) (k : vx_NoteN p l e R s m args below meth c H locs cells slots Q (F0 m pc ls rest)) : W p l e R s m args below meth c H locs cells slots Q (F0 m pc ls (.int i :: .null :: rest)) := by
  intro T hT X
  obtain ⟨t, st, q⟩ := k T hT X
  exact ⟨t, X.baloadNull hexec (g := F0 m pc ls (.int i :: .null :: rest)) rfl (rest := rest) rfl (by rw [hb]; exact hdg) t st, q⟩
theorem vx_caloadN (hexec : p.tables.exec = Jvm.exec) (hb : c.code = cc) {i : Int32} (hdg : decode cc pc = .ok (.caload, 1)) (k : vx_NoteN p l e R s m args below meth c H locs cells slots Q (F0 m pc ls rest)) : W p l e R s m args below meth c H locs cells slots Q (F0 m pc ls (.int i :: .null :: rest)) := by
  intro T hT X
  obtain ⟨t, st, q⟩ := k T hT X
  exact ⟨t, X.caloadNull hexec (g := F0 m pc ls (.int i :: .null :: rest)) rfl (rest := rest) rfl (by rw [hb]; exact hdg) t st, q⟩
theorem vx_saloadN (hexec : p.tables.exec = Jvm.exec) (hb : c.code = cc) {i : Int32} (hdg : decode cc pc = .ok (.saload, 1)) (k : vx_NoteN p l e R s m args below meth c H locs cells slots Q (F0 m pc ls rest)) : W p l e R s m args below meth c H locs cells slots Q (F0 m pc ls (.int i :: .null :: rest)) := by
  intro T hT X
  obtain ⟨t, st, q⟩ := k T hT X
  exact ⟨t, X.saloadNull hexec (g := F0 m pc ls (.int i :: .null :: rest)) rfl (rest := rest) rfl (by rw [hb]; exact hdg) t st, q⟩
theorem vx_iastoreN (hexec : p.tables.exec = Jvm.exec) (hb : c.code = cc) {x : Int32} {i : Int32} (hdg : decode cc pc = .ok (.iastore, 1)) (k : vx_NoteN p l e R s m args below meth c H locs cells slots Q (F0 m pc ls rest)) : W p l e R s m args below meth c H locs cells slots Q (F0 m pc ls (.int x :: .int i :: .null :: rest)) := by
  intro T hT X
  obtain ⟨t, st, q⟩ := k T hT X
  exact ⟨t, X.iastoreNull hexec (g := F0 m pc ls (.int x :: .int i :: .null :: rest)) rfl (rest := rest) rfl (by rw [hb]; exact hdg) t st, q⟩
theorem vx_lastoreN (hexec : p.tables.exec = Jvm.exec) (hb : c.code = cc) {x : Int64} {i : Int32} (hdg : decode cc pc = .ok (.lastore, 1)) (k : vx_NoteN p l e R s m args below meth c H locs cells slots Q (F0 m pc ls rest)) : W p l e R s m args below meth c H locs cells slots Q (F0 m pc ls (.long x :: .int i :: .null :: rest)) := by
  intro T hT X
  obtain ⟨t, st, q⟩ := k T hT X
  exact ⟨t, X.lastoreNull hexec (g := F0 m pc ls (.long x :: .int i :: .null :: rest)) rfl (rest := rest) rfl (by rw [hb]; exact hdg) t st, q⟩
theorem vx_fastoreN (hexec : p.tables.exec = Jvm.exec) (hb : c.code = cc) {x : UInt32} {i : Int32} (hdg : decode cc pc = .ok (.fastore, 1)) (k : vx_NoteN p l e R s m args below meth c H locs cells slots Q (F0 m pc ls rest)) : W p l e R s m args below meth c H locs cells slots Q (F0 m pc ls (.float x :: .int i :: .null :: rest)) := by
  intro T hT X
  obtain ⟨t, st, q⟩ := k T hT X
  exact ⟨t, X.fastoreNull hexec (g := F0 m pc ls (.float x :: .int i :: .null :: rest)) rfl (rest := rest) rfl (by rw [hb]; exact hdg) t st, q⟩
theorem vx_dastoreN (hexec : p.tables.exec = Jvm.exec) (hb : c.code = cc) {x : UInt64} {i : Int32} (hdg : decode cc pc = .ok (.dastore, 1)) (k : vx_NoteN p l e R s m args below meth c H locs cells slots Q (F0 m pc ls rest)) : W p l e R s m args below meth c H locs cells slots Q (F0 m pc ls (.double x :: .int i :: .null :: rest)) := by
  intro T hT X
  obtain ⟨t, st, q⟩ := k T hT X
  exact ⟨t, X.dastoreNull hexec (g := F0 m pc ls (.double x :: .int i :: .null :: rest)) rfl (rest := rest) rfl (by rw [hb]; exact hdg) t st, q⟩
theorem vx_bastoreN (hexec : p.tables.exec = Jvm.exec) (hb : c.code = cc) {x : Int32} {i : Int32} (hdg : decode cc pc = .ok (.bastore, 1)) (k : vx_NoteN p l e R s m args below meth c H locs cells slots Q (F0 m pc ls rest)) : W p l e R s m args below meth c H locs cells slots Q (F0 m pc ls (.int x :: .int i :: .null :: rest)) := by
  intro T hT X
  obtain ⟨t, st, q⟩ := k T hT X
  exact ⟨t, X.bastoreNull hexec (g := F0 m pc ls (.int x :: .int i :: .null :: rest)) rfl (rest := rest) rfl (by rw [hb]; exact hdg) t st, q⟩
theorem vx_castoreN (hexec : p.tables.exec = Jvm.exec) (hb : c.code = cc) {x : Int32} {i : Int32} (hdg : decode cc pc = .ok (.castore, 1)) (k : vx_NoteN p l e R s m args below meth c H locs cells slots Q (F0 m pc ls rest)) : W p l e R s m args below meth c H locs cells slots Q (F0 m pc ls (.int x :: .int i :: .null :: rest)) := by
  intro T hT X
  obtain ⟨t, st, q⟩ := k T hT X
  exact ⟨t, X.castoreNull hexec (g := F0 m pc ls (.int x :: .int i :: .null :: rest)) rfl (rest := rest) rfl (by rw [hb]; exact hdg) t st, q⟩
theorem vx_sastoreN (hexec : p.tables.exec = Jvm.exec) (hb : c.code = cc) {x : Int32} {i : Int32} (hdg : decode cc pc = .ok (.sastore, 1)) (k : vx_NoteN p l e R s m args below meth c H locs cells slots Q (F0 m pc ls rest)) : W p l e R s m args below meth c H locs cells slots Q (F0 m pc ls (.int x :: .int i :: .null :: rest)) := by
  intro T hT X
  obtain ⟨t, st, q⟩ := k T hT X
  exact ⟨t, X.sastoreNull hexec (g := F0 m pc ls (.int x :: .int i :: .null :: rest)) rfl (rest := rest) rfl (by rw [hb]; exact hdg) t st, q⟩
theorem vx_invokeN {own C : String} {index maxL : Nat} {y : MethodName} {bytes : ByteArray} {ret : Option FieldType} (hexec : p.tables.exec = Jvm.exec) (hb : c.code = cc) (hown : s.vm.findClass own = some m.cls) (hlink : (Cond.methodLink own index y).before args s = true) (hinst : (Cond.instanceMethod y).before args s = true) (hcode : (Cond.code y bytes maxL ret).before args s = true) (hsel : (Cond.selects C y y).before args s = true)
    (hx : y.cls ≠ "java/lang/invoke/MethodHandle" ∧ y.cls ≠ "java/lang/invoke/VarHandle") {As : List Value} (hlen : (parseMethodDescriptor y.desc).map (fun d => d.parameters.length) = some As.length) (hdg : decode cc pc = .ok (.invokevirtual index, 3))
    (k : vx_NoteN p l e R s m args below meth c H locs cells slots Q (F0 m pc ls rest)) {st0 : List Value} (hst : st0 = As.reverse ++ .null :: rest) : W p l e R s m args below meth c H locs cells slots Q (F0 m pc ls st0) := by
  intro T hT X
  obtain ⟨r0, r, hn, hrm, hstR, hsigR⟩ := va_Decl.of hinst hcode
  obtain ⟨c2, r2, m2, q1, q2, q3, q4, kP, hkP, hkPi⟩ := Cond.selects_spec hsel
  cases hn.symm.trans q3
  have hl9 : As.length = r.sig.parameters.length := by
    rw [hsigR] at hlen
    exact (Option.some.inj hlen).symm
  obtain ⟨vm', X1, st1⟩ := X.invokevirtualNull hexec hown hlink hn hrm hstR hkP hkPi hx (g := F0 m pc ls st0) rfl (argsL := As) (rest := rest) hl9 hst (by rw [hb]; exact hdg)
  obtain ⟨t, st, q⟩ := k (T.setVm vm') hT X1
  exact ⟨t, st1 t st, q⟩
theorem vx_newarrayZ {atype : ArrayType} (hexec : p.tables.exec = Jvm.exec) (hb : c.code = cc) {n : Int32} (h0 : n < 0) (hdg : decode cc pc = .ok (.newarray atype, 2)) (k : ∀ tx : String, tx = toString n → vx_Note p l e R s m args below meth c H locs cells slots Q (F0 m pc ls rest) "java/lang/NegativeArraySizeException" tx) : W p l e R s m args below meth c H locs cells slots Q (F0 m pc ls (.int n :: rest)) := by
  intro T hT X
  obtain ⟨t, st, q⟩ := k _ rfl T hT X
  exact ⟨t, X.newarrayNegative hexec (g := F0 m pc ls (.int n :: rest)) rfl h0 (rest := rest) rfl (by rw [hb]; exact hdg) t st, q⟩
end
end VXM
/-! ===== END ===== -/
/-! ===== BEGIN an exception as an object: made, kept, thrown later (no traces kept) ===== -/
section VXK
variable {p : Program} {l : Launch} {e : Env} {R : Room} {s : State} {m₀ : MethodId} {args : Array Value} {below : List Frame} {meth : Method} {c : Code} {W : State} {locs : List Loc} {cells slots : Nat}
set_option maxHeartbeats 1000000 in
theorem vx_ctorMadeS (X : Stand p l e R s m₀ args below meth c W locs cells slots) (hexec : p.tables.exec = Jvm.exec) (htr : e.platform.stackTraces = false) {own cls : String} {names : List String} {ic : Nat}
    (hown : s.vm.findClass own = some m₀.cls) (hcls : Bundle.fit cls = true) (hnames : ∀ n ∈ names, Bundle.fit n = true)
    (h : ∀ a ∈ Bundle.ownAtoms own ic cls names, a.before args s = true)
    (hlocs : ∀ x ∈ locs, ∀ cell, s.heap[x.base]? = some cell → cell.vm.isStatics = false)
    {a : Addr} {cX : ClassId} {kX : Class} (hfoundX : s.vm.findClass cls = some cX) (hkX : s.vm.classes[cX]? = some kX) (hcell : W.heap[a]? = some (freshCell cX kX)) (hnew : s.heap.size ≤ a)
    {msg : Value} (hmsg : msg.isRef = true)
    {g : JFrame} (hg : g.method = m₀) (hsize : g.locals.size = c.maxLocals) {rest : List Value} (hstack : g.stack = msg :: .ref a :: .ref a :: rest)
    (hd6 : decode c.code g.pc = .ok (.invokespecial ic, 3))
    (hRframes : names.length + 3 < R.frames) (hRlocals : 2 * g.monitorRoom + ((Value.ref a :: rest).map fun v => v.category).sum + (13 * (names.length + 1) + 42) ≤ R.locals) :
    ∃ (V : State) (ce : Cell) (L : List Loc), Stand p l e R s m₀ args below meth c (V.setCell a ce) (locs ++ L) cells slots ∧ (∀ y ∈ L, y.base = a) ∧ a < V.heap.size ∧ ce.cls = cX ∧ ce.vm = .none ∧
      ∀ target, Steps p.tables e below ((V.setCell a ce).setTop { g with stack := .ref a :: rest, pc := g.pc + 3 }) target → Steps p.tables e below (W.setTop g) target := by
  have howns : e.platform.frameOwnsMonitors = true := by rw [X.admits.platform]
  have hfin : e.platform.finalization = false := by rw [X.admits.platform]
  have hpl : e.platform.magicAccessors = ({} : Platform).magicAccessors := by rw [X.admits.platform]
  have a' : ∀ x, x ∈ Bundle.ownAtoms own ic cls names → x.holds args s none s [] = true := fun x hx => h x hx
  obtain ⟨T, Z0, L, -, Y⟩ := ThrowableC.of_atoms (args := args) howns hfin hpl (fun x hx => h x (by simp [Bundle.ownAtoms, hx]))
  obtain ⟨Z, M, LZ, LM, hnZ⟩ := Init0T.ofS_atoms (args := args) hpl L Y (fun x hx => h x (by simp [Bundle.ownAtoms, hx]))
  obtain ⟨P1, Ps, hlen, L1, hL, hP1m, hlink1, hlink⟩ := Bundle.chainS (args := args) hpl hnZ names cls hcls hnames (fun x hx => h x (by simp [Bundle.ownAtoms, hx]))
  have hfound : s.vm.findClass cls = some P1.m.cls := findClass_of_methodNamed hP1m
  cases Option.some.inj (hfoundX.symm.trans hfound)
  obtain ⟨c1, kX', hc1, hk, hord, -, -, hn6⟩ := Cond.instantiable_spec (a' (.instantiable cls 6) (by simp [Bundle.ownAtoms]))
  cases Option.some.inj (hc1.symm.trans hfound)
  cases Option.some.inj (hkX.symm.trans hk)
  have hsel0 : selectMethod e.platform s.vm P1.m.cls T.fill0 = .method T.fill0 := by
    obtain ⟨c2, r2, m2, q1, q2, q3, q4, -⟩ := Cond.selects_spec (a' (.selects cls Bundle.tFill0 Bundle.tFill0) (by simp [Bundle.ownAtoms]))
    cases Option.some.inj (q1.symm.trans hfound)
    cases Option.some.inj (q2.symm.trans (State.methodFound?_of_named Y.fill0 (by decide)))
    cases Option.some.inj (q3.symm.trans Y.fill0)
    rw [Launch.admits_selectMethod X.admits]; exact q4
  have hselF : selectMethod e.platform s.vm P1.m.cls T.fill = .method T.fill := by
    obtain ⟨c2, r2, m2, q1, q2, q3, q4, -⟩ := Cond.selects_spec (a' (.selects cls Bundle.tFill Bundle.tFill) (by simp [Bundle.ownAtoms]))
    cases Option.some.inj (q1.symm.trans hfound)
    cases Option.some.inj (q2.symm.trans (State.methodFound?_of_named Y.fill (by decide)))
    cases Option.some.inj (q3.symm.trans Y.fill)
    rw [Launch.admits_selectMethod X.admits]; exact q4
  obtain ⟨cellS0, hcS0, hiss⟩ := Y.statics
  obtain ⟨u0, hu0⟩ := Cond.staticRefV Y.unassigned L.unassignedStatic L.statics hcS0 hiss (a' (.isRef (.static Bundle.tN "UNASSIGNED_STACK" Bundle.steD)) (by simp [Bundle.ownAtoms]))
  obtain ⟨sen, hsen⟩ := Cond.staticRefV Y.sentinel L.sentinelStatic L.statics hcS0 hiss (a' (.isRef (.static Bundle.tN "SUPPRESSED_SENTINEL" Bundle.listD)) (by simp [Bundle.ownAtoms]))
  obtain ⟨ci198, i198, fB, hk198, hg198, ha198, hsB, -, hnB, htB, hffB⟩ := Cond.ownField (t := .object "java/lang/Object") Y.found L.cls (by decide +kernel) (a' (.fieldLink Bundle.tN 198 Bundle.tN "backtrace" "Ljava/lang/Object;") (by simp [Bundle.ownAtoms])) (a' (.lays Bundle.tN Bundle.tN "backtrace" "Ljava/lang/Object;") (by simp [Bundle.ownAtoms])) e.platform hpl
  obtain ⟨cellS, hcS', heS, -, hkeep⟩ := X.same.2.2.2.2.2 T.aS cellS0 hcS0
  have hcellS : W.heap[T.aS]? = some cellS := hcS'
  have hout' : ∀ i, (⟨T.aS, i⟩ : Loc) ∉ locs := fun i hmem => by
    have := hlocs _ hmem cellS0 hcS0
    rw [hiss] at this; cases this
  have hknownS : cellS.vm ≠ .unknown := by
    rw [heS]; intro hu
    rw [show cellS0.vm = .unknown from hu] at hiss
    cases hiss
  have hneS : T.aS ≠ a := Nat.ne_of_lt (Nat.lt_of_lt_of_le (Array.getElem?_eq_some_iff.mp hcS0).1 hnew)
  obtain ⟨iM, hffM⟩ := Y.msg
  obtain ⟨tyC, dC, hdC, hdnC⟩ := Cond.laysAt hfound hk Y.cause (a' (.lays cls Bundle.tN "cause" "Ljava/lang/Throwable;") (by simp [Bundle.ownAtoms]))
  obtain ⟨tyS, dS, hdS, hdnS⟩ := Cond.laysAt hfound hk Y.stack (a' (.lays cls Bundle.tN "stackTrace" Bundle.steD) (by simp [Bundle.ownAtoms]))
  obtain ⟨tyP, dP, hdP, hdnP⟩ := Cond.laysAt hfound hk Y.supp (a' (.lays cls Bundle.tN "suppressedExceptions" Bundle.listD) (by simp [Bundle.ownAtoms]))
  obtain ⟨tyM, dM, hdM, hdnM⟩ := Cond.laysAt hfound hk hffM (a' (.lays cls Bundle.tN "detailMessage" "Ljava/lang/String;") (by simp [Bundle.ownAtoms]))
  obtain ⟨tyB, dB, hdB, hdnB⟩ := Cond.laysAt hfound hk hffB (a' (.lays cls Bundle.tN "backtrace" "Ljava/lang/Object;") (by simp [Bundle.ownAtoms]))
  have bC := Cond.laysApart hdB hdC hdnB hdnC (by rw [hnB, Y.causeName]; decide)
  have bS := Cond.laysApart hdB hdS hdnB hdnS (by rw [hnB, Y.stackName]; decide)
  have bP := Cond.laysApart hdB hdP hdnB hdnP (by rw [hnB, Y.suppName]; decide)
  have hskip : SkipFacts T e.platform s (fun u => u) u0 ((preparedCellV T.toThrowableT (freshCell P1.m.cls kX) a u0 sen).withEntry W.cur) :=
    ⟨{ ci198 := ci198, i198 := i198, fBack := fB }, ⟨hk198, hg198, ha198, hsB⟩, by
      have := fresh_default (c := P1.m.cls) tyB
      rw [htB] at this
      simpa [preparedCellV, Cell.setSlot, Cell.withEntry, Array.getElem?_setIfInBounds, bC, bS, bP, bC.symm, bS.symm, bP.symm, defaultValue] using this, fun _ _ => rfl⟩
  obtain ⟨tm, methC, cdC, kC, vm₁, hnC, -, -, -, -, -, -, -, hW₁, st1⟩ := Steps.initColdS (tb := p.tables) (e := e) (below := below) (s := s) (U := W) X.here hexec X.warmed hpl hown (t := Bundle.initS cls) rfl rfl (Bundle.fit_spec hcls).2
    (a' (.methodLink own ic (Bundle.initS cls)) (by simp [Bundle.ownAtoms])) (h (.instanceMethod (Bundle.initS cls)) (by cases names <;> simp [Bundle.ownAtoms, Bundle.chainSAtoms, Bundle.passSAtoms])) (bytes := Bundle.six) (maxL := 2) (h (.code (Bundle.initS cls) Bundle.six 2 none) (by cases names <;> simp [Bundle.ownAtoms, Bundle.chainSAtoms, Bundle.passSAtoms]))
    (f := g) hg (a := a) (msg := msg) (rest := .ref a :: rest) hstack hd6
  cases Option.some.inj (hnC.symm.trans hP1m)
  have X₁ := X.noted hW₁
  obtain ⟨vm₂, X₂, st2⟩ := X₁.ctorMessageOffV hexec (g := { g with stack := .ref a :: rest }) hg hsize T L Z LZ M LM (P1 :: Ps)
    (fun P hP => by rcases List.mem_cons.mp hP with rfl | hP; exact L1; exact hL P hP) ⟨hlink1, hlink⟩ (u0 := u0) (sen := sen) (self := a) hmsg (cell := freshCell P1.m.cls kX) (cellS := cellS)
    hcell (fun _ => by simp) (by simp) rfl rfl hsel0 hselF hcellS hneS hknownS (by rw [hkeep _ (hout' _)]; exact hu0) (by rw [hkeep _ (hout' _)]; exact hsen)
    (Takes.of_laid hk hord tyC (by rw [Y.causeType]; rfl)) (Takes.of_laid hk hord tyS (by rw [Y.stackType]; exact fits_refV_array _ u0)) (Takes.of_laid hk hord tyP (by rw [Y.suppType]; exact fits_refV_object _ sen))
    (Takes.of_laid hk hord tyM (by rw [Y.msgType]; exact fits_refV_object _ ⟨msg, hmsg⟩)) Y.objLocals hskip htr [] hd6
    (by simp only [List.length_cons, hlen]; omega) (by simp only [List.length_cons, hlen]; exact hRlocals)
  have hlt : a < ((W.setVm vm₁).setVm vm₂).heap.size := (Array.getElem?_eq_some_iff.mp hcell).1
  refine ⟨(W.setVm vm₁).setVm vm₂, _, _, X₂, fun y hy => ?_, hlt, rfl, rfl, fun target hwalk => st1 _ (fun acts => ?_)⟩
  · simp only [List.mem_cons, List.not_mem_nil, or_false] at hy
    rcases hy with rfl | rfl | rfl | rfl | rfl <;> rfl
  · rw [doInvoke_state]
    exact st2 _ hwalk
set_option maxHeartbeats 1000000 in
theorem vx_ctorMade0 (X : Stand p l e R s m₀ args below meth c W locs cells slots) (hexec : p.tables.exec = Jvm.exec) (htr : e.platform.stackTraces = false) {own cls : String} {names : List String} {ic : Nat}
    (hown : s.vm.findClass own = some m₀.cls) (hcls : Bundle.fit cls = true) (hnames : ∀ n ∈ names, Bundle.fit n = true)
    (h : ∀ a ∈ Bundle.ownAtoms0 own ic cls names, a.before args s = true)
    (hlocs : ∀ x ∈ locs, ∀ cell, s.heap[x.base]? = some cell → cell.vm.isStatics = false)
    {a : Addr} {cX : ClassId} {kX : Class} (hfoundX : s.vm.findClass cls = some cX) (hkX : s.vm.classes[cX]? = some kX) (hcell : W.heap[a]? = some (freshCell cX kX)) (hnew : s.heap.size ≤ a)
    {g : JFrame} (hg : g.method = m₀) (hsize : g.locals.size = c.maxLocals) {rest : List Value} (hstack : g.stack = .ref a :: .ref a :: rest)
    (hd6 : decode c.code g.pc = .ok (.invokespecial ic, 3))
    (hRframes : names.length + 3 < R.frames) (hRlocals : 2 * g.monitorRoom + ((Value.ref a :: rest).map fun v => v.category).sum + (13 * (names.length + 1) + 41) ≤ R.locals) :
    ∃ (V : State) (ce : Cell) (L : List Loc), Stand p l e R s m₀ args below meth c (V.setCell a ce) (locs ++ L) cells slots ∧ (∀ y ∈ L, y.base = a) ∧ a < V.heap.size ∧ ce.cls = cX ∧ ce.vm = .none ∧
      ∀ target, Steps p.tables e below ((V.setCell a ce).setTop { g with stack := .ref a :: rest, pc := g.pc + 3 }) target → Steps p.tables e below (W.setTop g) target := by
  have howns : e.platform.frameOwnsMonitors = true := by rw [X.admits.platform]
  have hfin : e.platform.finalization = false := by rw [X.admits.platform]
  have hpl : e.platform.magicAccessors = ({} : Platform).magicAccessors := by rw [X.admits.platform]
  have a' : ∀ x, x ∈ Bundle.ownAtoms0 own ic cls names → x.holds args s none s [] = true := fun x hx => h x hx
  obtain ⟨T, Z, L, LZ, Y⟩ := ThrowableC.of_atoms (args := args) howns hfin hpl (fun x hx => h x (by simp [Bundle.ownAtoms0, hx]))
  obtain ⟨P1, Ps, hlen, L1, hL, hP1m, hlink1, hlink⟩ := Bundle.chain0 (args := args) hpl Y.init0 names cls hcls hnames (fun x hx => h x (by simp [Bundle.ownAtoms0, hx]))
  have hfound : s.vm.findClass cls = some P1.m.cls := findClass_of_methodNamed hP1m
  cases Option.some.inj (hfoundX.symm.trans hfound)
  obtain ⟨c1, kX', hc1, hk, hord, -, -, hn6⟩ := Cond.instantiable_spec (a' (.instantiable cls 6) (by simp [Bundle.ownAtoms0]))
  cases Option.some.inj (hc1.symm.trans hfound)
  cases Option.some.inj (hkX.symm.trans hk)
  have hsel0 : selectMethod e.platform s.vm P1.m.cls T.fill0 = .method T.fill0 := by
    obtain ⟨c2, r2, m2, q1, q2, q3, q4, -⟩ := Cond.selects_spec (a' (.selects cls Bundle.tFill0 Bundle.tFill0) (by simp [Bundle.ownAtoms0]))
    cases Option.some.inj (q1.symm.trans hfound)
    cases Option.some.inj (q2.symm.trans (State.methodFound?_of_named Y.fill0 (by decide)))
    cases Option.some.inj (q3.symm.trans Y.fill0)
    rw [Launch.admits_selectMethod X.admits]; exact q4
  have hselF : selectMethod e.platform s.vm P1.m.cls T.fill = .method T.fill := by
    obtain ⟨c2, r2, m2, q1, q2, q3, q4, -⟩ := Cond.selects_spec (a' (.selects cls Bundle.tFill Bundle.tFill) (by simp [Bundle.ownAtoms0]))
    cases Option.some.inj (q1.symm.trans hfound)
    cases Option.some.inj (q2.symm.trans (State.methodFound?_of_named Y.fill (by decide)))
    cases Option.some.inj (q3.symm.trans Y.fill)
    rw [Launch.admits_selectMethod X.admits]; exact q4
  obtain ⟨cellS0, hcS0, hiss⟩ := Y.statics
  obtain ⟨u0, hu0⟩ := Cond.staticRefV Y.unassigned L.unassignedStatic L.statics hcS0 hiss (a' (.isRef (.static Bundle.tN "UNASSIGNED_STACK" Bundle.steD)) (by simp [Bundle.ownAtoms0]))
  obtain ⟨sen, hsen⟩ := Cond.staticRefV Y.sentinel L.sentinelStatic L.statics hcS0 hiss (a' (.isRef (.static Bundle.tN "SUPPRESSED_SENTINEL" Bundle.listD)) (by simp [Bundle.ownAtoms0]))
  obtain ⟨ci198, i198, fB, hk198, hg198, ha198, hsB, -, hnB, htB, hffB⟩ := Cond.ownField (t := .object "java/lang/Object") Y.found L.cls (by decide +kernel) (a' (.fieldLink Bundle.tN 198 Bundle.tN "backtrace" "Ljava/lang/Object;") (by simp [Bundle.ownAtoms0])) (a' (.lays Bundle.tN Bundle.tN "backtrace" "Ljava/lang/Object;") (by simp [Bundle.ownAtoms0])) e.platform hpl
  obtain ⟨cellS, hcS', heS, -, hkeep⟩ := X.same.2.2.2.2.2 T.aS cellS0 hcS0
  have hcellS : W.heap[T.aS]? = some cellS := hcS'
  have hout' : ∀ i, (⟨T.aS, i⟩ : Loc) ∉ locs := fun i hmem => by
    have := hlocs _ hmem cellS0 hcS0
    rw [hiss] at this; cases this
  have hknownS : cellS.vm ≠ .unknown := by
    rw [heS]; intro hu
    rw [show cellS0.vm = .unknown from hu] at hiss
    cases hiss
  have hneS : T.aS ≠ a := Nat.ne_of_lt (Nat.lt_of_lt_of_le (Array.getElem?_eq_some_iff.mp hcS0).1 hnew)
  obtain ⟨iM, hffM⟩ := Y.msg
  obtain ⟨tyC, dC, hdC, hdnC⟩ := Cond.laysAt hfound hk Y.cause (a' (.lays cls Bundle.tN "cause" "Ljava/lang/Throwable;") (by simp [Bundle.ownAtoms0]))
  obtain ⟨tyS, dS, hdS, hdnS⟩ := Cond.laysAt hfound hk Y.stack (a' (.lays cls Bundle.tN "stackTrace" Bundle.steD) (by simp [Bundle.ownAtoms0]))
  obtain ⟨tyP, dP, hdP, hdnP⟩ := Cond.laysAt hfound hk Y.supp (a' (.lays cls Bundle.tN "suppressedExceptions" Bundle.listD) (by simp [Bundle.ownAtoms0]))
  obtain ⟨tyM, dM, hdM, hdnM⟩ := Cond.laysAt hfound hk hffM (a' (.lays cls Bundle.tN "detailMessage" "Ljava/lang/String;") (by simp [Bundle.ownAtoms0]))
  obtain ⟨tyB, dB, hdB, hdnB⟩ := Cond.laysAt hfound hk hffB (a' (.lays cls Bundle.tN "backtrace" "Ljava/lang/Object;") (by simp [Bundle.ownAtoms0]))
  have bC := Cond.laysApart hdB hdC hdnB hdnC (by rw [hnB, Y.causeName]; decide)
  have bS := Cond.laysApart hdB hdS hdnB hdnS (by rw [hnB, Y.stackName]; decide)
  have bP := Cond.laysApart hdB hdP hdnB hdnP (by rw [hnB, Y.suppName]; decide)
  have hskip : SkipFacts T e.platform s (fun u => u) u0 ((preparedCellV T.toThrowableT (freshCell P1.m.cls kX) a u0 sen).withEntry W.cur) :=
    ⟨{ ci198 := ci198, i198 := i198, fBack := fB }, ⟨hk198, hg198, ha198, hsB⟩, by
      have := fresh_default (c := P1.m.cls) tyB
      rw [htB] at this
      simpa [preparedCellV, Cell.setSlot, Cell.withEntry, Array.getElem?_setIfInBounds, bC, bS, bP, bC.symm, bS.symm, bP.symm, defaultValue] using this, fun _ _ => rfl⟩
  obtain ⟨tm, methC, cdC, kC, vm₁, hnC, -, -, -, -, -, -, -, hW₁, st1⟩ := Steps.initCold (tb := p.tables) (e := e) (below := below) (s := s) (U := W) X.here hexec X.warmed hpl hown (t := Bundle.init0 cls) rfl rfl (Bundle.fit_spec hcls).2
    (a' (.methodLink own ic (Bundle.init0 cls)) (by simp [Bundle.ownAtoms0])) (h (.instanceMethod (Bundle.init0 cls)) (by cases names <;> simp [Bundle.ownAtoms0, Bundle.chain0Atoms, Bundle.passAtoms])) (bytes := Bundle.five) (maxL := 1) (h (.code (Bundle.init0 cls) Bundle.five 1 none) (by cases names <;> simp [Bundle.ownAtoms0, Bundle.chain0Atoms, Bundle.passAtoms]))
    (f := g) hg (a := a) (rest := .ref a :: rest) hstack hd6
  cases Option.some.inj (hnC.symm.trans hP1m)
  have X₁ := X.noted hW₁
  obtain ⟨vm₂, X₂, st2⟩ := X₁.ctorPlainOffV hexec (g := { g with stack := .ref a :: rest }) hg hsize T L Z LZ (P1 :: Ps)
    (fun P hP => by rcases List.mem_cons.mp hP with rfl | hP; exact L1; exact hL P hP) ⟨hlink1, hlink⟩ (u0 := u0) (sen := sen) (self := a) (cell := freshCell P1.m.cls kX) (cellS := cellS)
    hcell (fun _ => by simp) (by simp) rfl rfl hsel0 hselF hcellS hneS hknownS (by rw [hkeep _ (hout' _)]; exact hu0) (by rw [hkeep _ (hout' _)]; exact hsen)
    (Takes.of_laid hk hord tyC (by rw [Y.causeType]; rfl)) (Takes.of_laid hk hord tyS (by rw [Y.stackType]; exact fits_refV_array _ u0)) (Takes.of_laid hk hord tyP (by rw [Y.suppType]; exact fits_refV_object _ sen)) Y.objLocals hskip htr [] hd6
    (by simp only [List.length_cons, hlen]; omega) (by simp only [List.length_cons, hlen]; exact hRlocals)
  have hlt : a < ((W.setVm vm₁).setVm vm₂).heap.size := (Array.getElem?_eq_some_iff.mp hcell).1
  refine ⟨(W.setVm vm₁).setVm vm₂, _, _, X₂, fun y hy => ?_, hlt, rfl, rfl, fun target hwalk => st1 _ (fun acts => ?_)⟩
  · simp only [List.mem_cons, List.not_mem_nil, or_false] at hy
    rcases hy with rfl | rfl | rfl | rfl <;> rfl
  · rw [doInvoke_state]
    exact st2 _ hwalk
end VXK
section VXK2
variable {p : Program} {l : Launch} {e : Env} {R : Room} {s : State} {m : MethodId} {args : Array Value} {below : List Frame} {meth : Method} {c : Code} {H : Heap} {locs : List Loc} {cells slots : Nat} {Q : State → Prop}
variable {ls : Array Slot} {rest : List Value} {D : va_G} {cl : List vw_C} {tys : List (ClassId × FieldType)} {ws : va_W}
/-- 'new E("text")' that isn't thrown at once: the object goes on the stack -/
theorem vx_makeS {cc : ByteArray} {pc : Nat} (hexec : p.tables.exec = Jvm.exec) (hb : c.code = cc) (hl : l.stackTraces = false) {own cls text : String} {names : List String} {ik is ic sa ci : Nat} {A : Nat → Prop} {T0 : u_T}
    (hown : s.vm.findClass own = some m.cls) (hcls : Bundle.fit cls = true) (hnames : ∀ n ∈ names, Bundle.fit n = true)
    (hk : (Cond.classLink own ik cls).before args s = true) (hini : (Cond.initialized cls).before args s = true) (hstr : vk_R own is text sa s) (hat : ∀ w ∈ vx_atS own ic cls names, w.before args s = true)
    (hgood : ∀ w ∈ Cond.classLink own ik cls :: Cond.initialized cls :: vx_atS own ic cls names, vx_ot w = true)
    (hU : vx_Zq Bundle.tN "UNASSIGNED_STACK" Bundle.steD A s s.heap) (hN : vx_Zq Bundle.tN "SUPPRESSED_SENTINEL" Bundle.listD A s s.heap) (hS : va_S A s.heap H locs) (hsize : ls.size = c.maxLocals)
    (d0 : decode cc pc = .ok (.new ik, 3)) (d3 : decode cc (pc + 3) = .ok (.dup, 1)) (d4 : decode cc (pc + 4) = .ok (.ldc is, 2)) (d6 : decode cc (pc + 6) = .ok (.invokespecial ic, 3))
    (hK : va_K D cl tys s) (hP : va_P D cl ws H) (hD : va_D A ws) (hA : ∀ q, s.heap.size ≤ q → A q) (hc : cl[ci]? = some (cls, T0, 0))
    (hRframes : names.length + 3 < R.frames) (hRlocals : (rest.map fun v => v.category).sum + (13 * (names.length + 1) + 43) ≤ R.locals) (hRcells : cells + 1 ≤ R.cells) (hRslots : slots + 6 ≤ R.slots)
    (kk : ∀ (q : Nat) (H1 : Heap), va_P D cl (ws ++ [(q, .inr (ci, []))]) H1 → va_D A (ws ++ [(q, .inr (ci, []))]) → va_S A s.heap H1 locs → W p l e R s m args below meth c H1 locs (cells + 1) (slots + 6) Q (F0 m (pc + 9) ls (.ref q :: rest))) :
    W p l e R s m args below meth c H locs cells slots Q (F0 m pc ls rest) := by
  intro T hT X
  subst hT
  have htr : e.platform.stackTraces = false := (show e.platform.stackTraces = l.stackTraces by rw [X.admits.platform]).trans hl
  have Y := vx_rebase X (R' := { frames := R.frames, locals := R.locals, cells := 1, slots := 6 }) (Nat.le_refl _) (Nat.le_refl _) hRcells hRslots
  obtain ⟨s', hA'⟩ : ∃ z, z = (T.setVm s.vm).setFrames (.invoking m args :: below) := ⟨_, rfl⟩
  rw [← hA'] at Y
  have hvm : s'.vm = s.vm := by rw [hA']; rfl
  have hhp : s'.heap = T.heap := by rw [hA']; rfl
  have hW0 : s.WarmedH s'.vm := by rw [hvm]; exact State.WarmedH.refl s
  have hat' : ∀ w ∈ vx_atS own ic cls names, w.before args s' = true := fun w hw => vx_ot_at hW0 hvm.symm (hgood w (List.mem_cons_of_mem _ (List.mem_cons_of_mem _ hw))) (hat w hw)
  have hk' : (Cond.classLink own ik cls).before args s' = true := vx_ot_at hW0 hvm.symm (hgood _ List.mem_cons_self) hk
  have hini' : (Cond.initialized cls).before args s' = true := vx_ot_at hW0 hvm.symm (hgood _ (List.mem_cons_of_mem _ List.mem_cons_self)) hini
  have hU' : vx_Zq Bundle.tN "UNASSIGNED_STACK" Bundle.steD A s' s'.heap := by rw [hhp]; exact vx_Zq.moved hW0.alike (hU.kept hS.2.1)
  have hN' : vx_Zq Bundle.tN "SUPPRESSED_SENTINEL" Bundle.listD A s' s'.heap := by rw [hhp]; exact vx_Zq.moved hW0.alike (hN.kept hS.2.1)
  have h : ∀ w ∈ Bundle.ownAtoms own ic cls names, w.before args s' = true := vx_own hat' (vx_isRefq hU'.1) (vx_isRefq hN'.1) hU'.2.word hN'.2.word
  have hown' : s'.vm.findClass own = some m.cls := by rw [hvm]; exact hown
  have hins : (Cond.instantiable cls 6).before args s' = true := h _ (by simp [Bundle.ownAtoms])
  obtain ⟨vm₁, cX, kX, hfX, hkX, -, -, X₁, st1⟩ := Y.newCold hexec (own := own) (C := cls) (index := ik) (n := 6) hown' hk' hins hini'
    (g := F0 m pc ls rest) rfl (by rw [hb]; exact d0) (Nat.le_refl _) (Nat.le_refl _)
  generalize hT1 : (T.setVm vm₁).pushCell { cls := cX, slots := kX.instanceTypes.map defaultValue, vm := .none } = T1 at X₁ st1
  have hcat : (Value.ref T.heap.size).category = 1 := rfl
  have hcellA : T1.heap[T.heap.size]? = some (freshCell cX kX) := by rw [← hT1]; exact State.heap_pushCell_size _ _
  have d3' : decode c.code (pc + 3) = .ok (.dup, 1) := by rw [hb]; exact d3
  have d4' : decode c.code (pc + 4) = .ok (.ldc is, 2) := by rw [hb]; exact d4
  have hstr' : vk_R own is text sa s' := vk_R.warm hW0 hstr
  obtain ⟨V, ce, L, Z, hL, hlt, hcl9, hvm9, st⟩ := vx_ctorMadeS X₁ hexec htr (own := own) (cls := cls) (names := names) (ic := ic) hown' hcls hnames h (fun x hx => nomatch hx) hfX hkX hcellA (by rw [hhp]; exact Nat.le_refl _) (msg := .ref sa) rfl
    (g := { method := m, pc := pc + 6, locals := ls, stack := .ref sa :: .ref T.heap.size :: .ref T.heap.size :: rest, locked := none }) rfl hsize (rest := rest) rfl
    (by rw [hb]; exact d6) hRframes (by simp only [List.map_cons, List.sum_cons, hcat]; omega)
  have Z0 := Stand.forget (locs := []) Z (fun y hy => by rw [hL y hy, hhp]; exact Nat.le_refl _)
  obtain ⟨f1, f2⟩ := vx_frame Z0.same
  rw [hhp] at f1 f2
  have hcid : ce.cls = D.1 ci := by
    rw [hcl9]
    have h1 := (hK.1 ci _ hc).2.1
    rw [hvm] at hfX
    exact Option.some.inj (hfX.symm.trans h1)
  have hh : (V.setCell T.heap.size ce).heap[T.heap.size]? = some ce := heapAt_setCell_self (s := V) ce hlt
  subst hA'
  have X5 := vx_back9 X Y Z0
  have X6 : Stand p l e R s m args below meth c (V.setCell T.heap.size ce) locs (cells + 1) (slots + 6) := { X5 with same := X5.same.mono (by omega) (by omega) }
  have hk9 : ∀ (k : Nat) (x : Nat × va_E), ws[k]? = some x → (V.setCell T.heap.size ce).heap[x.1]? = T.heap[x.1]? := fun k x hx => f2 x.1 ((hP k x hx).lt) (fun z hz => nomatch hz)
  obtain ⟨t, a1, b1⟩ := kk T.heap.size (V.setCell T.heap.size ce).heap ((hP.kept hk9).app (fun k x hx => by
      have hz : k < 1 := (List.getElem?_eq_some_iff.mp hx).1
      rw [show k = 0 by omega] at hx
      cases hx
      exact ⟨_, hc, ce, hh, hcid, hvm9, fun k hk => absurd hk (Nat.not_lt_zero k)⟩)) (hD.push hP rfl (hA _ hS.1)) ⟨Nat.le_trans hS.1 f1, fun q h1 h2 => (f2 q (Nat.lt_of_lt_of_le h1 hS.1) (fun z hz => nomatch hz)).trans (hS.2.1 q h1 h2), hS.2.2⟩ _ rfl X6
  refine ⟨t, st1 _ ?_, b1⟩
  show Steps p.tables e below (T1.setTop { method := m, pc := pc + 3, locals := ls, stack := .ref T.heap.size :: rest, locked := none }) _
  jvm_step X₁.here [X₁.here.top, hexec, d3', Value.category]
  exact X₁.ldcString hexec (own := own) (text := text) (index := is) (a := sa) hown' hstr'.1 hstr'.2
    (g := { method := m, pc := pc + 4, locals := ls, stack := .ref T.heap.size :: .ref T.heap.size :: rest, locked := none }) rfl d4' _ (st _ a1)
/-- 'new E()' that isn't thrown at once: the object goes on the stack -/
theorem vx_make0 {cc : ByteArray} {pc : Nat} (hexec : p.tables.exec = Jvm.exec) (hb : c.code = cc) (hl : l.stackTraces = false) {own cls : String} {names : List String} {ik ic ci : Nat} {A : Nat → Prop} {T0 : u_T}
    (hown : s.vm.findClass own = some m.cls) (hcls : Bundle.fit cls = true) (hnames : ∀ n ∈ names, Bundle.fit n = true)
    (hk : (Cond.classLink own ik cls).before args s = true) (hini : (Cond.initialized cls).before args s = true) (hat : ∀ w ∈ vx_at0 own ic cls names, w.before args s = true)
    (hgood : ∀ w ∈ Cond.classLink own ik cls :: Cond.initialized cls :: vx_at0 own ic cls names, vx_ot w = true)
    (hU : vx_Zq Bundle.tN "UNASSIGNED_STACK" Bundle.steD A s s.heap) (hN : vx_Zq Bundle.tN "SUPPRESSED_SENTINEL" Bundle.listD A s s.heap) (hS : va_S A s.heap H locs) (hsize : ls.size = c.maxLocals)
    (d0 : decode cc pc = .ok (.new ik, 3)) (d3 : decode cc (pc + 3) = .ok (.dup, 1)) (d4 : decode cc (pc + 4) = .ok (.invokespecial ic, 3))
    (hK : va_K D cl tys s) (hP : va_P D cl ws H) (hD : va_D A ws) (hA : ∀ q, s.heap.size ≤ q → A q) (hc : cl[ci]? = some (cls, T0, 0))
    (hRframes : names.length + 3 < R.frames) (hRlocals : (rest.map fun v => v.category).sum + (13 * (names.length + 1) + 42) ≤ R.locals) (hRcells : cells + 1 ≤ R.cells) (hRslots : slots + 6 ≤ R.slots)
    (kk : ∀ (q : Nat) (H1 : Heap), va_P D cl (ws ++ [(q, .inr (ci, []))]) H1 → va_D A (ws ++ [(q, .inr (ci, []))]) → va_S A s.heap H1 locs → W p l e R s m args below meth c H1 locs (cells + 1) (slots + 6) Q (F0 m (pc + 7) ls (.ref q :: rest))) :
    W p l e R s m args below meth c H locs cells slots Q (F0 m pc ls rest) := by
  intro T hT X
  subst hT
  have htr : e.platform.stackTraces = false := (show e.platform.stackTraces = l.stackTraces by rw [X.admits.platform]).trans hl
  have Y := vx_rebase X (R' := { frames := R.frames, locals := R.locals, cells := 1, slots := 6 }) (Nat.le_refl _) (Nat.le_refl _) hRcells hRslots
  obtain ⟨s', hA'⟩ : ∃ z, z = (T.setVm s.vm).setFrames (.invoking m args :: below) := ⟨_, rfl⟩
  rw [← hA'] at Y
  have hvm : s'.vm = s.vm := by rw [hA']; rfl
  have hhp : s'.heap = T.heap := by rw [hA']; rfl
  have hW0 : s.WarmedH s'.vm := by rw [hvm]; exact State.WarmedH.refl s
  have hat' : ∀ w ∈ vx_at0 own ic cls names, w.before args s' = true := fun w hw => vx_ot_at hW0 hvm.symm (hgood w (List.mem_cons_of_mem _ (List.mem_cons_of_mem _ hw))) (hat w hw)
  have hk' : (Cond.classLink own ik cls).before args s' = true := vx_ot_at hW0 hvm.symm (hgood _ List.mem_cons_self) hk
  have hini' : (Cond.initialized cls).before args s' = true := vx_ot_at hW0 hvm.symm (hgood _ (List.mem_cons_of_mem _ List.mem_cons_self)) hini
  have hU' : vx_Zq Bundle.tN "UNASSIGNED_STACK" Bundle.steD A s' s'.heap := by rw [hhp]; exact vx_Zq.moved hW0.alike (hU.kept hS.2.1)
  have hN' : vx_Zq Bundle.tN "SUPPRESSED_SENTINEL" Bundle.listD A s' s'.heap := by rw [hhp]; exact vx_Zq.moved hW0.alike (hN.kept hS.2.1)
  have h : ∀ w ∈ Bundle.ownAtoms0 own ic cls names, w.before args s' = true := vx_own hat' (vx_isRefq hU'.1) (vx_isRefq hN'.1) hU'.2.word hN'.2.word
  have hown' : s'.vm.findClass own = some m.cls := by rw [hvm]; exact hown
  have hins : (Cond.instantiable cls 6).before args s' = true := h _ (by simp [Bundle.ownAtoms0])
  obtain ⟨vm₁, cX, kX, hfX, hkX, -, -, X₁, st1⟩ := Y.newCold hexec (own := own) (C := cls) (index := ik) (n := 6) hown' hk' hins hini'
    (g := F0 m pc ls rest) rfl (by rw [hb]; exact d0) (Nat.le_refl _) (Nat.le_refl _)
  generalize hT1 : (T.setVm vm₁).pushCell { cls := cX, slots := kX.instanceTypes.map defaultValue, vm := .none } = T1 at X₁ st1
  have hcat : (Value.ref T.heap.size).category = 1 := rfl
  have hcellA : T1.heap[T.heap.size]? = some (freshCell cX kX) := by rw [← hT1]; exact State.heap_pushCell_size _ _
  have d3' : decode c.code (pc + 3) = .ok (.dup, 1) := by rw [hb]; exact d3
  obtain ⟨V, ce, L, Z, hL, hlt, hcl9, hvm9, st⟩ := vx_ctorMade0 X₁ hexec htr (own := own) (cls := cls) (names := names) (ic := ic) hown' hcls hnames h (fun x hx => nomatch hx) hfX hkX hcellA (by rw [hhp]; exact Nat.le_refl _)
    (g := { method := m, pc := pc + 4, locals := ls, stack := .ref T.heap.size :: .ref T.heap.size :: rest, locked := none }) rfl hsize (rest := rest) rfl
    (by rw [hb]; exact d4) hRframes (by simp only [List.map_cons, List.sum_cons, hcat]; omega)
  have Z0 := Stand.forget (locs := []) Z (fun y hy => by rw [hL y hy, hhp]; exact Nat.le_refl _)
  obtain ⟨f1, f2⟩ := vx_frame Z0.same
  rw [hhp] at f1 f2
  have hcid : ce.cls = D.1 ci := by
    rw [hcl9]
    have h1 := (hK.1 ci _ hc).2.1
    rw [hvm] at hfX
    exact Option.some.inj (hfX.symm.trans h1)
  have hh : (V.setCell T.heap.size ce).heap[T.heap.size]? = some ce := heapAt_setCell_self (s := V) ce hlt
  subst hA'
  have X5 := vx_back9 X Y Z0
  have X6 : Stand p l e R s m args below meth c (V.setCell T.heap.size ce) locs (cells + 1) (slots + 6) := { X5 with same := X5.same.mono (by omega) (by omega) }
  have hk9 : ∀ (k : Nat) (x : Nat × va_E), ws[k]? = some x → (V.setCell T.heap.size ce).heap[x.1]? = T.heap[x.1]? := fun k x hx => f2 x.1 ((hP k x hx).lt) (fun z hz => nomatch hz)
  obtain ⟨t, a1, b1⟩ := kk T.heap.size (V.setCell T.heap.size ce).heap ((hP.kept hk9).app (fun k x hx => by
      have hz : k < 1 := (List.getElem?_eq_some_iff.mp hx).1
      rw [show k = 0 by omega] at hx
      cases hx
      exact ⟨_, hc, ce, hh, hcid, hvm9, fun k hk => absurd hk (Nat.not_lt_zero k)⟩)) (hD.push hP rfl (hA _ hS.1)) ⟨Nat.le_trans hS.1 f1, fun q h1 h2 => (f2 q (Nat.lt_of_lt_of_le h1 hS.1) (fun z hz => nomatch hz)).trans (hS.2.1 q h1 h2), hS.2.2⟩ _ rfl X6
  refine ⟨t, st1 _ ?_, b1⟩
  show Steps p.tables e below (T1.setTop { method := m, pc := pc + 3, locals := ls, stack := .ref T.heap.size :: rest, locked := none }) _
  jvm_step X₁.here [X₁.here.top, hexec, d3', Value.category]
  exact st _ a1
/-- 'throw x' of an object that was made before -/
theorem vx_athrow {cc : ByteArray} {pc : Nat} (hexec : p.tables.exec = Jvm.exec) (hb : c.code = cc) {q : Addr} (hdg : decode cc pc = .ok (.athrow, 1)) (k : vx_W p l e R s m args below meth c H locs cells slots Q (F0 m pc ls rest) q) : W p l e R s m args below meth c H locs cells slots Q (F0 m pc ls (.ref q :: rest)) := by
  intro T hT X
  obtain ⟨t, st, hq⟩ := k T hT X
  refine ⟨t, ?_, hq⟩
  have hdg' : decode c.code pc = .ok (.athrow, 1) := by rw [hb]; exact hdg
  jvm_step X.here [X.here.top, hexec, hdg', athrow.wp_sem]
  exact st
end VXK2
/-! ===== END ===== -/
/-! ===== BEGIN a constructor that throws (launches without stack traces) ===== -/
section VXIA
variable {p : Program} {l : Launch} {e : Env} {R : Room} {s : State} {m : MethodId} {args : Array Value} {below : List Frame} {meth : Method} {c : Code} {T : State} {locs : List Loc} {cells slots : Nat}
theorem vx_callI (X : Stand p l e R s m args below meth c T locs cells slots) (hexec : p.tables.exec = Jvm.exec) {own : String} {index : Nat} {y : MethodName} {bytes : ByteArray} {maxL : Nat}
    (hown : s.vm.findClass own = some m.cls) (hy1 : y.name = "<init>") (hlink : (Cond.methodLink own index y).before args s = true) (hinst : (Cond.instanceMethod y).before args s = true)
    (hcode : (Cond.code y bytes maxL none).before args s = true) (hy : y.cls ≠ "java/lang/invoke/MethodHandle" ∧ y.cls ≠ "java/lang/invoke/VarHandle")
    {W9 : Nat} {Pre : Pt → Array Value → Prop} {Post : Pt → Array Value → Option Value → Pt → Prop} {PostX : Pt → Array Value → Addr → Pt → Prop} (hK : vx_Back l R p e below s args y 3 W9 Pre Post PostX)
    {g : JFrame} (hg : g.method = m) (hsize : g.locals.size = c.maxLocals) {a : Addr} {argsL rest : List Value} (hlen : ∀ sig, parseMethodDescriptor y.desc = some sig → argsL.length = sig.parameters.length)
    (hstack : g.stack = argsL.reverse ++ .ref a :: rest) (hW : 2 * g.monitorRoom + (rest.map fun v => v.category).sum ≤ W9) (hdg : decode c.code g.pc = .ok (.invokespecial index, 3))
    (hpre : ∀ vm₁, s.WarmedH vm₁ → Pre ⟨T.setVm vm₁, locs, cells, slots⟩ (Value.ref a :: argsL).toArray) :
    (∃ (v : Option Value) (vm₁ : Vm) (B : Pt), s.WarmedH vm₁ ∧ Stand p l e R s m args below meth c B.U B.locs B.cells B.slots ∧ Post ⟨T.setVm vm₁, locs, cells, slots⟩ (Value.ref a :: argsL).toArray v B ∧
      ∀ target, Steps p.tables e below (B.U.setTop { g with pc := g.pc + 3, stack := v.toList ++ rest }) target → Steps p.tables e below (T.setTop g) target) ∨
    (∃ (q : Addr) (vm₁ : Vm) (B : Pt), s.WarmedH vm₁ ∧ Stand p l e R s m args below meth c B.U B.locs B.cells B.slots ∧ PostX ⟨T.setVm vm₁, locs, cells, slots⟩ (Value.ref a :: argsL).toArray q B ∧
      Steps p.tables e below (T.setTop g) ((B.U.setTop { g with stack := rest }).pushFrame (.throwing q))) := by
  subst hg
  have hpl : e.platform.magicAccessors = ({} : Platform).magicAccessors := by rw [X.admits.platform]
  obtain ⟨mk, methM, cM, kP, vm₁, hnamed, hmethM, hcodeM, -, hlocalsM, -, hkP, -, hW₁, hstep₁⟩ := Steps.initColdArgs (e := e) X.here hexec X.warmed hpl hown hy1 hy hlink hinst hcode (f := g) rfl hlen hstack hdg
  have X₁ := X.noted hW₁
  rcases hK g.method meth c ⟨T.setVm vm₁, locs, cells, slots⟩ { g with stack := rest } (.invokespecial index) mk (Value.ref a :: argsL).toArray X₁ rfl hsize hdg hW (X₁.named hnamed) (hpre vm₁ X₁.warmed) with ⟨v, B, X', hpost, hsteps⟩ | ⟨q, B, X', hpost, hsteps⟩
  · exact Or.inl ⟨v, vm₁, B, X₁.warmed, X', hpost, fun target h => hstep₁ _ fun acts => by rw [doInvoke_state]; exact hsteps.trans h⟩
  · exact Or.inr ⟨q, vm₁, B, X₁.warmed, X', hpost, hstep₁ _ fun acts => by rw [doInvoke_state]; exact hsteps⟩
end VXIA
section VXIB
variable {p : Program} {l : Launch} {e : Env} {R : Room} {s : State} {m : MethodId} {args : Array Value} {below : List Frame} {meth : Method} {c : Code} {H : Heap} {locs : List Loc} {cells slots : Nat}
variable {y : MethodName} {bytes cc : ByteArray} {maxL nL mc ms n index : Nat} {ret : Option FieldType} {ws : List Cond} {rm : Room} {Pc : Array Value → State → Prop} {Qc : Array Value → State → Outcome → State → Prop} {XC : String → State → State → Prop} {free : Addr → Prop} {Ts : List Cond} {own C : String} {b : Addr} {As rest : List Value} {g : JFrame}
theorem vx_runI (S : CallFix p m c cc nL s args Ts own) (hM : vx_Met l y ws rm Pc Qc XC mc ms free) (cw : CallB R s args own index y bytes maxL none ws rm mc ms n ∧ y.name = "<init>" ∧ (Cond.instanceMethod y).before args s = true) (hp : PreS s H Pc (.ref b :: As))
    (hg : g.method = m) (hn : As.length = n) (hsize : g.locals.size = nL) (hstack : g.stack = As.reverse ++ .ref b :: rest) (hW : 2 * g.monitorRoom + (rest.map fun v => v.category).sum ≤ 8) (hdg : decode cc g.pc = .ok (.invokespecial index, 3)) (hf : cells + mc ≤ R.cells ∧ slots + ms ≤ R.slots) :
    vx_Run p l e R s m args below meth c H locs cells slots mc ms g rest (Qc (Value.ref b :: As).toArray) XC free := by
  have hK : vx_Back l R p e below s args y 3 8 (PreOf R mc ms Pc) (PostOf Qc mc ms free) (vx_Post XC mc ms free) := vx_callBack cw.1 hM hp.1
  obtain ⟨⟨-, -, -, -, -, -, hcode, -, hy, hlen, hl⟩, hy1, hin⟩ := cw
  obtain ⟨hx, hb, hml, ho, -⟩ := S
  have hPc := hp.2
  intro T hT X
  rcases vx_callI X hx (bytes := bytes) (maxL := maxL) ho hy1 hl hin hcode hy hK hg (hsize.trans hml.symm) (a := b) (argsL := As) (rest := rest) (fun sig h => hn.trans (hlen sig h)) hstack hW (by rw [hb]; exact hdg)
    (fun vm₁ hW₁ => ⟨hf.1, hf.2, hPc (T.setVm vm₁) hT hW₁⟩) with ⟨v, vm₁, ⟨U', l2, c2, s2⟩, hW₁, X', ⟨g', mk, t, L, e1, e2, hq, h1, hL, h2, h3⟩, st⟩ | ⟨q, vm₁, ⟨U', l2, c2, s2⟩, hW₁, X', ⟨g', mk, t, L, E, ce, e1, e2, hq, hce, hcv, hcl, h1, hL, h2, h3⟩, st⟩
  · dsimp only [Pt.U, Pt.locs, Pt.cells, Pt.slots] at X' e1 e2 h1 h2 h3 st
    subst h1; subst h2; subst h3
    exact Or.inl ⟨v, (T.setVm vm₁).calling g' mk (Value.ref b :: As).toArray, t, U', L, hT, X', hL, e1, e2, hq, st⟩
  · dsimp only [Pt.U, Pt.locs, Pt.cells, Pt.slots] at X' e1 e2 h1 h2 h3 st hcl
    subst h1; subst h2; subst h3
    exact Or.inr ⟨q, (T.setVm vm₁).calling g' mk (Value.ref b :: As).toArray, t, U', L, E, ce, hT, X', hL, e1, e2, hq, hce, hcv, vx_cls hW₁ hcl, st⟩
end VXIB
/-! ===== END ===== -/
/-! ===== BEGIN a private constructor of a nest mate that throws ===== -/
section VXIC
variable {p : Program} {l : Launch} {e : Env} {R : Room} {s : State} {m : MethodId} {args : Array Value} {below : List Frame} {meth : Method} {c : Code} {T : State} {locs : List Loc} {cells slots : Nat}
theorem vx_callIN (X : Stand p l e R s m args below meth c T locs cells slots) (hexec : p.tables.exec = Jvm.exec) {own : String} {index : Nat} {host : String} {y : MethodName} {bytes : ByteArray} {maxL : Nat}
    (hown : s.vm.findClass own = some m.cls) (hy1 : y.name = "<init>") (hlink : (Cond.methodLinkNest own index y host).before args s = true) (hinst : (Cond.instanceMethod y).before args s = true)
    (hcode : (Cond.code y bytes maxL none).before args s = true) (hy : y.cls ≠ "java/lang/invoke/MethodHandle" ∧ y.cls ≠ "java/lang/invoke/VarHandle")
    {W9 : Nat} {Pre : Pt → Array Value → Prop} {Post : Pt → Array Value → Option Value → Pt → Prop} {PostX : Pt → Array Value → Addr → Pt → Prop} (hK : vx_Back l R p e below s args y 3 W9 Pre Post PostX)
    {g : JFrame} (hg : g.method = m) (hsize : g.locals.size = c.maxLocals) {a : Addr} {argsL rest : List Value} (hlen : ∀ sig, parseMethodDescriptor y.desc = some sig → argsL.length = sig.parameters.length)
    (hstack : g.stack = argsL.reverse ++ .ref a :: rest) (hW : 2 * g.monitorRoom + (rest.map fun v => v.category).sum ≤ W9) (hdg : decode c.code g.pc = .ok (.invokespecial index, 3))
    (hpre : ∀ vm₁, s.WarmedH vm₁ → Pre ⟨T.setVm vm₁, locs, cells, slots⟩ (Value.ref a :: argsL).toArray) :
    (∃ (v : Option Value) (vm₁ : Vm) (B : Pt), s.WarmedH vm₁ ∧ Stand p l e R s m args below meth c B.U B.locs B.cells B.slots ∧ Post ⟨T.setVm vm₁, locs, cells, slots⟩ (Value.ref a :: argsL).toArray v B ∧
      ∀ target, Steps p.tables e below (B.U.setTop { g with pc := g.pc + 3, stack := v.toList ++ rest }) target → Steps p.tables e below (T.setTop g) target) ∨
    (∃ (q : Addr) (vm₁ : Vm) (B : Pt), s.WarmedH vm₁ ∧ Stand p l e R s m args below meth c B.U B.locs B.cells B.slots ∧ PostX ⟨T.setVm vm₁, locs, cells, slots⟩ (Value.ref a :: argsL).toArray q B ∧
      Steps p.tables e below (T.setTop g) ((B.U.setTop { g with stack := rest }).pushFrame (.throwing q))) := by
  subst hg
  have hpl : e.platform.magicAccessors = ({} : Platform).magicAccessors := by rw [X.admits.platform]
  obtain ⟨mk, methM, cM, kP, vm₁, hnamed, hmethM, hcodeM, -, hlocalsM, -, hkP, -, hW₁, hstep₁⟩ := Steps.initColdArgsNest (e := e) X.here hexec X.warmed hpl hown hy1 hy hlink hinst hcode (f := g) rfl hlen hstack hdg
  have X₁ := X.noted hW₁
  rcases hK g.method meth c ⟨T.setVm vm₁, locs, cells, slots⟩ { g with stack := rest } (.invokespecial index) mk (Value.ref a :: argsL).toArray X₁ rfl hsize hdg hW (X₁.named hnamed) (hpre vm₁ X₁.warmed) with ⟨v, B, X', hpost, hsteps⟩ | ⟨q, B, X', hpost, hsteps⟩
  · exact Or.inl ⟨v, vm₁, B, X₁.warmed, X', hpost, fun target h => hstep₁ _ fun acts => by rw [doInvoke_state]; exact hsteps.trans h⟩
  · exact Or.inr ⟨q, vm₁, B, X₁.warmed, X', hpost, hstep₁ _ fun acts => by rw [doInvoke_state]; exact hsteps⟩
end VXIC
section VXID
variable {p : Program} {l : Launch} {e : Env} {R : Room} {s : State} {m : MethodId} {args : Array Value} {below : List Frame} {meth : Method} {c : Code} {H : Heap} {locs : List Loc} {cells slots : Nat}
theorem vx_runIN {y : MethodName} {bytes cc : ByteArray} {maxL nL mc ms n index : Nat} {ws : List Cond} {rm : Room} {Pc : Array Value → State → Prop} {Qc : Array Value → State → Outcome → State → Prop} {XC : String → State → State → Prop} {free : Addr → Prop} {Ts : List Cond} {own host : String} {b : Addr} {As rest : List Value} {g : JFrame}
    (S : CallFix p m c cc nL s args Ts own) (hM : vx_Met l y ws rm Pc Qc XC mc ms free) (cw : va_CN R s args own index y host bytes maxL none ws rm mc ms n ∧ y.name = "<init>" ∧ (Cond.instanceMethod y).before args s = true) (hp : PreS s H Pc (.ref b :: As))
    (hg : g.method = m) (hn : As.length = n) (hsize : g.locals.size = nL) (hstack : g.stack = As.reverse ++ .ref b :: rest) (hW : 2 * g.monitorRoom + (rest.map fun v => v.category).sum ≤ 8) (hdg : decode cc g.pc = .ok (.invokespecial index, 3)) (hf : cells + mc ≤ R.cells ∧ slots + ms ≤ R.slots) :
    vx_Run p l e R s m args below meth c H locs cells slots mc ms g rest (Qc (Value.ref b :: As).toArray) XC free := by
  obtain ⟨⟨⟨hrc, hrs, hfr, hlo, hws, hcw⟩, hcode, hini, hy, hlen, hl⟩, hx1, hx2⟩ := cw
  have hK : vx_Back l R p e below s args y 3 8 (PreOf R mc ms Pc) (PostOf Qc mc ms free) (vx_Post XC mc ms free) := vx_back (bytes := bytes) (maxL := maxL) (ret := none) hM hp.1 hrc hrs hfr hlo hws hcw (fun a' U hW => word_at hW (Or.inl (by first | rfl | simp [Cond.onTables, Cond.keeps, Cond.steady])) hini)
  obtain ⟨hx, hb, hml, ho, -⟩ := S
  have hPc := hp.2
  intro T hT X
  rcases vx_callIN X hx (bytes := bytes) (maxL := maxL) ho hx1 hl hx2 hcode hy hK hg (hsize.trans hml.symm) (a := b) (argsL := As) (rest := rest) (fun sig h => hn.trans (hlen sig h)) hstack hW (by rw [hb]; exact hdg)
    (fun vm₁ hW₁ => ⟨hf.1, hf.2, hPc (T.setVm vm₁) hT hW₁⟩) with ⟨v, vm₁, ⟨U', l2, c2, s2⟩, hW₁, X', ⟨g', mk, t, L, e1, e2, hq, h1, hL, h2, h3⟩, st⟩ | ⟨q, vm₁, ⟨U', l2, c2, s2⟩, hW₁, X', ⟨g', mk, t, L, E, ce, e1, e2, hq, hce, hcv, hcl, h1, hL, h2, h3⟩, st⟩
  · dsimp only [Pt.U, Pt.locs, Pt.cells, Pt.slots] at X' e1 e2 h1 h2 h3 st
    subst h1; subst h2; subst h3
    exact Or.inl ⟨v, (T.setVm vm₁).calling g' mk (Value.ref b :: As).toArray, t, U', L, hT, X', hL, e1, e2, hq, st⟩
  · dsimp only [Pt.U, Pt.locs, Pt.cells, Pt.slots] at X' e1 e2 h1 h2 h3 st hcl
    subst h1; subst h2; subst h3
    exact Or.inr ⟨q, (T.setVm vm₁).calling g' mk (Value.ref b :: As).toArray, t, U', L, E, ce, hT, X', hL, e1, e2, hq, hce, hcv, vx_cls hW₁ hcl, st⟩
end VXID
/-! ===== END ===== -/
/-! ===== BEGIN a method of a class above, found by the receiver, that may throw (follows va_callVU, va_runU of this kit) ===== -/
section
variable {p : Program} {l : Launch} {e : Env} {R : Room} {s : State} {m : MethodId} {args : Array Value} {below : List Frame} {meth : Method} {c : Code} {H : Heap} {locs : List Loc} {cells slots : Nat}
theorem vx_callVU {T : State} {locs : List Loc} {cells slots : Nat} (X : Stand p l e R s m args below meth c T locs cells slots) (hexec : p.tables.exec = Jvm.exec) {own C owner : String} {index : Nat} {x y : MethodName} {bytes : ByteArray} {maxL : Nat} {ret : Option FieldType}
    (hown : s.vm.findClass own = some m.cls) (hlink : (Cond.methodLink own index x).before args s = true) (hsame : (Cond.sameMethod x.cls owner x.name x.desc).before args s = true)
    (hd0 : va_Decl s ⟨owner, x.name, x.desc⟩) (howner : owner ≠ "java/lang/invoke/MethodHandle" ∧ owner ≠ "java/lang/invoke/VarHandle")
    (hsel : (Cond.selects C x y).before args s = true) (hinst : (Cond.instanceMethod y).before args s = true) (hcode : (Cond.code y bytes maxL ret).before args s = true)
    {W : Nat} {Pre : Pt → Array Value → Prop} {Post : Pt → Array Value → Option Value → Pt → Prop} {PostX : Pt → Array Value → Addr → Pt → Prop} (hK : vx_Back l R p e below s args y 3 W Pre Post PostX)
    {b : Addr} {cellB : Cell} (hcell : T.heap[b]? = some cellB) (hobj : cellB.vm.isStatics = false) (hcls : s.vm.findClass C = some cellB.cls)
    {g : JFrame} (hg : g.method = m) (hsize : g.locals.size = c.maxLocals) {argsL rest : List Value} (hlen : ∀ sig, parseMethodDescriptor x.desc = some sig → argsL.length = sig.parameters.length)
    (hstack : g.stack = argsL.reverse ++ .ref b :: rest) (hW : 2 * g.monitorRoom + (rest.map fun v => v.category).sum ≤ W) (hdg : decode c.code g.pc = .ok (.invokevirtual index, 3))
    (hpre : ∀ vm₁, s.WarmedH vm₁ → Pre ⟨T.setVm vm₁, locs, cells, slots⟩ (Value.ref b :: argsL).toArray) :
    (∃ (v : Option Value) (vm₁ : Vm) (B : Pt), s.WarmedH vm₁ ∧ Stand p l e R s m args below meth c B.U B.locs B.cells B.slots ∧ Post ⟨T.setVm vm₁, locs, cells, slots⟩ (Value.ref b :: argsL).toArray v B ∧
      ∀ target, Steps p.tables e below (B.U.setTop { g with pc := g.pc + 3, stack := v.toList ++ rest }) target → Steps p.tables e below (T.setTop g) target) ∨
    (∃ (q : Addr) (vm₁ : Vm) (B : Pt), s.WarmedH vm₁ ∧ Stand p l e R s m args below meth c B.U B.locs B.cells B.slots ∧ PostX ⟨T.setVm vm₁, locs, cells, slots⟩ (Value.ref b :: argsL).toArray q B ∧
      Steps p.tables e below (T.setTop g) ((B.U.setTop { g with stack := rest }).pushFrame (.throwing q))) := by
  obtain ⟨r0, r, hn, hrm, hstR, hsigR⟩ := hd0
  obtain ⟨cn, ck, r1, hcn, hck, hni, hf, hn1⟩ := Cond.sameMethod_found hsame
  cases hn.symm.trans hn1
  obtain ⟨mk, methM, hnamed, hmethM, -, habM⟩ := Cond.instanceMethod_spec hinst
  obtain ⟨c2, r2, m2, q1, q2, q3, q4, kP, hkP, hkPi⟩ := Cond.selects_spec hsel
  cases hcls.symm.trans q1
  cases hf.symm.trans q2
  cases hnamed.symm.trans q3
  have hselP : selectMethod e.platform s.vm cellB.cls r0 = .method mk := by rw [Launch.admits_selectMethod X.admits]; exact q4
  obtain ⟨vm₁, X₁, hstep₁⟩ := X.invokevirtualUp hexec hown hlink hsame howner hn hrm hstR (a := b) (cell := cellB) hcell
    (fun z h => by rw [h] at hobj; cases hobj) hselP hmethM habM hkP hkPi (g := g) hg (argsL := argsL) (rest := rest) (hlen _ hsigR) hstack hdg
  rcases hK m meth c ⟨T.setVm vm₁, locs, cells, slots⟩ { g with stack := rest } (.invokevirtual index) mk (Value.ref b :: argsL).toArray X₁ hg hsize hdg hW (X₁.named hnamed) (hpre vm₁ X₁.warmed) with ⟨v, B, X', hpost, hsteps⟩ | ⟨q, B, X', hpost, hsteps⟩
  · exact Or.inl ⟨v, vm₁, B, X₁.warmed, X', hpost, fun target h => hstep₁ _ fun acts => by rw [doInvoke_state]; exact hsteps.trans h⟩
  · exact Or.inr ⟨q, vm₁, B, X₁.warmed, X', hpost, hstep₁ _ fun acts => by rw [doInvoke_state]; exact hsteps⟩
theorem vx_runU {x y : MethodName} {bytes cc : ByteArray} {maxL nL mc ms n index : Nat} {ret : Option FieldType} {ws : List Cond} {rm : Room} {Pc : Array Value → State → Prop} {Qc : Array Value → State → Outcome → State → Prop} {XC : String → State → State → Prop} {free : Addr → Prop} {Ts : List Cond} {own C owner : String} {b : Addr} {As rest : List Value} {g : JFrame}
    (S : CallFix p m c cc nL s args Ts own) (hM : vx_Met l y ws rm Pc Qc XC mc ms free) (cw : va_CU R s args own C owner index x y bytes maxL ret ws rm mc ms n) (hp : PreV s H C b Pc As)
    (hg : g.method = m) (hn : As.length = n) (hsize : g.locals.size = nL) (hstack : g.stack = As.reverse ++ .ref b :: rest) (hW : 2 * g.monitorRoom + (rest.map fun v => v.category).sum ≤ 8) (hdg : decode cc g.pc = .ok (.invokevirtual index, 3)) (hf : cells + mc ≤ R.cells ∧ slots + ms ≤ R.slots) :
    vx_Run p l e R s m args below meth c H locs cells slots mc ms g rest (Qc (Value.ref b :: As).toArray) XC free := by
  obtain ⟨hrc, hrs, hfr, hlo, hws, hcw⟩ := cw.back
  have hini := cw.init
  have hK : vx_Back l R p e below s args y 3 8 (PreOf R mc ms Pc) (PostOf Qc mc ms free) (vx_Post XC mc ms free) := vx_back (bytes := bytes) (maxL := maxL) (ret := ret) hM hp.1 hrc hrs hfr hlo hws hcw (fun a' U hW => word_at hW (Or.inl (by first | rfl | simp [Cond.onTables, Cond.keeps, Cond.steady])) hini)
  obtain ⟨hx, hb, hml, ho, -⟩ := S
  obtain ⟨-, ⟨cellB, hcB, hoB, hclB⟩, hPc⟩ := hp
  intro T hT X
  rcases vx_callVU X hx (C := C) (owner := owner) (bytes := bytes) (maxL := maxL) (ret := ret) ho cw.link cw.same cw.decl cw.notMH cw.sel cw.inst cw.code hK (by rw [hT]; exact hcB) hoB hclB hg (hsize.trans hml.symm) (argsL := As) (rest := rest) (fun sig h => hn.trans (cw.len sig h)) hstack hW (by rw [hb]; exact hdg)
    (fun vm₁ hW₁ => ⟨hf.1, hf.2, hPc (T.setVm vm₁) hT hW₁⟩) with ⟨v, vm₁, ⟨U', l2, c2, s2⟩, hW₁, X', ⟨g', mk, t, L, e1, e2, hq, h1, hL, h2, h3⟩, st⟩ | ⟨q, vm₁, ⟨U', l2, c2, s2⟩, hW₁, X', ⟨g', mk, t, L, E, ce, e1, e2, hq, hce, hcv, hcl, h1, hL, h2, h3⟩, st⟩
  · dsimp only [Pt.U, Pt.locs, Pt.cells, Pt.slots] at X' e1 e2 h1 h2 h3 st
    subst h1; subst h2; subst h3
    exact Or.inl ⟨v, (T.setVm vm₁).calling g' mk (Value.ref b :: As).toArray, t, U', L, hT, X', hL, e1, e2, hq, st⟩
  · dsimp only [Pt.U, Pt.locs, Pt.cells, Pt.slots] at X' e1 e2 h1 h2 h3 st hcl
    subst h1; subst h2; subst h3
    exact Or.inr ⟨q, (T.setVm vm₁).calling g' mk (Value.ref b :: As).toArray, t, U', L, E, ce, hT, X', hL, e1, e2, hq, hce, hcv, vx_cls hW₁ hcl, st⟩
end
/-! ===== END ===== -/
/-! ===== BEGIN super.m(..) that may throw (follows va_callSU, va_runSU) ===== -/
section
variable {p : Program} {l : Launch} {e : Env} {R : Room} {s : State} {m : MethodId} {args : Array Value} {below : List Frame} {meth : Method} {c : Code} {H : Heap} {locs : List Loc} {cells slots : Nat}
theorem vx_callSU {T : State} {locs : List Loc} {cells slots : Nat} (X : Stand p l e R s m args below meth c T locs cells slots) (hexec : p.tables.exec = Jvm.exec) {own : String} {index : Nat} {y : MethodName} {bytes : ByteArray} {maxL : Nat} {ret : Option FieldType}
    (hown : s.vm.findClass own = some m.cls) (hlink : (Cond.methodLink own index y).before args s = true) (hsame : (Cond.sameMethod y.cls y.cls y.name y.desc).before args s = true) (hsup : (Cond.superclass own y.cls).before args s = true)
    (hinst : (Cond.instanceMethod y).before args s = true) (hcode : (Cond.code y bytes maxL ret).before args s = true) (hno : y.name ≠ "<init>")
    {W : Nat} {Pre : Pt → Array Value → Prop} {Post : Pt → Array Value → Option Value → Pt → Prop} {PostX : Pt → Array Value → Addr → Pt → Prop} (hK : vx_Back l R p e below s args y 3 W Pre Post PostX)
    {b : Addr} {cellB : Cell} {kB : Class} (hcell : T.heap[b]? = some cellB) (hobj : cellB.vm.isStatics = false) (hkB : s.vm.classes[cellB.cls]? = some kB)
    {g : JFrame} (hg : g.method = m) (hsize : g.locals.size = c.maxLocals) {argsL rest : List Value} (hlen : ∀ sig, parseMethodDescriptor y.desc = some sig → argsL.length = sig.parameters.length)
    (hstack : g.stack = argsL.reverse ++ .ref b :: rest) (hW : 2 * g.monitorRoom + (rest.map fun v => v.category).sum ≤ W) (hdg : decode c.code g.pc = .ok (.invokespecial index, 3))
    (hpre : ∀ vm₁, s.WarmedH vm₁ → Pre ⟨T.setVm vm₁, locs, cells, slots⟩ (Value.ref b :: argsL).toArray) :
    (∃ (v : Option Value) (vm₁ : Vm) (B : Pt), s.WarmedH vm₁ ∧ Stand p l e R s m args below meth c B.U B.locs B.cells B.slots ∧ Post ⟨T.setVm vm₁, locs, cells, slots⟩ (Value.ref b :: argsL).toArray v B ∧
      ∀ target, Steps p.tables e below (B.U.setTop { g with pc := g.pc + 3, stack := v.toList ++ rest }) target → Steps p.tables e below (T.setTop g) target) ∨
    (∃ (q : Addr) (vm₁ : Vm) (B : Pt), s.WarmedH vm₁ ∧ Stand p l e R s m args below meth c B.U B.locs B.cells B.slots ∧ PostX ⟨T.setVm vm₁, locs, cells, slots⟩ (Value.ref b :: argsL).toArray q B ∧
      Steps p.tables e below (T.setTop g) ((B.U.setTop { g with stack := rest }).pushFrame (.throwing q))) := by
  obtain ⟨mk, methM, hnamed, hmethM, hstM, habM⟩ := Cond.instanceMethod_spec hinst
  obtain ⟨methM', cM, hmethM', -, -, -, -, -, -, hsigM⟩ := Cond.code_spec hnamed hcode
  cases hmethM.symm.trans hmethM'
  obtain ⟨ps, dk, kp, hps, hdk, hkp, hsuper, -, -, hnid⟩ := Cond.superclass_spec hown hsup
  have hn : s.methodNamed? ⟨y.cls, y.name, y.desc⟩ = some mk := hnamed
  have hpm : ps = mk.cls := Option.some.inj (hps.symm.trans (findClass_of_methodNamed hnamed))
  have hsub : s.vm.isSubclass ps mk.cls = true := by rw [hpm]; simp [Vm.isSubclass, Vm.isSubclassAux]
  obtain ⟨vm₁, X₁, hstep₁⟩ := X.invokespecialUp hexec hown hlink hsame hn hmethM hstM habM hno hdk hnid hps hsuper hsub (a := b) (cell := cellB) hcell
    (fun z h => by rw [h] at hobj; cases hobj) hkB (g := g) hg (argsL := argsL) (rest := rest) (hlen _ hsigM) hstack hdg
  rcases hK m meth c ⟨T.setVm vm₁, locs, cells, slots⟩ { g with stack := rest } (.invokespecial index) mk (Value.ref b :: argsL).toArray X₁ hg hsize hdg hW (X₁.named hnamed) (hpre vm₁ X₁.warmed) with ⟨v, B, X', hpost, hsteps⟩ | ⟨q, B, X', hpost, hsteps⟩
  · exact Or.inl ⟨v, vm₁, B, X₁.warmed, X', hpost, fun target h => hstep₁ _ (by rw [doInvoke_state]; exact hsteps.trans h)⟩
  · exact Or.inr ⟨q, vm₁, B, X₁.warmed, X', hpost, hstep₁ _ (by rw [doInvoke_state]; exact hsteps)⟩
theorem vx_runSU {y : MethodName} {bytes cc : ByteArray} {maxL nL mc ms n index : Nat} {ret : Option FieldType} {ws : List Cond} {rm : Room} {Pc : Array Value → State → Prop} {Qc : Array Value → State → Outcome → State → Prop} {XC : String → State → State → Prop} {free : Addr → Prop} {Ts : List Cond} {own C : String} {cC : ClassId} {b : Addr} {As rest : List Value} {g : JFrame}
    (hat : ClassAt s C cC) (S : CallFix p m c cc nL s args Ts own) (hM : vx_Met l y ws rm Pc Qc XC mc ms free) (cw : va_CS R s args own index y bytes maxL ret ws rm mc ms n) (hp : PreV s H C b Pc As)
    (hg : g.method = m) (hn : As.length = n) (hsize : g.locals.size = nL) (hstack : g.stack = As.reverse ++ .ref b :: rest) (hW : 2 * g.monitorRoom + (rest.map fun v => v.category).sum ≤ 8) (hdg : decode cc g.pc = .ok (.invokespecial index, 3)) (hf : cells + mc ≤ R.cells ∧ slots + ms ≤ R.slots) :
    vx_Run p l e R s m args below meth c H locs cells slots mc ms g rest (Qc (Value.ref b :: As).toArray) XC free := by
  obtain ⟨⟨hrc, hrs, hfr, hlo, hws, hcw⟩, hl1, hl2, hl3, hl4, hini, hcode, hno, hlen⟩ := cw
  have hK : vx_Back l R p e below s args y 3 8 (PreOf R mc ms Pc) (PostOf Qc mc ms free) (vx_Post XC mc ms free) := vx_back (bytes := bytes) (maxL := maxL) (ret := ret) hM hp.1 hrc hrs hfr hlo hws hcw (fun a' U hW => word_at hW (Or.inl (by first | rfl | simp [Cond.onTables, Cond.keeps, Cond.steady])) hini)
  obtain ⟨hx, hb, hml, ho, -⟩ := S
  obtain ⟨-, ⟨cellB, hcB, hoB, hclB⟩, hPc⟩ := hp
  obtain ⟨hfc, kB, hkB, -⟩ := hat
  cases hfc.symm.trans hclB
  intro T hT X
  rcases vx_callSU X hx (bytes := bytes) (maxL := maxL) (ret := ret) ho hl1 hl2 hl3 hl4 hcode hno hK (by rw [hT]; exact hcB) hoB hkB hg (hsize.trans hml.symm) (argsL := As) (rest := rest) (fun sig h => hn.trans (hlen sig h)) hstack hW (by rw [hb]; exact hdg)
    (fun vm₁ hW₁ => ⟨hf.1, hf.2, hPc (T.setVm vm₁) hT hW₁⟩) with ⟨v, vm₁, ⟨U', l2, c2, s2⟩, hW₁, X', ⟨g', mk, t, L, e1, e2, hq, h1, hL, h2, h3⟩, st⟩ | ⟨q, vm₁, ⟨U', l2, c2, s2⟩, hW₁, X', ⟨g', mk, t, L, E, ce, e1, e2, hq, hce, hcv, hcl, h1, hL, h2, h3⟩, st⟩
  · dsimp only [Pt.U, Pt.locs, Pt.cells, Pt.slots] at X' e1 e2 h1 h2 h3 st
    subst h1; subst h2; subst h3
    exact Or.inl ⟨v, (T.setVm vm₁).calling g' mk (Value.ref b :: As).toArray, t, U', L, hT, X', hL, e1, e2, hq, st⟩
  · dsimp only [Pt.U, Pt.locs, Pt.cells, Pt.slots] at X' e1 e2 h1 h2 h3 st hcl
    subst h1; subst h2; subst h3
    exact Or.inr ⟨q, (T.setVm vm₁).calling g' mk (Value.ref b :: As).toArray, t, U', L, E, ce, hT, X', hL, e1, e2, hq, hce, hcv, vx_cls hW₁ hcl, st⟩
end
/-! ===== END ===== -/
/-! ===== BEGIN a private method of a nest mate that may throw (follows va_callVN, va_callSN, va_runVN, va_runSN) ===== -/
section
variable {p : Program} {l : Launch} {e : Env} {R : Room} {s : State} {m : MethodId} {args : Array Value} {below : List Frame} {meth : Method} {c : Code} {H : Heap} {locs : List Loc} {cells slots : Nat}
variable {T : State}
theorem vx_callVN (X : Stand p l e R s m args below meth c T locs cells slots) (hexec : p.tables.exec = Jvm.exec) {own C : String} {index : Nat} {host : String} {y : MethodName} {bytes : ByteArray} {maxL : Nat} {ret : Option FieldType}
    (hown : s.vm.findClass own = some m.cls) (hlink : (Cond.methodLinkNest own index y host).before args s = true) (hinst : (Cond.instanceMethod y).before args s = true) (hsel : (Cond.selects C y y).before args s = true)
    (hcode : (Cond.code y bytes maxL ret).before args s = true) (hy : y.cls ≠ "java/lang/invoke/MethodHandle" ∧ y.cls ≠ "java/lang/invoke/VarHandle")
    {W : Nat} {Pre : Pt → Array Value → Prop} {Post : Pt → Array Value → Option Value → Pt → Prop} {PostX : Pt → Array Value → Addr → Pt → Prop} (hK : vx_Back l R p e below s args y 3 W Pre Post PostX)
    {b : Addr} {cellB : Cell} (hcell : T.heap[b]? = some cellB) (hobj : cellB.vm.isStatics = false) (hcls : s.vm.findClass C = some cellB.cls)
    {g : JFrame} (hg : g.method = m) (hsize : g.locals.size = c.maxLocals) {argsL rest : List Value} (hlen : ∀ sig, parseMethodDescriptor y.desc = some sig → argsL.length = sig.parameters.length)
    (hstack : g.stack = argsL.reverse ++ .ref b :: rest) (hW : 2 * g.monitorRoom + (rest.map fun v => v.category).sum ≤ W) (hdg : decode c.code g.pc = .ok (.invokevirtual index, 3))
    (hpre : ∀ vm₁, s.WarmedH vm₁ → Pre ⟨T.setVm vm₁, locs, cells, slots⟩ (Value.ref b :: argsL).toArray) :
    (∃ (v : Option Value) (vm₁ : Vm) (B : Pt), s.WarmedH vm₁ ∧ Stand p l e R s m args below meth c B.U B.locs B.cells B.slots ∧ Post ⟨T.setVm vm₁, locs, cells, slots⟩ (Value.ref b :: argsL).toArray v B ∧
      ∀ target, Steps p.tables e below (B.U.setTop { g with pc := g.pc + 3, stack := v.toList ++ rest }) target → Steps p.tables e below (T.setTop g) target) ∨
    (∃ (q : Addr) (vm₁ : Vm) (B : Pt), s.WarmedH vm₁ ∧ Stand p l e R s m args below meth c B.U B.locs B.cells B.slots ∧ PostX ⟨T.setVm vm₁, locs, cells, slots⟩ (Value.ref b :: argsL).toArray q B ∧
      Steps p.tables e below (T.setTop g) ((B.U.setTop { g with stack := rest }).pushFrame (.throwing q))) := by
  obtain ⟨mk, methM, hnamed, hmethM, hstM, habM⟩ := Cond.instanceMethod_spec hinst
  obtain ⟨methM', cM, hmethM', -, -, -, -, -, -, hsigM⟩ := Cond.code_spec hnamed hcode
  cases hmethM.symm.trans hmethM'
  obtain ⟨c2, r2, m2, q1, q2, q3, q4, kP, hkP, hkPi⟩ := Cond.selects_spec hsel
  cases hcls.symm.trans q1
  cases (State.methodFound?_of_named hnamed hy).symm.trans q2
  cases hnamed.symm.trans q3
  have hselP : selectMethod e.platform s.vm cellB.cls mk = .method mk := by rw [Launch.admits_selectMethod X.admits]; exact q4
  obtain ⟨vm₁, X₁, hstep₁⟩ := X.invokevirtualNest hexec hown hlink hnamed hmethM hstM hkP hkPi hy (a := b) (cell := cellB) hcell
    (fun z h => by rw [h] at hobj; cases hobj) hselP hmethM habM hkP hkPi (g := g) hg (argsL := argsL) (rest := rest) (hlen _ hsigM) hstack hdg
  rcases hK m meth c ⟨T.setVm vm₁, locs, cells, slots⟩ { g with stack := rest } (.invokevirtual index) mk (Value.ref b :: argsL).toArray X₁ hg hsize hdg hW (X₁.named hnamed) (hpre vm₁ X₁.warmed) with ⟨v, B, X', hpost, hsteps⟩ | ⟨q, B, X', hpost, hsteps⟩
  · exact Or.inl ⟨v, vm₁, B, X₁.warmed, X', hpost, fun target h => hstep₁ _ fun acts => by rw [doInvoke_state]; exact hsteps.trans h⟩
  · exact Or.inr ⟨q, vm₁, B, X₁.warmed, X', hpost, hstep₁ _ fun acts => by rw [doInvoke_state]; exact hsteps⟩
theorem vx_callSN (X : Stand p l e R s m args below meth c T locs cells slots) (hexec : p.tables.exec = Jvm.exec) {own : String} {index : Nat} {host : String} {y : MethodName} {bytes : ByteArray} {maxL : Nat} {ret : Option FieldType}
    (hown : s.vm.findClass own = some m.cls) (hlink : (Cond.methodLinkNest own index y host).before args s = true) (hstat : (Cond.static y).before args s = true) (hinit : (Cond.initialized y.cls).before args s = true)
    (hcode : (Cond.code y bytes maxL ret).before args s = true) (hy : y.cls ≠ "java/lang/invoke/MethodHandle" ∧ y.cls ≠ "java/lang/invoke/VarHandle")
    {W : Nat} {Pre : Pt → Array Value → Prop} {Post : Pt → Array Value → Option Value → Pt → Prop} {PostX : Pt → Array Value → Addr → Pt → Prop} (hK : vx_Back l R p e below s args y 3 W Pre Post PostX)
    {g : JFrame} (hg : g.method = m) (hsize : g.locals.size = c.maxLocals) {argsL rest : List Value} (hlen : ∀ sig, parseMethodDescriptor y.desc = some sig → argsL.length = sig.parameters.length)
    (hstack : g.stack = argsL.reverse ++ rest) (hW : 2 * g.monitorRoom + (rest.map fun v => v.category).sum ≤ W) (hdg : decode c.code g.pc = .ok (.invokestatic index, 3))
    (hpre : ∀ vm₁, s.WarmedH vm₁ → Pre ⟨T.setVm vm₁, locs, cells, slots⟩ argsL.toArray) :
    (∃ (v : Option Value) (vm₁ : Vm) (B : Pt), s.WarmedH vm₁ ∧ Stand p l e R s m args below meth c B.U B.locs B.cells B.slots ∧ Post ⟨T.setVm vm₁, locs, cells, slots⟩ argsL.toArray v B ∧
      ∀ target, Steps p.tables e below (B.U.setTop { g with pc := g.pc + 3, stack := v.toList ++ rest }) target → Steps p.tables e below (T.setTop g) target) ∨
    (∃ (q : Addr) (vm₁ : Vm) (B : Pt), s.WarmedH vm₁ ∧ Stand p l e R s m args below meth c B.U B.locs B.cells B.slots ∧ PostX ⟨T.setVm vm₁, locs, cells, slots⟩ argsL.toArray q B ∧
      Steps p.tables e below (T.setTop g) ((B.U.setTop { g with stack := rest }).pushFrame (.throwing q))) := by
  obtain ⟨mk, hnamed⟩ := Cond.code_named hcode
  obtain ⟨methM, cM, hmethM, -, -, -, -, -, -, hsigM⟩ := Cond.code_spec hnamed hcode
  have hstatic : methM.isStatic = true := Cond.static_spec hnamed hmethM hstat
  obtain ⟨kP, hkP, -⟩ := className_of_methodNamed hnamed
  have hinitP : kP.init = .initialized := Cond.initialized_spec (findClass_of_methodNamed hnamed) hkP hinit
  obtain ⟨vm₁, X₁, hstep₁⟩ := X.invokestaticNest hexec hown hlink hnamed hmethM hstatic hkP hinitP hy (g := g) hg (argsL := argsL) (rest := rest) (hlen _ hsigM) hstack hdg
  rcases hK m meth c ⟨T.setVm vm₁, locs, cells, slots⟩ { g with stack := rest } (.invokestatic index) mk argsL.toArray X₁ hg hsize hdg hW (X₁.named hnamed) (hpre vm₁ X₁.warmed) with ⟨v, B, X', hpost, hsteps⟩ | ⟨q, B, X', hpost, hsteps⟩
  · exact Or.inl ⟨v, vm₁, B, X₁.warmed, X', hpost, fun target h => hstep₁ _ fun acts => by rw [doInvoke_state]; exact hsteps.trans h⟩
  · exact Or.inr ⟨q, vm₁, B, X₁.warmed, X', hpost, hstep₁ _ fun acts => by rw [doInvoke_state]; exact hsteps⟩
theorem vx_runVN {y : MethodName} {bytes cc : ByteArray} {maxL nL mc ms n index : Nat} {ret : Option FieldType} {ws : List Cond} {rm : Room} {Pc : Array Value → State → Prop} {Qc : Array Value → State → Outcome → State → Prop} {XC : String → State → State → Prop} {free : Addr → Prop} {Ts : List Cond} {own C host : String} {b : Addr} {As rest : List Value} {g : JFrame}
    (S : CallFix p m c cc nL s args Ts own) (hM : vx_Met l y ws rm Pc Qc XC mc ms free) (cw : va_CN R s args own index y host bytes maxL ret ws rm mc ms n ∧ (Cond.instanceMethod y).before args s = true ∧ (Cond.selects C y y).before args s = true) (hp : PreV s H C b Pc As)
    (hg : g.method = m) (hn : As.length = n) (hsize : g.locals.size = nL) (hstack : g.stack = As.reverse ++ .ref b :: rest) (hW : 2 * g.monitorRoom + (rest.map fun v => v.category).sum ≤ 8) (hdg : decode cc g.pc = .ok (.invokevirtual index, 3)) (hf : cells + mc ≤ R.cells ∧ slots + ms ≤ R.slots) :
    vx_Run p l e R s m args below meth c H locs cells slots mc ms g rest (Qc (Value.ref b :: As).toArray) XC free := by
  obtain ⟨⟨⟨hrc, hrs, hfr, hlo, hws, hcw⟩, hcode, hini, hy, hlen, hl⟩, hx1, hx2⟩ := cw
  have hK : vx_Back l R p e below s args y 3 8 (PreOf R mc ms Pc) (PostOf Qc mc ms free) (vx_Post XC mc ms free) := vx_back (bytes := bytes) (maxL := maxL) (ret := ret) hM hp.1 hrc hrs hfr hlo hws hcw (fun a' U hW => word_at hW (Or.inl (by first | rfl | simp [Cond.onTables, Cond.keeps, Cond.steady])) hini)
  obtain ⟨hx, hb, hml, ho, -⟩ := S
  obtain ⟨-, ⟨cellB, hcB, hoB, hclB⟩, hPc⟩ := hp
  intro T hT X
  rcases vx_callVN X hx (C := C) (bytes := bytes) (maxL := maxL) (ret := ret) ho hl hx1 hx2 hcode hy hK (by rw [hT]; exact hcB) hoB hclB hg (hsize.trans hml.symm) (argsL := As) (rest := rest) (fun sig h => hn.trans (hlen sig h)) hstack hW (by rw [hb]; exact hdg)
    (fun vm₁ hW₁ => ⟨hf.1, hf.2, hPc (T.setVm vm₁) hT hW₁⟩) with ⟨v, vm₁, ⟨U', l2, c2, s2⟩, hW₁, X', ⟨g', mk, t, L, e1, e2, hq, h1, hL, h2, h3⟩, st⟩ | ⟨q, vm₁, ⟨U', l2, c2, s2⟩, hW₁, X', ⟨g', mk, t, L, E, ce, e1, e2, hq, hce, hcv, hcl, h1, hL, h2, h3⟩, st⟩
  · dsimp only [Pt.U, Pt.locs, Pt.cells, Pt.slots] at X' e1 e2 h1 h2 h3 st
    subst h1; subst h2; subst h3
    exact Or.inl ⟨v, (T.setVm vm₁).calling g' mk (Value.ref b :: As).toArray, t, U', L, hT, X', hL, e1, e2, hq, st⟩
  · dsimp only [Pt.U, Pt.locs, Pt.cells, Pt.slots] at X' e1 e2 h1 h2 h3 st hcl
    subst h1; subst h2; subst h3
    exact Or.inr ⟨q, (T.setVm vm₁).calling g' mk (Value.ref b :: As).toArray, t, U', L, E, ce, hT, X', hL, e1, e2, hq, hce, hcv, vx_cls hW₁ hcl, st⟩
theorem vx_runSN {y : MethodName} {bytes cc : ByteArray} {maxL nL mc ms n index : Nat} {ret : Option FieldType} {ws : List Cond} {rm : Room} {Pc : Array Value → State → Prop} {Qc : Array Value → State → Outcome → State → Prop} {XC : String → State → State → Prop} {free : Addr → Prop} {Ts : List Cond} {own host : String} {As rest : List Value} {g : JFrame}
    (S : CallFix p m c cc nL s args Ts own) (hM : vx_Met l y ws rm Pc Qc XC mc ms free) (cw : va_CN R s args own index y host bytes maxL ret ws rm mc ms n ∧ (Cond.static y).before args s = true ∧ True) (hp : PreS s H Pc As)
    (hg : g.method = m) (hn : As.length = n) (hsize : g.locals.size = nL) (hstack : g.stack = As.reverse ++ rest) (hW : 2 * g.monitorRoom + (rest.map fun v => v.category).sum ≤ 8) (hdg : decode cc g.pc = .ok (.invokestatic index, 3)) (hf : cells + mc ≤ R.cells ∧ slots + ms ≤ R.slots) :
    vx_Run p l e R s m args below meth c H locs cells slots mc ms g rest (Qc As.toArray) XC free := by
  obtain ⟨⟨⟨hrc, hrs, hfr, hlo, hws, hcw⟩, hcode, hini, hy, hlen, hl⟩, hx1, hx2⟩ := cw
  have hK : vx_Back l R p e below s args y 3 8 (PreOf R mc ms Pc) (PostOf Qc mc ms free) (vx_Post XC mc ms free) := vx_back (bytes := bytes) (maxL := maxL) (ret := ret) hM hp.1 hrc hrs hfr hlo hws hcw (fun a' U hW => word_at hW (Or.inl (by first | rfl | simp [Cond.onTables, Cond.keeps, Cond.steady])) hini)
  obtain ⟨hx, hb, hml, ho, -⟩ := S
  have hPc := hp.2
  intro T hT X
  rcases vx_callSN X hx (bytes := bytes) (maxL := maxL) (ret := ret) ho hl hx1 hini hcode hy hK hg (hsize.trans hml.symm) (argsL := As) (rest := rest) (fun sig h => hn.trans (hlen sig h)) hstack hW (by rw [hb]; exact hdg)
    (fun vm₁ hW₁ => ⟨hf.1, hf.2, hPc (T.setVm vm₁) hT hW₁⟩) with ⟨v, vm₁, ⟨U', l2, c2, s2⟩, hW₁, X', ⟨g', mk, t, L, e1, e2, hq, h1, hL, h2, h3⟩, st⟩ | ⟨q, vm₁, ⟨U', l2, c2, s2⟩, hW₁, X', ⟨g', mk, t, L, E, ce, e1, e2, hq, hce, hcv, hcl, h1, hL, h2, h3⟩, st⟩
  · dsimp only [Pt.U, Pt.locs, Pt.cells, Pt.slots] at X' e1 e2 h1 h2 h3 st
    subst h1; subst h2; subst h3
    exact Or.inl ⟨v, (T.setVm vm₁).calling g' mk As.toArray, t, U', L, hT, X', hL, e1, e2, hq, st⟩
  · dsimp only [Pt.U, Pt.locs, Pt.cells, Pt.slots] at X' e1 e2 h1 h2 h3 st hcl
    subst h1; subst h2; subst h3
    exact Or.inr ⟨q, (T.setVm vm₁).calling g' mk As.toArray, t, U', L, E, ce, hT, X', hL, e1, e2, hq, hce, hcv, vx_cls hW₁ hcl, st⟩
end
/-! ===== END ===== -/
/-! ===== BEGIN calls by an interface of methods that may throw (vx_callIF, vx_runF follow va_callIF, va_runF of this kit) ===== -/
section
variable {p : Program} {l : Launch} {e : Env} {R : Room} {s : State} {m : MethodId} {args : Array Value} {below : List Frame} {meth : Method} {c : Code} {H : Heap} {locs : List Loc} {cells slots : Nat} {Q : State → Prop}
variable {mc ms : Nat} {free : Addr → Prop} {A0 A1 : Nat → Prop} {H0 : Heap} {a : Array Value} {pc : Nat} {ls : Array Slot} {st0 rest : List Value}
def vx_Run5 (p : Program) (l : Launch) (e : Env) (R : Room) (s : State) (m : MethodId) (args : Array Value) (below : List Frame) (meth : Method) (c : Code) (H : Heap) (locs : List Loc) (cells slots mc ms : Nat) (g : JFrame) (rest : List Value) (Qa : State → Outcome → State → Prop) (XC : String → State → State → Prop) (free : Addr → Prop) : Prop :=
  ∀ T : State, T.heap = H → Stand p l e R s m args below meth c T locs cells slots →
    (∃ (v : Option Value) (st₀ t T' : State) (L : List Loc), st₀.heap = H ∧ Stand p l e R s m args below meth c T' (locs ++ L) (cells + mc) (slots + ms) ∧ (∀ q ∈ L, free q.base) ∧ T'.heap = t.heap ∧ T'.vm = t.vm ∧ Qa st₀ (.returned v) t ∧
      Goes p e below T g T' { g with pc := g.pc + 5, stack := v.toList ++ rest }) ∨
    (∃ (q : Addr) (st₀ t T' : State) (L : List Loc) (E : String) (ce : Cell), st₀.heap = H ∧ Stand p l e R s m args below meth c T' (locs ++ L) (cells + mc) (slots + ms) ∧ (∀ z ∈ L, free z.base) ∧ T'.heap = t.heap ∧ T'.vm = t.vm ∧ XC E st₀ t ∧ t.heap[q]? = some ce ∧ ce.vm = .none ∧ s.vm.findClass E = some ce.cls ∧
      Steps p.tables e below (T.setTop g) ((T'.setTop { g with stack := rest }).pushFrame (.throwing q)))
theorem vx_callIF {T : State} (X : Stand p l e R s m args below meth c T locs cells slots) (hexec : p.tables.exec = Jvm.exec) {own C : String} {index count : Nat} {x y : MethodName} {bytes : ByteArray} {maxL : Nat} {ret : Option FieldType}
    (hown : s.vm.findClass own = some m.cls) (hlink : (Cond.methodLink own index x).before args s = true) (hdecl : (Cond.declares x).before args s = true) (hface : (Cond.interfaceMethod x.cls x.cls x.name x.desc).before args s = true)
    (hsel : (Cond.selects C x y).before args s = true) (hinst : (Cond.instanceMethod y).before args s = true) (hpub : (Cond.publicMethod y).before args s = true) (hunh : (Cond.unhidden C x.name x.desc).before args s = true)
    (hcast : (Cond.castable C x.cls).before args s = true) (hcode : (Cond.code y bytes maxL ret).before args s = true) (hx : x.cls ≠ "java/lang/invoke/MethodHandle" ∧ x.cls ≠ "java/lang/invoke/VarHandle")
    {W9 : Nat} {Pre : Pt → Array Value → Prop} {Post : Pt → Array Value → Option Value → Pt → Prop} {PostX : Pt → Array Value → Addr → Pt → Prop} (hK : vx_Back l R p e below s args y 5 W9 Pre Post PostX)
    {b : Addr} {cellB : Cell} {kB : Class} (hcell : T.heap[b]? = some cellB) (hobj : cellB.vm.isStatics = false) (hcls : s.vm.findClass C = some cellB.cls) (hkB : s.vm.classes[cellB.cls]? = some kB)
    {g : JFrame} (hg : g.method = m) (hsize : g.locals.size = c.maxLocals) {argsL rest : List Value} (hlen : ∀ sig, parseMethodDescriptor x.desc = some sig → argsL.length = sig.parameters.length)
    (hstack : g.stack = argsL.reverse ++ .ref b :: rest) (hW : 2 * g.monitorRoom + (rest.map fun v => v.category).sum ≤ W9) (hdg : decode c.code g.pc = .ok (.invokeinterface index count, 5))
    (hpre : ∀ vm₁, s.WarmedH vm₁ → Pre ⟨T.setVm vm₁, locs, cells, slots⟩ (Value.ref b :: argsL).toArray) :
    (∃ (v : Option Value) (vm₁ : Vm) (B : Pt), s.WarmedH vm₁ ∧ Stand p l e R s m args below meth c B.U B.locs B.cells B.slots ∧ Post ⟨T.setVm vm₁, locs, cells, slots⟩ (Value.ref b :: argsL).toArray v B ∧
      ∀ target, Steps p.tables e below (B.U.setTop { g with pc := g.pc + 5, stack := v.toList ++ rest }) target → Steps p.tables e below (T.setTop g) target) ∨
    (∃ (q : Addr) (vm₁ : Vm) (B : Pt), s.WarmedH vm₁ ∧ Stand p l e R s m args below meth c B.U B.locs B.cells B.slots ∧ PostX ⟨T.setVm vm₁, locs, cells, slots⟩ (Value.ref b :: argsL).toArray q B ∧
      Steps p.tables e below (T.setTop g) ((B.U.setTop { g with stack := rest }).pushFrame (.throwing q))) := by
  obtain ⟨r0, r, hn, hrm, hstR, hsigR⟩ := Cond.declares_spec hdecl
  obtain ⟨cL, kL, r1, hcL, hkL, hiL, hfoundL, hn1⟩ := Cond.interfaceMethod_spec hface
  cases hn.symm.trans hn1
  have hr0cls : r0.cls = cL := Option.some.inj ((findClass_of_methodNamed hn).symm.trans hcL)
  obtain ⟨hnameR, hdescR⟩ := name_of_methodNamed hn hrm
  obtain ⟨mk, methM, hnamed, hmethM, -, habM⟩ := Cond.instanceMethod_spec hinst
  obtain ⟨c2, r2, m2, q1, q2, q3, q4, -⟩ := Cond.selects_spec hsel
  cases hcls.symm.trans q1
  cases hfoundL.symm.trans q2
  cases hnamed.symm.trans q3
  have hselP : selectMethod e.platform s.vm cellB.cls r0 = .method mk := by rw [Launch.admits_selectMethod X.admits]; exact q4
  have hpubM : hasFlag methM.accessFlags Acc.public_ = true := Cond.publicMethod_spec hnamed hmethM hpub
  have hway : ((cellB.cls :: s.vm.superclasses cellB.cls).any fun k => (declaredIn s.vm r.name r.desc k).any fun (_, z) => z.isPrivate || z.isStatic) = false := by
    rw [hnameR, hdescR]; exact Cond.unhidden_spec hcls hunh
  obtain ⟨c3, t3, w1, w2, w3⟩ := Cond.castable_spec hcast
  cases hcls.symm.trans w1
  cases hcL.symm.trans w2
  obtain ⟨vm₁, X₁, hstep₁⟩ := X.invokeinterface hexec hown hlink hn hrm hstR (by rw [hr0cls]; exact hkL) hiL hx (a := b) (cell := cellB) (kcell := kB) hcell
    (fun z h => by rw [h] at hobj; cases hobj) hkB (by rw [hr0cls]; exact w3) hselP hmethM hway hpubM habM (g := g) hg (argsL := argsL) (rest := rest) (hlen _ hsigR) hstack hdg
  rcases hK m meth c ⟨T.setVm vm₁, locs, cells, slots⟩ { g with stack := rest } (.invokeinterface index count) mk (Value.ref b :: argsL).toArray X₁ hg hsize hdg hW (X₁.named hnamed) (hpre vm₁ X₁.warmed) with ⟨v, B, X', hpost, hsteps⟩ | ⟨q, B, X', hpost, hsteps⟩
  · exact Or.inl ⟨v, vm₁, B, X₁.warmed, X', hpost, fun target h => hstep₁ _ fun acts => by rw [doInvoke_state]; exact hsteps.trans h⟩
  · exact Or.inr ⟨q, vm₁, B, X₁.warmed, X', hpost, hstep₁ _ fun acts => by rw [doInvoke_state]; exact hsteps⟩
theorem vx_runF {x y : MethodName} {bytes cc : ByteArray} {maxL nL mc ms n index count : Nat} {ret : Option FieldType} {ws : List Cond} {rm : Room} {Pc : Array Value → State → Prop} {Qc : Array Value → State → Outcome → State → Prop} {XC : String → State → State → Prop} {free : Addr → Prop} {Ts : List Cond} {own C : String} {cC : ClassId} {b : Addr} {As rest : List Value} {g : JFrame}
    (hat : ClassAt s C cC) (S : CallFix p m c cc nL s args Ts own) (hM : vx_Met l y ws rm Pc Qc XC mc ms free) (cw : va_CI R s args own C index x y bytes maxL ret ws rm mc ms n) (hp : PreV s H C b Pc As)
    (hg : g.method = m) (hn : As.length = n) (hsize : g.locals.size = nL) (hstack : g.stack = As.reverse ++ .ref b :: rest) (hW : 2 * g.monitorRoom + (rest.map fun v => v.category).sum ≤ 8) (hdg : decode cc g.pc = .ok (.invokeinterface index count, 5)) (hf : cells + mc ≤ R.cells ∧ slots + ms ≤ R.slots) :
    vx_Run5 p l e R s m args below meth c H locs cells slots mc ms g rest (Qc (Value.ref b :: As).toArray) XC free := by
  obtain ⟨hrc, hrs, hfr, hlo, hws, hcw⟩ := cw.back
  have hini := cw.init
  have hK : vx_Back l R p e below s args y 5 8 (PreOf R mc ms Pc) (PostOf Qc mc ms free) (vx_Post XC mc ms free) := vx_back (bytes := bytes) (maxL := maxL) (ret := ret) hM hp.1 hrc hrs hfr hlo hws hcw (fun a' U hW => word_at hW (Or.inl (by first | rfl | simp [Cond.onTables, Cond.keeps, Cond.steady])) hini)
  obtain ⟨hx, hb, hml, ho, -⟩ := S
  obtain ⟨-, ⟨cellB, hcB, hoB, hclB⟩, hPc⟩ := hp
  obtain ⟨hfc, kB, hkB, -⟩ := hat
  cases hfc.symm.trans hclB
  intro T hT X
  rcases vx_callIF X hx (C := C) (bytes := bytes) (maxL := maxL) (ret := ret) ho cw.link cw.decl cw.face cw.sel cw.inst cw.pub cw.unh cw.cast cw.code cw.notMH hK (by rw [hT]; exact hcB) hoB hclB hkB hg (hsize.trans hml.symm) (argsL := As) (rest := rest) (fun sig h => hn.trans (cw.len sig h)) hstack hW (by rw [hb]; exact hdg)
    (fun vm₁ hW₁ => ⟨hf.1, hf.2, hPc (T.setVm vm₁) hT hW₁⟩) with ⟨v, vm₁, ⟨U', l2, c2, s2⟩, hW₁, X', ⟨g', mk, t, L, e1, e2, hq, h1, hL, h2, h3⟩, st⟩ | ⟨q, vm₁, ⟨U', l2, c2, s2⟩, hW₁, X', ⟨g', mk, t, L, E, ce, e1, e2, hq, hce, hcv, hcl, h1, hL, h2, h3⟩, st⟩
  · dsimp only [Pt.U, Pt.locs, Pt.cells, Pt.slots] at X' e1 e2 h1 h2 h3 st
    subst h1; subst h2; subst h3
    exact Or.inl ⟨v, (T.setVm vm₁).calling g' mk (Value.ref b :: As).toArray, t, U', L, hT, X', hL, e1, e2, hq, st⟩
  · dsimp only [Pt.U, Pt.locs, Pt.cells, Pt.slots] at X' e1 e2 h1 h2 h3 st hcl
    subst h1; subst h2; subst h3
    exact Or.inr ⟨q, (T.setVm vm₁).calling g' mk (Value.ref b :: As).toArray, t, U', L, E, ce, hT, X', hL, e1, e2, hq, hce, hcv, vx_cls hW₁ hcl, st⟩
theorem vx_callFv {S SX : Type} {post : S → Prop} {px : SX → Prop} {B : S → State → Prop} {BX : String → SX → State → Prop} {AX : Nat → Prop} (hr : vx_Run5 p l e R s m args below meth c H locs cells slots mc ms (F0 m pc ls st0) rest (va_Qv post B A1 a) (vx_X px BX AX) free) (hS : va_S A0 H0 H locs) (hA : ∀ q, q < H.size → A1 q → A0 q) (hf : ∀ q, free q → A0 q) (hAX : ∀ q, q < H.size → AX q → A0 q)
    (kx : ∀ (E : String) (ce : Cell) (q9 : Addr) (u : SX) (t : State) (H1 : Heap) (locs1 : List Loc), t.heap = H1 → s.vm.Alike t.vm → px u → BX E u t → H.size ≤ H1.size → (∀ q : Nat, q < H.size → ¬ AX q → H1[q]? = H[q]?) → va_S A0 H0 H1 locs1 → H1[q9]? = some ce → ce.vm = .none → s.vm.findClass E = some ce.cls → vx_W p l e R s m args below meth c H1 locs1 (cells + mc) (slots + ms) Q (F0 m pc ls rest) q9)
    (kk : ∀ (u : S) (t : State) (H1 : Heap) (locs1 : List Loc), t.heap = H1 → s.vm.Alike t.vm → post u → B u t → H.size ≤ H1.size → (∀ q : Nat, q < H.size → ¬ A1 q → H1[q]? = H[q]?) → va_S A0 H0 H1 locs1 → W p l e R s m args below meth c H1 locs1 (cells + mc) (slots + ms) Q (F0 m (pc + 5) ls (rest))) : W p l e R s m args below meth c H locs cells slots Q (F0 m pc ls st0) := by
  intro T hT X
  rcases hr T hT X with ⟨v, st₀, t, T', L, h0, X', hL, e1, e2, ⟨⟨u, hv, hp, hb⟩, hF⟩, st⟩ | ⟨q, st₀, t, T', L, E, ce, h0, X', hL, e1, e2, ⟨u, hp, hb, hF⟩, hce, hcv, hcl, st⟩
  · cases hv
    obtain ⟨k1, k2, k3⟩ := vx_keep h0 e1 hS hA hf hL hF
    obtain ⟨t2, a1, b1⟩ := kk u t T'.heap (locs ++ L) e1.symm (by rw [← e2]; exact X'.warmed.alike) hp hb k1 k2 k3 T' rfl X'
    exact ⟨t2, st t2 a1, b1⟩
  · obtain ⟨k1, k2, k3⟩ := vx_keep h0 e1 hS hAX hf hL hF
    obtain ⟨t2, a1, b1⟩ := kx E ce q u t T'.heap (locs ++ L) e1.symm (by rw [← e2]; exact X'.warmed.alike) hp hb k1 k2 k3 (by rw [e1]; exact hce) hcv hcl T' rfl X'
    exact ⟨t2, st.trans a1, b1⟩
theorem vx_callFi {S SX : Type} {post : Int32 → S → Prop} {px : SX → Prop} {B : S → State → Prop} {BX : String → SX → State → Prop} {AX : Nat → Prop} (hr : vx_Run5 p l e R s m args below meth c H locs cells slots mc ms (F0 m pc ls st0) rest (va_Qi post B A1 a) (vx_X px BX AX) free) (hS : va_S A0 H0 H locs) (hA : ∀ q, q < H.size → A1 q → A0 q) (hf : ∀ q, free q → A0 q) (hAX : ∀ q, q < H.size → AX q → A0 q)
    (kx : ∀ (E : String) (ce : Cell) (q9 : Addr) (u : SX) (t : State) (H1 : Heap) (locs1 : List Loc), t.heap = H1 → s.vm.Alike t.vm → px u → BX E u t → H.size ≤ H1.size → (∀ q : Nat, q < H.size → ¬ AX q → H1[q]? = H[q]?) → va_S A0 H0 H1 locs1 → H1[q9]? = some ce → ce.vm = .none → s.vm.findClass E = some ce.cls → vx_W p l e R s m args below meth c H1 locs1 (cells + mc) (slots + ms) Q (F0 m pc ls rest) q9)
    (kk : ∀ (r : Int32) (u : S) (t : State) (H1 : Heap) (locs1 : List Loc), t.heap = H1 → s.vm.Alike t.vm → post r u → B u t → H.size ≤ H1.size → (∀ q : Nat, q < H.size → ¬ A1 q → H1[q]? = H[q]?) → va_S A0 H0 H1 locs1 → W p l e R s m args below meth c H1 locs1 (cells + mc) (slots + ms) Q (F0 m (pc + 5) ls (.int r :: rest))) : W p l e R s m args below meth c H locs cells slots Q (F0 m pc ls st0) := by
  intro T hT X
  rcases hr T hT X with ⟨v, st₀, t, T', L, h0, X', hL, e1, e2, ⟨⟨r, u, hv, hp, hb⟩, hF⟩, st⟩ | ⟨q, st₀, t, T', L, E, ce, h0, X', hL, e1, e2, ⟨u, hp, hb, hF⟩, hce, hcv, hcl, st⟩
  · cases hv
    obtain ⟨k1, k2, k3⟩ := vx_keep h0 e1 hS hA hf hL hF
    obtain ⟨t2, a1, b1⟩ := kk r u t T'.heap (locs ++ L) e1.symm (by rw [← e2]; exact X'.warmed.alike) hp hb k1 k2 k3 T' rfl X'
    exact ⟨t2, st t2 a1, b1⟩
  · obtain ⟨k1, k2, k3⟩ := vx_keep h0 e1 hS hAX hf hL hF
    obtain ⟨t2, a1, b1⟩ := kx E ce q u t T'.heap (locs ++ L) e1.symm (by rw [← e2]; exact X'.warmed.alike) hp hb k1 k2 k3 (by rw [e1]; exact hce) hcv hcl T' rfl X'
    exact ⟨t2, st.trans a1, b1⟩
theorem vx_callFl {S SX : Type} {post : Int64 → S → Prop} {px : SX → Prop} {B : S → State → Prop} {BX : String → SX → State → Prop} {AX : Nat → Prop} (hr : vx_Run5 p l e R s m args below meth c H locs cells slots mc ms (F0 m pc ls st0) rest (va_Ql post B A1 a) (vx_X px BX AX) free) (hS : va_S A0 H0 H locs) (hA : ∀ q, q < H.size → A1 q → A0 q) (hf : ∀ q, free q → A0 q) (hAX : ∀ q, q < H.size → AX q → A0 q)
    (kx : ∀ (E : String) (ce : Cell) (q9 : Addr) (u : SX) (t : State) (H1 : Heap) (locs1 : List Loc), t.heap = H1 → s.vm.Alike t.vm → px u → BX E u t → H.size ≤ H1.size → (∀ q : Nat, q < H.size → ¬ AX q → H1[q]? = H[q]?) → va_S A0 H0 H1 locs1 → H1[q9]? = some ce → ce.vm = .none → s.vm.findClass E = some ce.cls → vx_W p l e R s m args below meth c H1 locs1 (cells + mc) (slots + ms) Q (F0 m pc ls rest) q9)
    (kk : ∀ (r : Int64) (u : S) (t : State) (H1 : Heap) (locs1 : List Loc), t.heap = H1 → s.vm.Alike t.vm → post r u → B u t → H.size ≤ H1.size → (∀ q : Nat, q < H.size → ¬ A1 q → H1[q]? = H[q]?) → va_S A0 H0 H1 locs1 → W p l e R s m args below meth c H1 locs1 (cells + mc) (slots + ms) Q (F0 m (pc + 5) ls (.long r :: rest))) : W p l e R s m args below meth c H locs cells slots Q (F0 m pc ls st0) := by
  intro T hT X
  rcases hr T hT X with ⟨v, st₀, t, T', L, h0, X', hL, e1, e2, ⟨⟨r, u, hv, hp, hb⟩, hF⟩, st⟩ | ⟨q, st₀, t, T', L, E, ce, h0, X', hL, e1, e2, ⟨u, hp, hb, hF⟩, hce, hcv, hcl, st⟩
  · cases hv
    obtain ⟨k1, k2, k3⟩ := vx_keep h0 e1 hS hA hf hL hF
    obtain ⟨t2, a1, b1⟩ := kk r u t T'.heap (locs ++ L) e1.symm (by rw [← e2]; exact X'.warmed.alike) hp hb k1 k2 k3 T' rfl X'
    exact ⟨t2, st t2 a1, b1⟩
  · obtain ⟨k1, k2, k3⟩ := vx_keep h0 e1 hS hAX hf hL hF
    obtain ⟨t2, a1, b1⟩ := kx E ce q u t T'.heap (locs ++ L) e1.symm (by rw [← e2]; exact X'.warmed.alike) hp hb k1 k2 k3 (by rw [e1]; exact hce) hcv hcl T' rfl X'
    exact ⟨t2, st.trans a1, b1⟩
theorem vx_callFf {S SX : Type} {post : UInt32 → S → Prop} {px : SX → Prop} {B : S → State → Prop} {BX : String → SX → State → Prop} {AX : Nat → Prop} (hr : vx_Run5 p l e R s m args below meth c H locs cells slots mc ms (F0 m pc ls st0) rest (va_Qf post B A1 a) (vx_X px BX AX) free) (hS : va_S A0 H0 H locs) (hA : ∀ q, q < H.size → A1 q → A0 q) (hf : ∀ q, free q → A0 q) (hAX : ∀ q, q < H.size → AX q → A0 q)
    (kx : ∀ (E : String) (ce : Cell) (q9 : Addr) (u : SX) (t : State) (H1 : Heap) (locs1 : List Loc), t.heap = H1 → s.vm.Alike t.vm → px u → BX E u t → H.size ≤ H1.size → (∀ q : Nat, q < H.size → ¬ AX q → H1[q]? = H[q]?) → va_S A0 H0 H1 locs1 → H1[q9]? = some ce → ce.vm = .none → s.vm.findClass E = some ce.cls → vx_W p l e R s m args below meth c H1 locs1 (cells + mc) (slots + ms) Q (F0 m pc ls rest) q9)
    (kk : ∀ (r : UInt32) (u : S) (t : State) (H1 : Heap) (locs1 : List Loc), t.heap = H1 → s.vm.Alike t.vm → post r u → B u t → H.size ≤ H1.size → (∀ q : Nat, q < H.size → ¬ A1 q → H1[q]? = H[q]?) → va_S A0 H0 H1 locs1 → W p l e R s m args below meth c H1 locs1 (cells + mc) (slots + ms) Q (F0 m (pc + 5) ls (.float r :: rest))) : W p l e R s m args below meth c H locs cells slots Q (F0 m pc ls st0) := by
  intro T hT X
  rcases hr T hT X with ⟨v, st₀, t, T', L, h0, X', hL, e1, e2, ⟨⟨r, u, hv, hp, hb⟩, hF⟩, st⟩ | ⟨q, st₀, t, T', L, E, ce, h0, X', hL, e1, e2, ⟨u, hp, hb, hF⟩, hce, hcv, hcl, st⟩
  · cases hv
    obtain ⟨k1, k2, k3⟩ := vx_keep h0 e1 hS hA hf hL hF
    obtain ⟨t2, a1, b1⟩ := kk r u t T'.heap (locs ++ L) e1.symm (by rw [← e2]; exact X'.warmed.alike) hp hb k1 k2 k3 T' rfl X'
    exact ⟨t2, st t2 a1, b1⟩
  · obtain ⟨k1, k2, k3⟩ := vx_keep h0 e1 hS hAX hf hL hF
    obtain ⟨t2, a1, b1⟩ := kx E ce q u t T'.heap (locs ++ L) e1.symm (by rw [← e2]; exact X'.warmed.alike) hp hb k1 k2 k3 (by rw [e1]; exact hce) hcv hcl T' rfl X'
    exact ⟨t2, st.trans a1, b1⟩
theorem vx_callFd {S SX : Type} {post : UInt64 → S → Prop} {px : SX → Prop} {B : S → State → Prop} {BX : String → SX → State → Prop} {AX : Nat → Prop} (hr : vx_Run5 p l e R s m args below meth c H locs cells slots mc ms (F0 m pc ls st0) rest (va_Qd post B A1 a) (vx_X px BX AX) free) (hS : va_S A0 H0 H locs) (hA : ∀ q, q < H.size → A1 q → A0 q) (hf : ∀ q, free q → A0 q) (hAX : ∀ q, q < H.size → AX q → A0 q)
    (kx : ∀ (E : String) (ce : Cell) (q9 : Addr) (u : SX) (t : State) (H1 : Heap) (locs1 : List Loc), t.heap = H1 → s.vm.Alike t.vm → px u → BX E u t → H.size ≤ H1.size → (∀ q : Nat, q < H.size → ¬ AX q → H1[q]? = H[q]?) → va_S A0 H0 H1 locs1 → H1[q9]? = some ce → ce.vm = .none → s.vm.findClass E = some ce.cls → vx_W p l e R s m args below meth c H1 locs1 (cells + mc) (slots + ms) Q (F0 m pc ls rest) q9)
    (kk : ∀ (r : UInt64) (u : S) (t : State) (H1 : Heap) (locs1 : List Loc), t.heap = H1 → s.vm.Alike t.vm → post r u → B u t → H.size ≤ H1.size → (∀ q : Nat, q < H.size → ¬ A1 q → H1[q]? = H[q]?) → va_S A0 H0 H1 locs1 → W p l e R s m args below meth c H1 locs1 (cells + mc) (slots + ms) Q (F0 m (pc + 5) ls (.double r :: rest))) : W p l e R s m args below meth c H locs cells slots Q (F0 m pc ls st0) := by
  intro T hT X
  rcases hr T hT X with ⟨v, st₀, t, T', L, h0, X', hL, e1, e2, ⟨⟨r, u, hv, hp, hb⟩, hF⟩, st⟩ | ⟨q, st₀, t, T', L, E, ce, h0, X', hL, e1, e2, ⟨u, hp, hb, hF⟩, hce, hcv, hcl, st⟩
  · cases hv
    obtain ⟨k1, k2, k3⟩ := vx_keep h0 e1 hS hA hf hL hF
    obtain ⟨t2, a1, b1⟩ := kk r u t T'.heap (locs ++ L) e1.symm (by rw [← e2]; exact X'.warmed.alike) hp hb k1 k2 k3 T' rfl X'
    exact ⟨t2, st t2 a1, b1⟩
  · obtain ⟨k1, k2, k3⟩ := vx_keep h0 e1 hS hAX hf hL hF
    obtain ⟨t2, a1, b1⟩ := kx E ce q u t T'.heap (locs ++ L) e1.symm (by rw [← e2]; exact X'.warmed.alike) hp hb k1 k2 k3 (by rw [e1]; exact hce) hcv hcl T' rfl X'
    exact ⟨t2, st.trans a1, b1⟩
end
/-! ===== END ===== -/
/-! ===== BEGIN by an interface, a method with a table of its own that may throw (follows va_callIFW, va_runFW) ===== -/
section
variable {p : Program} {l : Launch} {e : Env} {R : Room} {s : State} {m : MethodId} {args : Array Value} {below : List Frame} {meth : Method} {c : Code} {H : Heap} {locs : List Loc} {cells slots : Nat}
theorem vx_callIFW {T : State} (X : Stand p l e R s m args below meth c T locs cells slots) (hexec : p.tables.exec = Jvm.exec) {own C : String} {index count : Nat} {x y : MethodName} {bytes : ByteArray} {maxL : Nat} {ret : Option FieldType} {hh : List (Nat × Nat × Nat × Nat)}
    (hown : s.vm.findClass own = some m.cls) (hlink : (Cond.methodLink own index x).before args s = true) (hdecl : (Cond.declares x).before args s = true) (hface : (Cond.interfaceMethod x.cls x.cls x.name x.desc).before args s = true)
    (hsel : (Cond.selects C x y).before args s = true) (hinst : (Cond.instanceMethod y).before args s = true) (hpub : (Cond.publicMethod y).before args s = true) (hunh : (Cond.unhidden C x.name x.desc).before args s = true)
    (hcast : (Cond.castable C x.cls).before args s = true) (hcode : (Cond.codeWith y bytes maxL ret hh).before args s = true) (hx : x.cls ≠ "java/lang/invoke/MethodHandle" ∧ x.cls ≠ "java/lang/invoke/VarHandle")
    {W : Nat} {Pre : Pt → Array Value → Prop} {Post : Pt → Array Value → Option Value → Pt → Prop} {PostX : Pt → Array Value → Addr → Pt → Prop} (hK : vx_Back l R p e below s args y 5 W Pre Post PostX)
    {b : Addr} {cellB : Cell} {kB : Class} (hcell : T.heap[b]? = some cellB) (hobj : cellB.vm.isStatics = false) (hcls : s.vm.findClass C = some cellB.cls) (hkB : s.vm.classes[cellB.cls]? = some kB)
    {g : JFrame} (hg : g.method = m) (hsize : g.locals.size = c.maxLocals) {argsL rest : List Value} (hlen : ∀ sig, parseMethodDescriptor x.desc = some sig → argsL.length = sig.parameters.length)
    (hstack : g.stack = argsL.reverse ++ .ref b :: rest) (hW : 2 * g.monitorRoom + (rest.map fun v => v.category).sum ≤ W) (hdg : decode c.code g.pc = .ok (.invokeinterface index count, 5))
    (hpre : ∀ vm₁, s.WarmedH vm₁ → Pre ⟨T.setVm vm₁, locs, cells, slots⟩ (Value.ref b :: argsL).toArray) :
    (∃ (v : Option Value) (vm₁ : Vm) (B : Pt), s.WarmedH vm₁ ∧ Stand p l e R s m args below meth c B.U B.locs B.cells B.slots ∧ Post ⟨T.setVm vm₁, locs, cells, slots⟩ (Value.ref b :: argsL).toArray v B ∧
      ∀ target, Steps p.tables e below (B.U.setTop { g with pc := g.pc + 5, stack := v.toList ++ rest }) target → Steps p.tables e below (T.setTop g) target) ∨
    (∃ (q : Addr) (vm₁ : Vm) (B : Pt), s.WarmedH vm₁ ∧ Stand p l e R s m args below meth c B.U B.locs B.cells B.slots ∧ PostX ⟨T.setVm vm₁, locs, cells, slots⟩ (Value.ref b :: argsL).toArray q B ∧
      Steps p.tables e below (T.setTop g) ((B.U.setTop { g with stack := rest }).pushFrame (.throwing q))) := by
  obtain ⟨r0, r, hn, hrm, hstR, hsigR⟩ := Cond.declares_spec hdecl
  obtain ⟨cL, kL, r1, hcL, hkL, hiL, hfoundL, hn1⟩ := Cond.interfaceMethod_spec hface
  cases hn.symm.trans hn1
  have hr0cls : r0.cls = cL := Option.some.inj ((findClass_of_methodNamed hn).symm.trans hcL)
  obtain ⟨hnameR, hdescR⟩ := name_of_methodNamed hn hrm
  obtain ⟨mk, methM, hnamed, hmethM, -, habM⟩ := Cond.instanceMethod_spec hinst
  obtain ⟨c2, r2, m2, q1, q2, q3, q4, -⟩ := Cond.selects_spec hsel
  cases hcls.symm.trans q1
  cases hfoundL.symm.trans q2
  cases hnamed.symm.trans q3
  have hselP : selectMethod e.platform s.vm cellB.cls r0 = .method mk := by rw [Launch.admits_selectMethod X.admits]; exact q4
  have hpubM : hasFlag methM.accessFlags Acc.public_ = true := Cond.publicMethod_spec hnamed hmethM hpub
  have hway : ((cellB.cls :: s.vm.superclasses cellB.cls).any fun k => (declaredIn s.vm r.name r.desc k).any fun (_, z) => z.isPrivate || z.isStatic) = false := by
    rw [hnameR, hdescR]; exact Cond.unhidden_spec hcls hunh
  obtain ⟨c3, t3, w1, w2, w3⟩ := Cond.castable_spec hcast
  cases hcls.symm.trans w1
  cases hcL.symm.trans w2
  obtain ⟨vm₁, X₁, hstep₁⟩ := X.invokeinterface hexec hown hlink hn hrm hstR (by rw [hr0cls]; exact hkL) hiL hx (a := b) (cell := cellB) (kcell := kB) hcell
    (fun z h => by rw [h] at hobj; cases hobj) hkB (by rw [hr0cls]; exact w3) hselP hmethM hway hpubM habM (g := g) hg (argsL := argsL) (rest := rest) (hlen _ hsigR) hstack hdg
  rcases hK m meth c ⟨T.setVm vm₁, locs, cells, slots⟩ { g with stack := rest } (.invokeinterface index count) mk (Value.ref b :: argsL).toArray X₁ hg hsize hdg hW (X₁.named hnamed) (hpre vm₁ X₁.warmed) with ⟨v, B, X', hpost, hsteps⟩ | ⟨q, B, X', hpost, hsteps⟩
  · exact Or.inl ⟨v, vm₁, B, X₁.warmed, X', hpost, fun target h => hstep₁ _ fun acts => by rw [doInvoke_state]; exact hsteps.trans h⟩
  · exact Or.inr ⟨q, vm₁, B, X₁.warmed, X', hpost, hstep₁ _ fun acts => by rw [doInvoke_state]; exact hsteps⟩
theorem vx_runFW {x y : MethodName} {bytes cc : ByteArray} {maxL nL mc ms n index count : Nat} {ret : Option FieldType} {hh : List (Nat × Nat × Nat × Nat)} {ws : List Cond} {rm : Room} {Pc : Array Value → State → Prop} {Qc : Array Value → State → Outcome → State → Prop} {XC : String → State → State → Prop} {free : Addr → Prop} {Ts : List Cond} {own C : String} {cC : ClassId} {b : Addr} {As rest : List Value} {g : JFrame}
    (hat : ClassAt s C cC) (S : CallFix p m c cc nL s args Ts own) (hM : vx_Met l y ws rm Pc Qc XC mc ms free) (cw : va_CIW R s args own C index x y bytes maxL ret hh ws rm mc ms n) (hp : PreV s H C b Pc As)
    (hg : g.method = m) (hn : As.length = n) (hsize : g.locals.size = nL) (hstack : g.stack = As.reverse ++ .ref b :: rest) (hW : 2 * g.monitorRoom + (rest.map fun v => v.category).sum ≤ 8) (hdg : decode cc g.pc = .ok (.invokeinterface index count, 5)) (hf : cells + mc ≤ R.cells ∧ slots + ms ≤ R.slots) :
    vx_Run5 p l e R s m args below meth c H locs cells slots mc ms g rest (Qc (Value.ref b :: As).toArray) XC free := by
  obtain ⟨hrc, hrs, hfr, hlo, hws, hcw⟩ := cw.back
  have hini := cw.init
  have hK : vx_Back l R p e below s args y 5 8 (PreOf R mc ms Pc) (PostOf Qc mc ms free) (vx_Post XC mc ms free) := vx_backW (hh := hh) (bytes := bytes) (maxL := maxL) (ret := ret) hM hp.1 hrc hrs hfr hlo hws hcw (fun a' U hW => word_at hW (Or.inl (by first | rfl | simp [Cond.onTables, Cond.keeps, Cond.steady])) hini)
  obtain ⟨hx, hb, hml, ho, -⟩ := S
  obtain ⟨-, ⟨cellB, hcB, hoB, hclB⟩, hPc⟩ := hp
  obtain ⟨hfc, kB, hkB, -⟩ := hat
  cases hfc.symm.trans hclB
  intro T hT X
  rcases vx_callIFW X hx (C := C) (hh := hh) (bytes := bytes) (maxL := maxL) (ret := ret) ho cw.link cw.decl cw.face cw.sel cw.inst cw.pub cw.unh cw.cast cw.code cw.notMH hK (by rw [hT]; exact hcB) hoB hclB hkB hg (hsize.trans hml.symm) (argsL := As) (rest := rest) (fun sig h => hn.trans (cw.len sig h)) hstack hW (by rw [hb]; exact hdg)
    (fun vm₁ hW₁ => ⟨hf.1, hf.2, hPc (T.setVm vm₁) hT hW₁⟩) with ⟨v, vm₁, ⟨U', l2, c2, s2⟩, hW₁, X', ⟨g', mk, t, L, e1, e2, hq, h1, hL, h2, h3⟩, st⟩ | ⟨q, vm₁, ⟨U', l2, c2, s2⟩, hW₁, X', ⟨g', mk, t, L, E, ce, e1, e2, hq, hce, hcv, hcl, h1, hL, h2, h3⟩, st⟩
  · dsimp only [Pt.U, Pt.locs, Pt.cells, Pt.slots] at X' e1 e2 h1 h2 h3 st
    subst h1; subst h2; subst h3
    exact Or.inl ⟨v, (T.setVm vm₁).calling g' mk (Value.ref b :: As).toArray, t, U', L, hT, X', hL, e1, e2, hq, st⟩
  · dsimp only [Pt.U, Pt.locs, Pt.cells, Pt.slots] at X' e1 e2 h1 h2 h3 st hcl
    subst h1; subst h2; subst h3
    exact Or.inr ⟨q, (T.setVm vm₁).calling g' mk (Value.ref b :: As).toArray, t, U', L, E, ce, hT, X', hL, e1, e2, hq, hce, hcv, vx_cls hW₁ hcl, st⟩
end
/-! ===== END ===== -/
/-! ===== BEGIN .. of methods that hand back an object of the pool ===== -/
section
variable {p : Program} {l : Launch} {e : Env} {R : Room} {s : State} {m : MethodId} {args : Array Value} {below : List Frame} {meth : Method} {c : Code} {H : Heap} {locs : List Loc} {cells slots : Nat} {Q : State → Prop}
variable {mc ms : Nat} {free : Addr → Prop} {A0 A1 : Nat → Prop} {H0 : Heap} {a : Array Value} {pc : Nat} {ls : Array Slot} {st0 rest : List Value}
theorem vx_callq {S SX : Type} {post : Option Nat → S → Prop} {px : SX → Prop} {B : S → State → Prop} {BX : String → SX → State → Prop} {AX : Nat → Prop} (hr : vx_Run p l e R s m args below meth c H locs cells slots mc ms (F0 m pc ls st0) rest (va_Qq post B A1 a) (vx_X px BX AX) free) (hS : va_S A0 H0 H locs) (hA : ∀ q, q < H.size → A1 q → A0 q) (hf : ∀ q, free q → A0 q) (hAX : ∀ q, q < H.size → AX q → A0 q)
    (kx : ∀ (E : String) (ce : Cell) (q9 : Addr) (u : SX) (t : State) (H1 : Heap) (locs1 : List Loc), t.heap = H1 → s.vm.Alike t.vm → px u → BX E u t → H.size ≤ H1.size → (∀ q : Nat, q < H.size → ¬ AX q → H1[q]? = H[q]?) → va_S A0 H0 H1 locs1 → H1[q9]? = some ce → ce.vm = .none → s.vm.findClass E = some ce.cls → vx_W p l e R s m args below meth c H1 locs1 (cells + mc) (slots + ms) Q (F0 m pc ls rest) q9)
    (kk : ∀ (r : Option Nat) (u : S) (t : State) (H1 : Heap) (locs1 : List Loc), t.heap = H1 → s.vm.Alike t.vm → post r u → B u t → H.size ≤ H1.size → (∀ q : Nat, q < H.size → ¬ A1 q → H1[q]? = H[q]?) → va_S A0 H0 H1 locs1 → W p l e R s m args below meth c H1 locs1 (cells + mc) (slots + ms) Q (F0 m (pc + 3) ls (va_rf r :: rest))) : W p l e R s m args below meth c H locs cells slots Q (F0 m pc ls st0) := by
  intro T hT X
  rcases hr T hT X with ⟨v, st₀, t, T', L, h0, X', hL, e1, e2, ⟨⟨r, u, hv, hp, hb⟩, hF⟩, st⟩ | ⟨q, st₀, t, T', L, E, ce, h0, X', hL, e1, e2, ⟨u, hp, hb, hF⟩, hce, hcv, hcl, st⟩
  · cases hv
    obtain ⟨k1, k2, k3⟩ := vx_keep h0 e1 hS hA hf hL hF
    obtain ⟨t2, a1, b1⟩ := kk r u t T'.heap (locs ++ L) e1.symm (by rw [← e2]; exact X'.warmed.alike) hp hb k1 k2 k3 T' rfl X'
    exact ⟨t2, st t2 a1, b1⟩
  · obtain ⟨k1, k2, k3⟩ := vx_keep h0 e1 hS hAX hf hL hF
    obtain ⟨t2, a1, b1⟩ := kx E ce q u t T'.heap (locs ++ L) e1.symm (by rw [← e2]; exact X'.warmed.alike) hp hb k1 k2 k3 (by rw [e1]; exact hce) hcv hcl T' rfl X'
    exact ⟨t2, st.trans a1, b1⟩
end
/-! ===== END ===== -/
/-! ===== BEGIN .. a constant ===== -/
section
variable {p : Program} {l : Launch} {e : Env} {R : Room} {s : State} {m : MethodId} {args : Array Value} {below : List Frame} {meth : Method} {c : Code} {H : Heap} {locs : List Loc} {cells slots : Nat} {Q : State → Prop}
variable {mc ms : Nat} {free : Addr → Prop} {A0 A1 : Nat → Prop} {H0 : Heap} {a : Array Value} {pc : Nat} {ls : Array Slot} {st0 rest : List Value}
theorem vx_calle {ad : Nat → Nat} {S SX : Type} {post : Option Nat → S → Prop} {px : SX → Prop} {B : S → State → Prop} {BX : String → SX → State → Prop} {AX : Nat → Prop} (hr : vx_Run p l e R s m args below meth c H locs cells slots mc ms (F0 m pc ls st0) rest (va_Qe ad post B A1 a) (vx_X px BX AX) free) (hS : va_S A0 H0 H locs) (hA : ∀ q, q < H.size → A1 q → A0 q) (hf : ∀ q, free q → A0 q) (hAX : ∀ q, q < H.size → AX q → A0 q)
    (kx : ∀ (E : String) (ce : Cell) (q9 : Addr) (u : SX) (t : State) (H1 : Heap) (locs1 : List Loc), t.heap = H1 → s.vm.Alike t.vm → px u → BX E u t → H.size ≤ H1.size → (∀ q : Nat, q < H.size → ¬ AX q → H1[q]? = H[q]?) → va_S A0 H0 H1 locs1 → H1[q9]? = some ce → ce.vm = .none → s.vm.findClass E = some ce.cls → vx_W p l e R s m args below meth c H1 locs1 (cells + mc) (slots + ms) Q (F0 m pc ls rest) q9)
    (kk : ∀ (r : Option Nat) (u : S) (t : State) (H1 : Heap) (locs1 : List Loc), t.heap = H1 → s.vm.Alike t.vm → post r u → B u t → H.size ≤ H1.size → (∀ q : Nat, q < H.size → ¬ A1 q → H1[q]? = H[q]?) → va_S A0 H0 H1 locs1 → W p l e R s m args below meth c H1 locs1 (cells + mc) (slots + ms) Q (F0 m (pc + 3) ls (va_re ad r :: rest))) : W p l e R s m args below meth c H locs cells slots Q (F0 m pc ls st0) := by
  intro T hT X
  rcases hr T hT X with ⟨v, st₀, t, T', L, h0, X', hL, e1, e2, ⟨⟨r, u, hv, hp, hb⟩, hF⟩, st⟩ | ⟨q, st₀, t, T', L, E, ce, h0, X', hL, e1, e2, ⟨u, hp, hb, hF⟩, hce, hcv, hcl, st⟩
  · cases hv
    obtain ⟨k1, k2, k3⟩ := vx_keep h0 e1 hS hA hf hL hF
    obtain ⟨t2, a1, b1⟩ := kk r u t T'.heap (locs ++ L) e1.symm (by rw [← e2]; exact X'.warmed.alike) hp hb k1 k2 k3 T' rfl X'
    exact ⟨t2, st t2 a1, b1⟩
  · obtain ⟨k1, k2, k3⟩ := vx_keep h0 e1 hS hAX hf hL hF
    obtain ⟨t2, a1, b1⟩ := kx E ce q u t T'.heap (locs ++ L) e1.symm (by rw [← e2]; exact X'.warmed.alike) hp hb k1 k2 k3 (by rw [e1]; exact hce) hcv hcl T' rfl X'
    exact ⟨t2, st.trans a1, b1⟩
end
/-! ===== END ===== -/
/-! ===== BEGIN .. by an interface, an object ===== -/
section
variable {p : Program} {l : Launch} {e : Env} {R : Room} {s : State} {m : MethodId} {args : Array Value} {below : List Frame} {meth : Method} {c : Code} {H : Heap} {locs : List Loc} {cells slots : Nat} {Q : State → Prop}
variable {mc ms : Nat} {free : Addr → Prop} {A0 A1 : Nat → Prop} {H0 : Heap} {a : Array Value} {pc : Nat} {ls : Array Slot} {st0 rest : List Value}
theorem vx_callFq {S SX : Type} {post : Option Nat → S → Prop} {px : SX → Prop} {B : S → State → Prop} {BX : String → SX → State → Prop} {AX : Nat → Prop} (hr : vx_Run5 p l e R s m args below meth c H locs cells slots mc ms (F0 m pc ls st0) rest (va_Qq post B A1 a) (vx_X px BX AX) free) (hS : va_S A0 H0 H locs) (hA : ∀ q, q < H.size → A1 q → A0 q) (hf : ∀ q, free q → A0 q) (hAX : ∀ q, q < H.size → AX q → A0 q)
    (kx : ∀ (E : String) (ce : Cell) (q9 : Addr) (u : SX) (t : State) (H1 : Heap) (locs1 : List Loc), t.heap = H1 → s.vm.Alike t.vm → px u → BX E u t → H.size ≤ H1.size → (∀ q : Nat, q < H.size → ¬ AX q → H1[q]? = H[q]?) → va_S A0 H0 H1 locs1 → H1[q9]? = some ce → ce.vm = .none → s.vm.findClass E = some ce.cls → vx_W p l e R s m args below meth c H1 locs1 (cells + mc) (slots + ms) Q (F0 m pc ls rest) q9)
    (kk : ∀ (r : Option Nat) (u : S) (t : State) (H1 : Heap) (locs1 : List Loc), t.heap = H1 → s.vm.Alike t.vm → post r u → B u t → H.size ≤ H1.size → (∀ q : Nat, q < H.size → ¬ A1 q → H1[q]? = H[q]?) → va_S A0 H0 H1 locs1 → W p l e R s m args below meth c H1 locs1 (cells + mc) (slots + ms) Q (F0 m (pc + 5) ls (va_rf r :: rest))) : W p l e R s m args below meth c H locs cells slots Q (F0 m pc ls st0) := by
  intro T hT X
  rcases hr T hT X with ⟨v, st₀, t, T', L, h0, X', hL, e1, e2, ⟨⟨r, u, hv, hp, hb⟩, hF⟩, st⟩ | ⟨q, st₀, t, T', L, E, ce, h0, X', hL, e1, e2, ⟨u, hp, hb, hF⟩, hce, hcv, hcl, st⟩
  · cases hv
    obtain ⟨k1, k2, k3⟩ := vx_keep h0 e1 hS hA hf hL hF
    obtain ⟨t2, a1, b1⟩ := kk r u t T'.heap (locs ++ L) e1.symm (by rw [← e2]; exact X'.warmed.alike) hp hb k1 k2 k3 T' rfl X'
    exact ⟨t2, st t2 a1, b1⟩
  · obtain ⟨k1, k2, k3⟩ := vx_keep h0 e1 hS hAX hf hL hF
    obtain ⟨t2, a1, b1⟩ := kx E ce q u t T'.heap (locs ++ L) e1.symm (by rw [← e2]; exact X'.warmed.alike) hp hb k1 k2 k3 (by rw [e1]; exact hce) hcv hcl T' rfl X'
    exact ⟨t2, st.trans a1, b1⟩
end
/-! ===== END ===== -/
/-! ===== BEGIN .. by an interface, a constant ===== -/
section
variable {p : Program} {l : Launch} {e : Env} {R : Room} {s : State} {m : MethodId} {args : Array Value} {below : List Frame} {meth : Method} {c : Code} {H : Heap} {locs : List Loc} {cells slots : Nat} {Q : State → Prop}
variable {mc ms : Nat} {free : Addr → Prop} {A0 A1 : Nat → Prop} {H0 : Heap} {a : Array Value} {pc : Nat} {ls : Array Slot} {st0 rest : List Value}
theorem vx_callFe {ad : Nat → Nat} {S SX : Type} {post : Option Nat → S → Prop} {px : SX → Prop} {B : S → State → Prop} {BX : String → SX → State → Prop} {AX : Nat → Prop} (hr : vx_Run5 p l e R s m args below meth c H locs cells slots mc ms (F0 m pc ls st0) rest (va_Qe ad post B A1 a) (vx_X px BX AX) free) (hS : va_S A0 H0 H locs) (hA : ∀ q, q < H.size → A1 q → A0 q) (hf : ∀ q, free q → A0 q) (hAX : ∀ q, q < H.size → AX q → A0 q)
    (kx : ∀ (E : String) (ce : Cell) (q9 : Addr) (u : SX) (t : State) (H1 : Heap) (locs1 : List Loc), t.heap = H1 → s.vm.Alike t.vm → px u → BX E u t → H.size ≤ H1.size → (∀ q : Nat, q < H.size → ¬ AX q → H1[q]? = H[q]?) → va_S A0 H0 H1 locs1 → H1[q9]? = some ce → ce.vm = .none → s.vm.findClass E = some ce.cls → vx_W p l e R s m args below meth c H1 locs1 (cells + mc) (slots + ms) Q (F0 m pc ls rest) q9)
    (kk : ∀ (r : Option Nat) (u : S) (t : State) (H1 : Heap) (locs1 : List Loc), t.heap = H1 → s.vm.Alike t.vm → post r u → B u t → H.size ≤ H1.size → (∀ q : Nat, q < H.size → ¬ A1 q → H1[q]? = H[q]?) → va_S A0 H0 H1 locs1 → W p l e R s m args below meth c H1 locs1 (cells + mc) (slots + ms) Q (F0 m (pc + 5) ls (va_re ad r :: rest))) : W p l e R s m args below meth c H locs cells slots Q (F0 m pc ls st0) := by
  intro T hT X
  rcases hr T hT X with ⟨v, st₀, t, T', L, h0, X', hL, e1, e2, ⟨⟨r, u, hv, hp, hb⟩, hF⟩, st⟩ | ⟨q, st₀, t, T', L, E, ce, h0, X', hL, e1, e2, ⟨u, hp, hb, hF⟩, hce, hcv, hcl, st⟩
  · cases hv
    obtain ⟨k1, k2, k3⟩ := vx_keep h0 e1 hS hA hf hL hF
    obtain ⟨t2, a1, b1⟩ := kk r u t T'.heap (locs ++ L) e1.symm (by rw [← e2]; exact X'.warmed.alike) hp hb k1 k2 k3 T' rfl X'
    exact ⟨t2, st t2 a1, b1⟩
  · obtain ⟨k1, k2, k3⟩ := vx_keep h0 e1 hS hAX hf hL hF
    obtain ⟨t2, a1, b1⟩ := kx E ce q u t T'.heap (locs ++ L) e1.symm (by rw [← e2]; exact X'.warmed.alike) hp hb k1 k2 k3 (by rw [e1]; exact hce) hcv hcl T' rfl X'
    exact ⟨t2, st.trans a1, b1⟩
end
/-! ===== END ===== -/
/-! ===== BEGIN what the machine throws by itself: null at a field, at athrow ===== -/
section VXM2
variable {p : Program} {l : Launch} {e : Env} {R : Room} {s : State} {m : MethodId} {args : Array Value} {below : List Frame} {meth : Method} {c : Code} {H : Heap} {locs : List Loc} {cells slots : Nat}
variable {Q : State → Prop} {cc : ByteArray} {pc : Nat} {ls : Array Slot} {rest : List Value}
theorem vx_getfN {D cl tys} {own ref C : String} {T : u_T} {N ci index : Nat} {Ts : List Cond} (hexec : p.tables.exec = Jvm.exec) (hb : c.code = cc) (hts : ∀ w ∈ Ts, w.before args s = true) (hin : ∀ w ∈ u_ws C T N, w ∈ Ts) (hown : s.vm.findClass own = some m.cls) (hK : va_K D cl tys s) (hc : cl[ci]? = some (C, T, N)) (k : Nat) (hk : k < N) (hlink : (Cond.fieldLink own index ref (T k).2.1 (T k).2.2.1).before args s = true) (hsame : ∀ x, s.fieldFound? (T k).1 (T k).2.1 (T k).2.2.1 = some x → s.fieldFound? ref (T k).2.1 (T k).2.2.1 = some x) (hdg : decode cc pc = .ok (.getfield index, 3)) (kk : vx_NoteN p l e R s m args below meth c H locs cells slots Q (F0 m pc ls rest)) : W p l e R s m args below meth c H locs cells slots Q (F0 m pc ls (.null :: rest)) := by
  obtain ⟨hS, hfc, kC, hkC, -⟩ := hK.1 ci _ hc
  obtain ⟨cf, kf, fi, f, hi, -⟩ := hS k hk
  intro U hU X
  obtain ⟨vm', X1, st1⟩ := X.getfieldNull hexec hown hlink (hsame _ hi) (u_facts hfc hkC (u_lays hts hin hk) hi).1 (g := F0 m pc ls (.null :: rest)) rfl (rest := rest) rfl (by rw [hb]; exact hdg)
  obtain ⟨t, st, q⟩ := kk (U.setVm vm') hU X1
  exact ⟨t, st1 t st, q⟩
theorem vx_getfNN {D cl tys} {own ref C host : String} {T : u_T} {N ci index : Nat} {Ts : List Cond} (hexec : p.tables.exec = Jvm.exec) (hb : c.code = cc) (hts : ∀ w ∈ Ts, w.before args s = true) (hin : ∀ w ∈ u_ws C T N, w ∈ Ts) (hown : s.vm.findClass own = some m.cls) (hK : va_K D cl tys s) (hc : cl[ci]? = some (C, T, N)) (k : Nat) (hk : k < N) (hlink : (Cond.fieldLinkNest own index ref (T k).2.1 (T k).2.2.1 host).before args s = true) (hsame : ∀ x, s.fieldFound? (T k).1 (T k).2.1 (T k).2.2.1 = some x → s.fieldFound? ref (T k).2.1 (T k).2.2.1 = some x) (hdg : decode cc pc = .ok (.getfield index, 3)) (kk : vx_NoteN p l e R s m args below meth c H locs cells slots Q (F0 m pc ls rest)) : W p l e R s m args below meth c H locs cells slots Q (F0 m pc ls (.null :: rest)) := by
  obtain ⟨hS, hfc, kC, hkC, -⟩ := hK.1 ci _ hc
  obtain ⟨cf, kf, fi, f, hi, -⟩ := hS k hk
  intro U hU X
  obtain ⟨vm', X1, st1⟩ := X.getfieldNullNest hexec hown hlink (hsame _ hi) (u_facts hfc hkC (u_lays hts hin hk) hi).1 (g := F0 m pc ls (.null :: rest)) rfl (rest := rest) rfl (by rw [hb]; exact hdg)
  obtain ⟨t, st, q⟩ := kk (U.setVm vm') hU X1
  exact ⟨t, st1 t st, q⟩
theorem vx_putfN {D cl tys} {own ref C : String} {T : u_T} {N ci index : Nat} {Ts : List Cond} (hexec : p.tables.exec = Jvm.exec) (hb : c.code = cc) (hts : ∀ w ∈ Ts, w.before args s = true) (hin : ∀ w ∈ u_ws C T N, w ∈ Ts) (hown : s.vm.findClass own = some m.cls) (hK : va_K D cl tys s) (hc : cl[ci]? = some (C, T, N)) (k : Nat) (hk : k < N) (hlink : (Cond.fieldLink own index ref (T k).2.1 (T k).2.2.1).before args s = true) (hsame : ∀ x, s.fieldFound? (T k).1 (T k).2.1 (T k).2.2.1 = some x → s.fieldFound? ref (T k).2.1 (T k).2.2.1 = some x) (hfin : (T k).2.2.2 = false) {v : Value} (hdg : decode cc pc = .ok (.putfield index, 3)) (kk : vx_NoteN p l e R s m args below meth c H locs cells slots Q (F0 m pc ls rest)) : W p l e R s m args below meth c H locs cells slots Q (F0 m pc ls (v :: .null :: rest)) := by
  obtain ⟨hS, hfc, kC, hkC, -⟩ := hK.1 ci _ hc
  obtain ⟨cf, kf, fi, f, hi, -⟩ := hS k hk
  have hlay := hts _ (hin _ (u_in_lay hk))
  unfold u_lay at hlay
  rw [if_neg (by rw [hfin]; decide)] at hlay
  obtain ⟨c9, k9, cf9, kf9, fi9, f9, -, -, hi9, hst9, hnf9, -⟩ := Cond.lays_spec hlay
  cases hi.symm.trans hi9
  intro U hU X
  obtain ⟨vm', X1, st1⟩ := X.putfieldNull hexec hown hlink (hsame _ hi) hst9 hnf9 (g := F0 m pc ls (v :: .null :: rest)) rfl (v := v) (rest := rest) rfl (by rw [hb]; exact hdg)
  obtain ⟨t, st, q⟩ := kk (U.setVm vm') hU X1
  exact ⟨t, st1 t st, q⟩
theorem vx_putfNN {D cl tys} {own ref C host : String} {T : u_T} {N ci index : Nat} {Ts : List Cond} (hexec : p.tables.exec = Jvm.exec) (hb : c.code = cc) (hts : ∀ w ∈ Ts, w.before args s = true) (hin : ∀ w ∈ u_ws C T N, w ∈ Ts) (hown : s.vm.findClass own = some m.cls) (hK : va_K D cl tys s) (hc : cl[ci]? = some (C, T, N)) (k : Nat) (hk : k < N) (hlink : (Cond.fieldLinkNest own index ref (T k).2.1 (T k).2.2.1 host).before args s = true) (hsame : ∀ x, s.fieldFound? (T k).1 (T k).2.1 (T k).2.2.1 = some x → s.fieldFound? ref (T k).2.1 (T k).2.2.1 = some x) (hfin : (T k).2.2.2 = false) {v : Value} (hdg : decode cc pc = .ok (.putfield index, 3)) (kk : vx_NoteN p l e R s m args below meth c H locs cells slots Q (F0 m pc ls rest)) : W p l e R s m args below meth c H locs cells slots Q (F0 m pc ls (v :: .null :: rest)) := by
  obtain ⟨hS, hfc, kC, hkC, -⟩ := hK.1 ci _ hc
  obtain ⟨cf, kf, fi, f, hi, -⟩ := hS k hk
  have hlay := hts _ (hin _ (u_in_lay hk))
  unfold u_lay at hlay
  rw [if_neg (by rw [hfin]; decide)] at hlay
  obtain ⟨c9, k9, cf9, kf9, fi9, f9, -, -, hi9, hst9, hnf9, -⟩ := Cond.lays_spec hlay
  cases hi.symm.trans hi9
  intro U hU X
  obtain ⟨vm', X1, st1⟩ := X.putfieldNullNest hexec hown hlink (hsame _ hi) hst9 hnf9 (g := F0 m pc ls (v :: .null :: rest)) rfl (v := v) (rest := rest) rfl (by rw [hb]; exact hdg)
  obtain ⟨t, st, q⟩ := kk (U.setVm vm') hU X1
  exact ⟨t, st1 t st, q⟩
theorem vx_athrowN (hexec : p.tables.exec = Jvm.exec) (hb : c.code = cc) (hdg : decode cc pc = .ok (.athrow, 1)) (k : vx_NoteN p l e R s m args below meth c H locs cells slots Q (F0 m pc ls rest)) : W p l e R s m args below meth c H locs cells slots Q (F0 m pc ls (.null :: rest)) := by
  intro T hT X
  obtain ⟨t, st, q⟩ := k T hT X
  exact ⟨t, X.athrowNull hexec (g := F0 m pc ls (.null :: rest)) rfl (rest := rest) rfl (by rw [hb]; exact hdg) t st, q⟩
end VXM2
/-! ===== END ===== -/
end
section
def RX0 : String := "PathProfiler$Graph"
def TX0 : u_T := fun k => match k with
  | 0 => ("PathProfiler$Graph", "nodes", "I", false)
  | 1 => ("PathProfiler$Graph", "edges", "I", false)
  | 2 => ("PathProfiler$Graph", "sources", "[I", true)
  | 3 => ("PathProfiler$Graph", "targets", "[I", true)
  | _ => ("PathProfiler$Graph", "weights", "[I", true)
def tyX0 : Nat → FieldType := fun k => match k with
  | 0 => .int
  | 1 => .int
  | 2 => .array .int
  | 3 => .array .int
  | _ => .array .int
abbrev wsX00 : List Cond := u_ws RX0 TX0 5
theorem nmX0 : ∀ a, a < 5 → ∀ b, b < 5 → a ≠ b → (TX0 a).2.1 ≠ (TX0 b).2.1 := by decide +kernel
theorem tyX0_ok : ∀ k, k < 5 → parseFieldDescriptor (TX0 k).2.2.1 = some (tyX0 k) := by decide +kernel
abbrev cX0_init : ByteArray := prog_2_method_1_code
def yX0_init : MethodName := ⟨RX0, "<init>", "()V"⟩
abbrev cX0_reset : ByteArray := prog_2_method_2_code
def yX0_reset : MethodName := ⟨RX0, "reset", "(I)V"⟩
abbrev cX0_exit : ByteArray := prog_2_method_3_code
def yX0_exit : MethodName := ⟨RX0, "exit", "()I"⟩
abbrev cX0_hasNode : ByteArray := prog_2_method_4_code
def yX0_hasNode : MethodName := ⟨RX0, "hasNode", "(I)Z"⟩
abbrev cX0_hasEdge : ByteArray := prog_2_method_5_code
def yX0_hasEdge : MethodName := ⟨RX0, "hasEdge", "(I)Z"⟩
abbrev cX0_isFull : ByteArray := prog_2_method_6_code
def yX0_isFull : MethodName := ⟨RX0, "isFull", "()Z"⟩
abbrev cX0_allows : ByteArray := prog_2_method_7_code
def yX0_allows : MethodName := ⟨RX0, "allows", "(II)Z"⟩
abbrev cX0_joins : ByteArray := prog_2_method_8_code
def yX0_joins : MethodName := ⟨RX0, "joins", "(II)Z"⟩
abbrev cX0_add : ByteArray := prog_2_method_9_code
def yX0_add : MethodName := ⟨RX0, "add", "(II)I"⟩
abbrev cX0_nextOf : ByteArray := prog_2_method_10_code
def yX0_nextOf : MethodName := ⟨RX0, "nextOf", "(II)I"⟩
abbrev cX0_edgeAt : ByteArray := prog_2_method_11_code
def yX0_edgeAt : MethodName := ⟨RX0, "edgeAt", "(II)I"⟩
abbrev cX0_become : ByteArray := prog_2_method_12_code
def yX0_become : MethodName := ⟨RX0, "become", "(LPathProfiler$Graph;)V"⟩
def RX1 : String := "PathProfiler$Links"
def TX1 : u_T := fun k => match k with
  | 0 => ("PathProfiler$Links", "graph", "LPathProfiler$Graph;", true)
  | 1 => ("PathProfiler$Links", "search", "LPathProfiler$Search;", true)
  | 2 => ("PathProfiler$Links", "sources", "[I", true)
  | 3 => ("PathProfiler$Links", "targets", "[I", true)
  | 4 => ("PathProfiler$Links", "values", "[I", true)
  | _ => ("PathProfiler$Links", "pathsOf", "[I", true)
def tyX1 : Nat → FieldType := fun k => match k with
  | 0 => .object "PathProfiler$Graph"
  | 1 => .object "PathProfiler$Search"
  | 2 => .array .int
  | 3 => .array .int
  | 4 => .array .int
  | _ => .array .int
abbrev wsX10 : List Cond := u_ws RX1 TX1 6
theorem nmX1 : ∀ a, a < 6 → ∀ b, b < 6 → a ≠ b → (TX1 a).2.1 ≠ (TX1 b).2.1 := by decide +kernel
theorem tyX1_ok : ∀ k, k < 6 → parseFieldDescriptor (TX1 k).2.2.1 = some (tyX1 k) := by decide +kernel
abbrev cX1_init : ByteArray := prog_3_method_1_code
def yX1_init : MethodName := ⟨RX1, "<init>", "(LPathProfiler$Graph;LPathProfiler$Search;)V"⟩
abbrev cX1_build : ByteArray := prog_3_method_2_code
def yX1_build : MethodName := ⟨RX1, "build", "()V"⟩
abbrev cX1_put : ByteArray := prog_3_method_3_code
def yX1_put : MethodName := ⟨RX1, "put", "(III)V"⟩
abbrev cX1_countPaths : ByteArray := prog_3_method_4_code
def yX1_countPaths : MethodName := ⟨RX1, "countPaths", "()V"⟩
abbrev cX1_countPathsOf : ByteArray := prog_3_method_5_code
def yX1_countPathsOf : MethodName := ⟨RX1, "countPathsOf", "(I)V"⟩
abbrev cX1_allPaths : ByteArray := prog_3_method_6_code
def yX1_allPaths : MethodName := ⟨RX1, "allPaths", "()I"⟩
abbrev cX1_linkOf : ByteArray := prog_3_method_7_code
def yX1_linkOf : MethodName := ⟨RX1, "linkOf", "(IZ)I"⟩
abbrev cX1_between : ByteArray := prog_3_method_8_code
def yX1_between : MethodName := ⟨RX1, "between", "(III)I"⟩
abbrev cX1_onward : ByteArray := prog_3_method_9_code
def yX1_onward : MethodName := ⟨RX1, "onward", "(II)I"⟩
def RX2 : String := "PathProfiler$Paths"
def TX2 : u_T := fun k => match k with
  | 0 => ("PathProfiler$Paths", "graph", "LPathProfiler$Graph;", true)
  | 1 => ("PathProfiler$Paths", "links", "LPathProfiler$Links;", true)
  | 2 => ("PathProfiler$Paths", "traced", "[I", true)
  | _ => ("PathProfiler$Paths", "tracedLength", "I", false)
def tyX2 : Nat → FieldType := fun k => match k with
  | 0 => .object "PathProfiler$Graph"
  | 1 => .object "PathProfiler$Links"
  | 2 => .array .int
  | _ => .int
abbrev wsX20 : List Cond := u_ws RX2 TX2 4
theorem nmX2 : ∀ a, a < 4 → ∀ b, b < 4 → a ≠ b → (TX2 a).2.1 ≠ (TX2 b).2.1 := by decide +kernel
theorem tyX2_ok : ∀ k, k < 4 → parseFieldDescriptor (TX2 k).2.2.1 = some (tyX2 k) := by decide +kernel
abbrev cX2_init : ByteArray := prog_4_method_1_code
def yX2_init : MethodName := ⟨RX2, "<init>", "(LPathProfiler$Graph;LPathProfiler$Links;)V"⟩
abbrev cX2_trace : ByteArray := prog_4_method_2_code
def yX2_trace : MethodName := ⟨RX2, "trace", "(I)V"⟩
abbrev cX2_contains : ByteArray := prog_4_method_3_code
def yX2_contains : MethodName := ⟨RX2, "contains", "(I)Z"⟩
abbrev cX2_startEdge : ByteArray := prog_4_method_4_code
def yX2_startEdge : MethodName := ⟨RX2, "startEdge", "()I"⟩
abbrev cX2_endEdge : ByteArray := prog_4_method_5_code
def yX2_endEdge : MethodName := ⟨RX2, "endEdge", "()I"⟩
abbrev cX2_nodeNumber : ByteArray := prog_4_method_6_code
def yX2_nodeNumber : MethodName := ⟨RX2, "nodeNumber", "()I"⟩
abbrev cX2_nodeAt : ByteArray := prog_4_method_7_code
def yX2_nodeAt : MethodName := ⟨RX2, "nodeAt", "(I)I"⟩
abbrev cX2_numberOf : ByteArray := prog_4_method_8_code
def yX2_numberOf : MethodName := ⟨RX2, "numberOf", "(LPathProfiler$Text;)I"⟩
abbrev cX2_plusValue : ByteArray := prog_4_method_9_code
def yX2_plusValue : MethodName := ⟨RX2, "plusValue", "(II)I"⟩
def RX3 : String := "PathProfiler$Reader"
def TX3 : u_T := fun k => match k with
  | 0 => ("PathProfiler$Reader", "draft", "LPathProfiler$Graph;", true)
  | _ => ("PathProfiler$Reader", "source", "I", false)
def tyX3 : Nat → FieldType := fun k => match k with
  | 0 => .object "PathProfiler$Graph"
  | _ => .int
abbrev wsX30 : List Cond := u_ws RX3 TX3 2
theorem nmX3 : ∀ a, a < 2 → ∀ b, b < 2 → a ≠ b → (TX3 a).2.1 ≠ (TX3 b).2.1 := by decide +kernel
theorem tyX3_ok : ∀ k, k < 2 → parseFieldDescriptor (TX3 k).2.2.1 = some (tyX3 k) := by decide +kernel
abbrev cX3_init : ByteArray := prog_5_method_1_code
def yX3_init : MethodName := ⟨RX3, "<init>", "()V"⟩
abbrev cX3_read : ByteArray := prog_5_method_2_code
def yX3_read : MethodName := ⟨RX3, "read", "(LPathProfiler$Text;)I"⟩
abbrev cX3_readsGraph : ByteArray := prog_5_method_3_code
def yX3_readsGraph : MethodName := ⟨RX3, "readsGraph", "(LPathProfiler$Text;)Z"⟩
abbrev cX3_endsWithTarget : ByteArray := prog_5_method_4_code
def yX3_endsWithTarget : MethodName := ⟨RX3, "endsWithTarget", "(I)Z"⟩
abbrev cX3_takes : ByteArray := prog_5_method_5_code
def yX3_takes : MethodName := ⟨RX3, "takes", "(II)Z"⟩
abbrev cX3_takesExit : ByteArray := prog_5_method_6_code
def yX3_takesExit : MethodName := ⟨RX3, "takesExit", "(I)Z"⟩
abbrev cX3_takesSource : ByteArray := prog_5_method_7_code
def yX3_takesSource : MethodName := ⟨RX3, "takesSource", "(I)Z"⟩
abbrev cX3_takesTarget : ByteArray := prog_5_method_8_code
def yX3_takesTarget : MethodName := ⟨RX3, "takesTarget", "(I)Z"⟩
def RX4 : String := "PathProfiler$Search"
def TX4 : u_T := fun k => match k with
  | 0 => ("PathProfiler$Search", "graph", "LPathProfiler$Graph;", true)
  | 1 => ("PathProfiler$Search", "back", "[Z", true)
  | 2 => ("PathProfiler$Search", "left", "[I", true)
  | 3 => ("PathProfiler$Search", "leftNumber", "I", false)
  | 4 => ("PathProfiler$Search", "path", "[I", true)
  | 5 => ("PathProfiler$Search", "depth", "I", false)
  | 6 => ("PathProfiler$Search", "nextEdges", "[I", true)
  | 7 => ("PathProfiler$Search", "reached", "[Z", true)
  | 8 => ("PathProfiler$Search", "onPath", "[Z", true)
  | _ => ("PathProfiler$Search", "leadsToExit", "[Z", true)
def tyX4 : Nat → FieldType := fun k => match k with
  | 0 => .object "PathProfiler$Graph"
  | 1 => .array .boolean
  | 2 => .array .int
  | 3 => .int
  | 4 => .array .int
  | 5 => .int
  | 6 => .array .int
  | 7 => .array .boolean
  | 8 => .array .boolean
  | _ => .array .boolean
abbrev wsX40 : List Cond := u_ws RX4 TX4 10
theorem nmX4 : ∀ a, a < 10 → ∀ b, b < 10 → a ≠ b → (TX4 a).2.1 ≠ (TX4 b).2.1 := by decide +kernel
theorem tyX4_ok : ∀ k, k < 10 → parseFieldDescriptor (TX4 k).2.2.1 = some (tyX4 k) := by decide +kernel
abbrev cX4_init : ByteArray := prog_6_method_1_code
def yX4_init : MethodName := ⟨RX4, "<init>", "(LPathProfiler$Graph;)V"⟩
abbrev cX4_run : ByteArray := prog_6_method_2_code
def yX4_run : MethodName := ⟨RX4, "run", "()V"⟩
abbrev cX4_prepare : ByteArray := prog_6_method_3_code
def yX4_prepare : MethodName := ⟨RX4, "prepare", "()V"⟩
abbrev cX4_enter : ByteArray := prog_6_method_4_code
def yX4_enter : MethodName := ⟨RX4, "enter", "(I)V"⟩
abbrev cX4_leave : ByteArray := prog_6_method_5_code
def yX4_leave : MethodName := ⟨RX4, "leave", "(I)V"⟩
abbrev cX4_follow : ByteArray := prog_6_method_6_code
def yX4_follow : MethodName := ⟨RX4, "follow", "(I)V"⟩
abbrev cX4_allNodesReached : ByteArray := prog_6_method_7_code
def yX4_allNodesReached : MethodName := ⟨RX4, "allNodesReached", "()Z"⟩
abbrev cX4_exitReachedFromAllNodes : ByteArray := prog_6_method_8_code
def yX4_exitReachedFromAllNodes : MethodName := ⟨RX4, "exitReachedFromAllNodes", "()Z"⟩
abbrev cX4_spreadLeadsToExit : ByteArray := prog_6_method_9_code
def yX4_spreadLeadsToExit : MethodName := ⟨RX4, "spreadLeadsToExit", "()V"⟩
def RX5 : String := "PathProfiler$Text"
def TX5 : u_T := fun k => match k with
  | 0 => ("PathProfiler$Text", "codes", "[I", true)
  | _ => ("PathProfiler$Text", "length", "I", false)
def tyX5 : Nat → FieldType := fun k => match k with
  | 0 => .array .int
  | _ => .int
abbrev wsX50 : List Cond := u_ws RX5 TX5 2
theorem nmX5 : ∀ a, a < 2 → ∀ b, b < 2 → a ≠ b → (TX5 a).2.1 ≠ (TX5 b).2.1 := by decide +kernel
theorem tyX5_ok : ∀ k, k < 2 → parseFieldDescriptor (TX5 k).2.2.1 = some (tyX5 k) := by decide +kernel
abbrev cX5_init : ByteArray := prog_7_method_1_code
def yX5_init : MethodName := ⟨RX5, "<init>", "()V"⟩
abbrev cX5_isFull : ByteArray := prog_7_method_2_code
def yX5_isFull : MethodName := ⟨RX5, "isFull", "()Z"⟩
abbrev cX5_add : ByteArray := prog_7_method_3_code
def yX5_add : MethodName := ⟨RX5, "add", "(I)V"⟩
abbrev cX5_nodeAt : ByteArray := prog_7_method_4_code
def yX5_nodeAt : MethodName := ⟨RX5, "nodeAt", "(I)I"⟩
def RX6 : String := "PathProfiler$Tree"
def TX6 : u_T := fun k => match k with
  | 0 => ("PathProfiler$Tree", "graph", "LPathProfiler$Graph;", true)
  | 1 => ("PathProfiler$Tree", "links", "LPathProfiler$Links;", true)
  | 2 => ("PathProfiler$Tree", "increments", "[I", true)
  | 3 => ("PathProfiler$Tree", "chordNumber", "I", false)
  | 4 => ("PathProfiler$Tree", "chordWeight", "I", false)
  | 5 => ("PathProfiler$Tree", "order", "[I", true)
  | 6 => ("PathProfiler$Tree", "orderLength", "I", false)
  | 7 => ("PathProfiler$Tree", "parts", "[I", true)
  | _ => ("PathProfiler$Tree", "potentials", "[I", true)
def tyX6 : Nat → FieldType := fun k => match k with
  | 0 => .object "PathProfiler$Graph"
  | 1 => .object "PathProfiler$Links"
  | 2 => .array .int
  | 3 => .int
  | 4 => .int
  | 5 => .array .int
  | 6 => .int
  | 7 => .array .int
  | _ => .array .int
abbrev wsX60 : List Cond := u_ws RX6 TX6 9
theorem nmX6 : ∀ a, a < 9 → ∀ b, b < 9 → a ≠ b → (TX6 a).2.1 ≠ (TX6 b).2.1 := by decide +kernel
theorem tyX6_ok : ∀ k, k < 9 → parseFieldDescriptor (TX6 k).2.2.1 = some (tyX6 k) := by decide +kernel
abbrev cX6_init : ByteArray := prog_8_method_1_code
def yX6_init : MethodName := ⟨RX6, "<init>", "(LPathProfiler$Graph;LPathProfiler$Links;)V"⟩
abbrev cX6_build : ByteArray := prog_8_method_2_code
def yX6_build : MethodName := ⟨RX6, "build", "()V"⟩
abbrev cX6_weightOf : ByteArray := prog_8_method_3_code
def yX6_weightOf : MethodName := ⟨RX6, "weightOf", "(I)I"⟩
abbrev cX6_sortLinks : ByteArray := prog_8_method_4_code
def yX6_sortLinks : MethodName := ⟨RX6, "sortLinks", "()V"⟩
abbrev cX6_sortIn : ByteArray := prog_8_method_5_code
def yX6_sortIn : MethodName := ⟨RX6, "sortIn", "(I)V"⟩
abbrev cX6_plant : ByteArray := prog_8_method_6_code
def yX6_plant : MethodName := ⟨RX6, "plant", "()V"⟩
abbrev cX6_consider : ByteArray := prog_8_method_7_code
def yX6_consider : MethodName := ⟨RX6, "consider", "(I)V"⟩
abbrev cX6_join : ByteArray := prog_8_method_8_code
def yX6_join : MethodName := ⟨RX6, "join", "(I)V"⟩
abbrev cX6_computeIncrements : ByteArray := prog_8_method_9_code
def yX6_computeIncrements : MethodName := ⟨RX6, "computeIncrements", "()V"⟩
def RX7 : String := "PathProfiler$Walk"
def TX7 : u_T := fun k => match k with
  | 0 => ("PathProfiler$Walk", "node", "I", false)
  | 1 => ("PathProfiler$Walk", "sum", "I", false)
  | 2 => ("PathProfiler$Walk", "counts", "[I", true)
  | _ => ("PathProfiler$Walk", "total", "I", false)
def tyX7 : Nat → FieldType := fun k => match k with
  | 0 => .int
  | 1 => .int
  | 2 => .array .int
  | _ => .int
abbrev wsX70 : List Cond := u_ws RX7 TX7 4
theorem nmX7 : ∀ a, a < 4 → ∀ b, b < 4 → a ≠ b → (TX7 a).2.1 ≠ (TX7 b).2.1 := by decide +kernel
theorem tyX7_ok : ∀ k, k < 4 → parseFieldDescriptor (TX7 k).2.2.1 = some (tyX7 k) := by decide +kernel
abbrev cX7_init : ByteArray := prog_9_method_1_code
def yX7_init : MethodName := ⟨RX7, "<init>", "()V"⟩
abbrev cX7_forget : ByteArray := prog_9_method_2_code
def yX7_forget : MethodName := ⟨RX7, "forget", "()V"⟩
abbrev cX7_begin : ByteArray := prog_9_method_3_code
def yX7_begin : MethodName := ⟨RX7, "begin", "()V"⟩
abbrev cX7_countPath : ByteArray := prog_9_method_4_code
def yX7_countPath : MethodName := ⟨RX7, "countPath", "()V"⟩
abbrev cX7_mostCounted : ByteArray := prog_9_method_5_code
def yX7_mostCounted : MethodName := ⟨RX7, "mostCounted", "()I"⟩
def RX8 : String := "PathProfiler"
def TX8 : u_T := fun k => match k with
  | 0 => ("PathProfiler", "graph", "LPathProfiler$Graph;", true)
  | 1 => ("PathProfiler", "text", "LPathProfiler$Text;", true)
  | 2 => ("PathProfiler", "reader", "LPathProfiler$Reader;", true)
  | 3 => ("PathProfiler", "search", "LPathProfiler$Search;", true)
  | 4 => ("PathProfiler", "links", "LPathProfiler$Links;", true)
  | 5 => ("PathProfiler", "tree", "LPathProfiler$Tree;", true)
  | 6 => ("PathProfiler", "paths", "LPathProfiler$Paths;", true)
  | 7 => ("PathProfiler", "walk", "LPathProfiler$Walk;", true)
  | _ => ("PathProfiler", "analysed", "Z", false)
def tyX8 : Nat → FieldType := fun k => match k with
  | 0 => .object "PathProfiler$Graph"
  | 1 => .object "PathProfiler$Text"
  | 2 => .object "PathProfiler$Reader"
  | 3 => .object "PathProfiler$Search"
  | 4 => .object "PathProfiler$Links"
  | 5 => .object "PathProfiler$Tree"
  | 6 => .object "PathProfiler$Paths"
  | 7 => .object "PathProfiler$Walk"
  | _ => .boolean
abbrev wsX80 : List Cond := u_ws RX8 TX8 9
theorem nmX8 : ∀ a, a < 9 → ∀ b, b < 9 → a ≠ b → (TX8 a).2.1 ≠ (TX8 b).2.1 := by decide +kernel
theorem tyX8_ok : ∀ k, k < 9 → parseFieldDescriptor (TX8 k).2.2.1 = some (tyX8 k) := by decide +kernel
abbrev cX8_init : ByteArray := prog_1_method_1_code
def yX8_init : MethodName := ⟨RX8, "<init>", "()V"⟩
abbrev cX8_setNodes : ByteArray := prog_1_method_2_code
def yX8_setNodes : MethodName := ⟨RX8, "setNodes", "(I)V"⟩
abbrev cX8_addEdge : ByteArray := prog_1_method_3_code
def yX8_addEdge : MethodName := ⟨RX8, "addEdge", "(II)I"⟩
abbrev cX8_setWeight : ByteArray := prog_1_method_4_code
def yX8_setWeight : MethodName := ⟨RX8, "setWeight", "(II)I"⟩
abbrev cX8_edgeCount : ByteArray := prog_1_method_5_code
def yX8_edgeCount : MethodName := ⟨RX8, "edgeCount", "()I"⟩
abbrev cX8_append : ByteArray := prog_1_method_6_code
def yX8_append : MethodName := ⟨RX8, "append", "(I)I"⟩
abbrev cX8_clearInput : ByteArray := prog_1_method_7_code
def yX8_clearInput : MethodName := ⟨RX8, "clearInput", "()I"⟩
abbrev cX8_firstError : ByteArray := prog_1_method_8_code
def yX8_firstError : MethodName := ⟨RX8, "firstError", "()I"⟩
abbrev cX8_load : ByteArray := prog_1_method_9_code
def yX8_load : MethodName := ⟨RX8, "load", "()I"⟩
abbrev cX8_analyse : ByteArray := prog_1_method_10_code
def yX8_analyse : MethodName := ⟨RX8, "analyse", "()I"⟩
abbrev cX8_pathsFrom : ByteArray := prog_1_method_11_code
def yX8_pathsFrom : MethodName := ⟨RX8, "pathsFrom", "(I)I"⟩
abbrev cX8_isBack : ByteArray := prog_1_method_12_code
def yX8_isBack : MethodName := ⟨RX8, "isBack", "(I)Z"⟩
abbrev cX8_value : ByteArray := prog_1_method_13_code
def yX8_value : MethodName := ⟨RX8, "value", "(IZ)I"⟩
abbrev cX8_increment : ByteArray := prog_1_method_14_code
def yX8_increment : MethodName := ⟨RX8, "increment", "(IZ)I"⟩
abbrev cX8_chords : ByteArray := prog_1_method_15_code
def yX8_chords : MethodName := ⟨RX8, "chords", "(Z)I"⟩
abbrev cX8_pathLength : ByteArray := prog_1_method_16_code
def yX8_pathLength : MethodName := ⟨RX8, "pathLength", "(I)I"⟩
abbrev cX8_pathNode : ByteArray := prog_1_method_17_code
def yX8_pathNode : MethodName := ⟨RX8, "pathNode", "(II)I"⟩
abbrev cX8_pathEdge : ByteArray := prog_1_method_18_code
def yX8_pathEdge : MethodName := ⟨RX8, "pathEdge", "(IZ)I"⟩
abbrev cX8_findPath : ByteArray := prog_1_method_19_code
def yX8_findPath : MethodName := ⟨RX8, "findPath", "()I"⟩
abbrev cX8_start : ByteArray := prog_1_method_20_code
def yX8_start : MethodName := ⟨RX8, "start", "()V"⟩
abbrev cX8_step : ByteArray := prog_1_method_21_code
def yX8_step : MethodName := ⟨RX8, "step", "(I)I"⟩
abbrev cX8_current : ByteArray := prog_1_method_22_code
def yX8_current : MethodName := ⟨RX8, "current", "()I"⟩
abbrev cX8_register : ByteArray := prog_1_method_23_code
def yX8_register : MethodName := ⟨RX8, "register", "()I"⟩
abbrev cX8_count : ByteArray := prog_1_method_24_code
def yX8_count : MethodName := ⟨RX8, "count", "(I)I"⟩
abbrev cX8_share : ByteArray := prog_1_method_25_code
def yX8_share : MethodName := ⟨RX8, "share", "(I)D"⟩
abbrev cX8_hottest : ByteArray := prog_1_method_26_code
def yX8_hottest : MethodName := ⟨RX8, "hottest", "()I"⟩
abbrev cX8_edgeFrequency : ByteArray := prog_1_method_27_code
def yX8_edgeFrequency : MethodName := ⟨RX8, "edgeFrequency", "(I)I"⟩
abbrev cX8_digest : ByteArray := prog_1_method_28_code
def yX8_digest : MethodName := ⟨RX8, "digest", "()J"⟩
abbrev cX8_discardAnalysis : ByteArray := prog_1_method_29_code
def yX8_discardAnalysis : MethodName := ⟨RX8, "discardAnalysis", "()V"⟩
abbrev cX8_isCountable : ByteArray := prog_1_method_30_code
def yX8_isCountable : MethodName := ⟨RX8, "isCountable", "()Z"⟩
abbrev cX8_requireAnalysis : ByteArray := prog_1_method_31_code
def yX8_requireAnalysis : MethodName := ⟨RX8, "requireAnalysis", "()V"⟩
abbrev cX8_requireCounts : ByteArray := prog_1_method_32_code
def yX8_requireCounts : MethodName := ⟨RX8, "requireCounts", "()V"⟩
abbrev cX8_requireEdge : ByteArray := prog_1_method_33_code
def yX8_requireEdge : MethodName := ⟨RX8, "requireEdge", "(I)V"⟩
abbrev cX8_requirePath : ByteArray := prog_1_method_34_code
def yX8_requirePath : MethodName := ⟨RX8, "requirePath", "(I)V"⟩
abbrev cX8_follow : ByteArray := prog_1_method_35_code
def yX8_follow : MethodName := ⟨RX8, "follow", "(I)V"⟩
abbrev cX8_mix : ByteArray := prog_1_method_36_code
def yX8_mix : MethodName := ⟨RX8, "mix", "(JI)J"⟩
abbrev cX8_mixGraph : ByteArray := prog_1_method_37_code
def yX8_mixGraph : MethodName := ⟨RX8, "mixGraph", "(J)J"⟩
abbrev cX8_mixAnalysis : ByteArray := prog_1_method_38_code
def yX8_mixAnalysis : MethodName := ⟨RX8, "mixAnalysis", "(J)J"⟩
abbrev cX8_mixLink : ByteArray := prog_1_method_39_code
def yX8_mixLink : MethodName := ⟨RX8, "mixLink", "(JI)J"⟩
abbrev cX8_mixCounts : ByteArray := prog_1_method_40_code
def yX8_mixCounts : MethodName := ⟨RX8, "mixCounts", "(J)J"⟩
abbrev cX8_mixText : ByteArray := prog_1_method_41_code
def yX8_mixText : MethodName := ⟨RX8, "mixText", "(J)J"⟩
def RX9 : String := "PathProfilerModel"
def TX9 : u_T := fun k => match k with
  | 0 => ("PathProfilerModel", "thrown", "I", false)
  | 1 => ("PathProfilerModel", "nodes", "I", false)
  | 2 => ("PathProfilerModel", "edges", "I", false)
  | 3 => ("PathProfilerModel", "from", "[I", true)
  | 4 => ("PathProfilerModel", "to", "[I", true)
  | 5 => ("PathProfilerModel", "weight", "[I", true)
  | 6 => ("PathProfilerModel", "length", "I", false)
  | 7 => ("PathProfilerModel", "buffer", "[I", true)
  | 8 => ("PathProfilerModel", "isAnalysed", "Z", false)
  | 9 => ("PathProfilerModel", "back", "[Z", true)
  | 10 => ("PathProfilerModel", "paths", "[I", true)
  | 11 => ("PathProfilerModel", "values", "[I", true)
  | 12 => ("PathProfilerModel", "increments", "[I", true)
  | 13 => ("PathProfilerModel", "inTree", "[Z", true)
  | 14 => ("PathProfilerModel", "isWalking", "Z", false)
  | 15 => ("PathProfilerModel", "isOver", "Z", false)
  | 16 => ("PathProfilerModel", "at", "I", false)
  | 17 => ("PathProfilerModel", "register", "I", false)
  | 18 => ("PathProfilerModel", "counts", "[I", true)
  | 19 => ("PathProfilerModel", "readNodes", "I", false)
  | 20 => ("PathProfilerModel", "readEdges", "I", false)
  | 21 => ("PathProfilerModel", "readFrom", "[I", true)
  | 22 => ("PathProfilerModel", "readTo", "[I", true)
  | 23 => ("PathProfilerModel", "stage", "I", false)
  | 24 => ("PathProfilerModel", "seen", "[Z", true)
  | 25 => ("PathProfilerModel", "onPath", "[Z", true)
  | 26 => ("PathProfilerModel", "path", "[I", true)
  | 27 => ("PathProfilerModel", "nextEdge", "[I", true)
  | 28 => ("PathProfilerModel", "left", "[I", true)
  | 29 => ("PathProfilerModel", "leftMany", "I", false)
  | 30 => ("PathProfilerModel", "group", "[I", true)
  | 31 => ("PathProfilerModel", "potential", "[I", true)
  | 32 => ("PathProfilerModel", "isKnown", "[Z", true)
  | 33 => ("PathProfilerModel", "isLookedAt", "[Z", true)
  | 34 => ("PathProfilerModel", "links", "[I", true)
  | 35 => ("PathProfilerModel", "linkMany", "I", false)
  | _ => ("PathProfilerModel", "hash", "J", false)
def tyX9 : Nat → FieldType := fun k => match k with
  | 0 => .int
  | 1 => .int
  | 2 => .int
  | 3 => .array .int
  | 4 => .array .int
  | 5 => .array .int
  | 6 => .int
  | 7 => .array .int
  | 8 => .boolean
  | 9 => .array .boolean
  | 10 => .array .int
  | 11 => .array .int
  | 12 => .array .int
  | 13 => .array .boolean
  | 14 => .boolean
  | 15 => .boolean
  | 16 => .int
  | 17 => .int
  | 18 => .array .int
  | 19 => .int
  | 20 => .int
  | 21 => .array .int
  | 22 => .array .int
  | 23 => .int
  | 24 => .array .boolean
  | 25 => .array .boolean
  | 26 => .array .int
  | 27 => .array .int
  | 28 => .array .int
  | 29 => .int
  | 30 => .array .int
  | 31 => .array .int
  | 32 => .array .boolean
  | 33 => .array .boolean
  | 34 => .array .int
  | 35 => .int
  | _ => .long
abbrev wsX90 : List Cond := u_ws RX9 TX9 37
theorem nmX9 : ∀ a, a < 37 → ∀ b, b < 37 → a ≠ b → (TX9 a).2.1 ≠ (TX9 b).2.1 := by decide +kernel
theorem tyX9_ok : ∀ k, k < 37 → parseFieldDescriptor (TX9 k).2.2.1 = some (tyX9 k) := by decide +kernel
abbrev cX9_init : ByteArray := prog_11_method_1_code
def yX9_init : MethodName := ⟨RX9, "<init>", "()V"⟩
abbrev cX9_thrown : ByteArray := prog_11_method_2_code
def yX9_thrown : MethodName := ⟨RX9, "thrown", "()I"⟩
abbrev cX9_within : ByteArray := prog_11_method_3_code
def yX9_within : MethodName := ⟨RX9, "within", "(III)Z"⟩
abbrev cX9_discard : ByteArray := prog_11_method_4_code
def yX9_discard : MethodName := ⟨RX9, "discard", "()V"⟩
abbrev cX9_setNodes : ByteArray := prog_11_method_5_code
def yX9_setNodes : MethodName := ⟨RX9, "setNodes", "(I)V"⟩
abbrev cX9_isNode : ByteArray := prog_11_method_6_code
def yX9_isNode : MethodName := ⟨RX9, "isNode", "(I)Z"⟩
abbrev cX9_edgeBetween : ByteArray := prog_11_method_7_code
def yX9_edgeBetween : MethodName := ⟨RX9, "edgeBetween", "(II)I"⟩
abbrev cX9_put : ByteArray := prog_11_method_8_code
def yX9_put : MethodName := ⟨RX9, "put", "(II)V"⟩
abbrev cX9_addEdge : ByteArray := prog_11_method_9_code
def yX9_addEdge : MethodName := ⟨RX9, "addEdge", "(II)I"⟩
abbrev cX9_isEdge : ByteArray := prog_11_method_10_code
def yX9_isEdge : MethodName := ⟨RX9, "isEdge", "(I)Z"⟩
abbrev cX9_setWeight : ByteArray := prog_11_method_11_code
def yX9_setWeight : MethodName := ⟨RX9, "setWeight", "(II)I"⟩
abbrev cX9_edgeCount : ByteArray := prog_11_method_12_code
def yX9_edgeCount : MethodName := ⟨RX9, "edgeCount", "()I"⟩
abbrev cX9_append : ByteArray := prog_11_method_13_code
def yX9_append : MethodName := ⟨RX9, "append", "(I)I"⟩
abbrev cX9_clearInput : ByteArray := prog_11_method_14_code
def yX9_clearInput : MethodName := ⟨RX9, "clearInput", "()I"⟩
abbrev cX9_isNew : ByteArray := prog_11_method_15_code
def yX9_isNew : MethodName := ⟨RX9, "isNew", "()Z"⟩
abbrev cX9_takes : ByteArray := prog_11_method_16_code
def yX9_takes : MethodName := ⟨RX9, "takes", "(I)Z"⟩
abbrev cX9_rightLength : ByteArray := prog_11_method_17_code
def yX9_rightLength : MethodName := ⟨RX9, "rightLength", "()I"⟩
abbrev cX9_firstError : ByteArray := prog_11_method_18_code
def yX9_firstError : MethodName := ⟨RX9, "firstError", "()I"⟩
abbrev cX9_load : ByteArray := prog_11_method_19_code
def yX9_load : MethodName := ⟨RX9, "load", "()I"⟩
abbrev cX9_search : ByteArray := prog_11_method_20_code
def yX9_search : MethodName := ⟨RX9, "search", "()V"⟩
abbrev cX9_allEnd : ByteArray := prog_11_method_21_code
def yX9_allEnd : MethodName := ⟨RX9, "allEnd", "()Z"⟩
abbrev cX9_linkFrom : ByteArray := prog_11_method_22_code
def yX9_linkFrom : MethodName := ⟨RX9, "linkFrom", "(I)I"⟩
abbrev cX9_linkTo : ByteArray := prog_11_method_23_code
def yX9_linkTo : MethodName := ⟨RX9, "linkTo", "(I)I"⟩
abbrev cX9_isLink : ByteArray := prog_11_method_24_code
def yX9_isLink : MethodName := ⟨RX9, "isLink", "(I)Z"⟩
abbrev cX9_kind : ByteArray := prog_11_method_25_code
def yX9_kind : MethodName := ⟨RX9, "kind", "(I)I"⟩
abbrev cX9_linkBehind : ByteArray := prog_11_method_26_code
def yX9_linkBehind : MethodName := ⟨RX9, "linkBehind", "(II)I"⟩
abbrev cX9_comesBefore : ByteArray := prog_11_method_27_code
def yX9_comesBefore : MethodName := ⟨RX9, "comesBefore", "(II)Z"⟩
abbrev cX9_number : ByteArray := prog_11_method_28_code
def yX9_number : MethodName := ⟨RX9, "number", "()V"⟩
abbrev cX9_isHeavier : ByteArray := prog_11_method_29_code
def yX9_isHeavier : MethodName := ⟨RX9, "isHeavier", "(II)Z"⟩
abbrev cX9_join : ByteArray := prog_11_method_30_code
def yX9_join : MethodName := ⟨RX9, "join", "(II)V"⟩
abbrev cX9_growTree : ByteArray := prog_11_method_31_code
def yX9_growTree : MethodName := ⟨RX9, "growTree", "()V"⟩
abbrev cX9_heaviest : ByteArray := prog_11_method_32_code
def yX9_heaviest : MethodName := ⟨RX9, "heaviest", "()I"⟩
abbrev cX9_layPotentials : ByteArray := prog_11_method_33_code
def yX9_layPotentials : MethodName := ⟨RX9, "layPotentials", "()V"⟩
abbrev cX9_analyse : ByteArray := prog_11_method_34_code
def yX9_analyse : MethodName := ⟨RX9, "analyse", "()I"⟩
abbrev cX9_lack : ByteArray := prog_11_method_35_code
def yX9_lack : MethodName := ⟨RX9, "lack", "(Z)I"⟩
abbrev cX9_pathsFrom : ByteArray := prog_11_method_36_code
def yX9_pathsFrom : MethodName := ⟨RX9, "pathsFrom", "(I)I"⟩
abbrev cX9_isBack : ByteArray := prog_11_method_37_code
def yX9_isBack : MethodName := ⟨RX9, "isBack", "(I)Z"⟩
abbrev cX9_linkOf : ByteArray := prog_11_method_38_code
def yX9_linkOf : MethodName := ⟨RX9, "linkOf", "(IZ)I"⟩
abbrev cX9_value : ByteArray := prog_11_method_39_code
def yX9_value : MethodName := ⟨RX9, "value", "(IZ)I"⟩
abbrev cX9_increment : ByteArray := prog_11_method_40_code
def yX9_increment : MethodName := ⟨RX9, "increment", "(IZ)I"⟩
abbrev cX9_chordSum : ByteArray := prog_11_method_41_code
def yX9_chordSum : MethodName := ⟨RX9, "chordSum", "(Z)I"⟩
abbrev cX9_chords : ByteArray := prog_11_method_42_code
def yX9_chords : MethodName := ⟨RX9, "chords", "(Z)I"⟩
abbrev cX9_isPath : ByteArray := prog_11_method_43_code
def yX9_isPath : MethodName := ⟨RX9, "isPath", "(I)Z"⟩
abbrev cX9_follow : ByteArray := prog_11_method_44_code
def yX9_follow : MethodName := ⟨RX9, "follow", "(I)V"⟩
abbrev cX9_beginsInside : ByteArray := prog_11_method_45_code
def yX9_beginsInside : MethodName := ⟨RX9, "beginsInside", "()Z"⟩
abbrev cX9_endsInside : ByteArray := prog_11_method_46_code
def yX9_endsInside : MethodName := ⟨RX9, "endsInside", "()Z"⟩
abbrev cX9_visited : ByteArray := prog_11_method_47_code
def yX9_visited : MethodName := ⟨RX9, "visited", "()I"⟩
abbrev cX9_visitedNode : ByteArray := prog_11_method_48_code
def yX9_visitedNode : MethodName := ⟨RX9, "visitedNode", "(I)I"⟩
abbrev cX9_lengthNow : ByteArray := prog_11_method_49_code
def yX9_lengthNow : MethodName := ⟨RX9, "lengthNow", "(I)I"⟩
abbrev cX9_pathLength : ByteArray := prog_11_method_50_code
def yX9_pathLength : MethodName := ⟨RX9, "pathLength", "(I)I"⟩
abbrev cX9_pathNode : ByteArray := prog_11_method_51_code
def yX9_pathNode : MethodName := ⟨RX9, "pathNode", "(II)I"⟩
abbrev cX9_edgeNow : ByteArray := prog_11_method_52_code
def yX9_edgeNow : MethodName := ⟨RX9, "edgeNow", "(IZ)I"⟩
abbrev cX9_pathEdge : ByteArray := prog_11_method_53_code
def yX9_pathEdge : MethodName := ⟨RX9, "pathEdge", "(IZ)I"⟩
abbrev cX9_leastValue : ByteArray := prog_11_method_54_code
def yX9_leastValue : MethodName := ⟨RX9, "leastValue", "(II)I"⟩
abbrev cX9_findNow : ByteArray := prog_11_method_55_code
def yX9_findNow : MethodName := ⟨RX9, "findNow", "()I"⟩
abbrev cX9_findPath : ByteArray := prog_11_method_56_code
def yX9_findPath : MethodName := ⟨RX9, "findPath", "()I"⟩
abbrev cX9_counts : ByteArray := prog_11_method_57_code
def yX9_counts : MethodName := ⟨RX9, "counts", "()Z"⟩
abbrev cX9_start : ByteArray := prog_11_method_58_code
def yX9_start : MethodName := ⟨RX9, "start", "()V"⟩
abbrev cX9_edgeAt : ByteArray := prog_11_method_59_code
def yX9_edgeAt : MethodName := ⟨RX9, "edgeAt", "(II)I"⟩
abbrev cX9_step : ByteArray := prog_11_method_60_code
def yX9_step : MethodName := ⟨RX9, "step", "(I)I"⟩
abbrev cX9_currentNow : ByteArray := prog_11_method_61_code
def yX9_currentNow : MethodName := ⟨RX9, "currentNow", "()I"⟩
abbrev cX9_current : ByteArray := prog_11_method_62_code
def yX9_current : MethodName := ⟨RX9, "current", "()I"⟩
abbrev cX9_register : ByteArray := prog_11_method_63_code
def yX9_register : MethodName := ⟨RX9, "register", "()I"⟩
abbrev cX9_lackOfCounts : ByteArray := prog_11_method_64_code
def yX9_lackOfCounts : MethodName := ⟨RX9, "lackOfCounts", "(Z)I"⟩
abbrev cX9_count : ByteArray := prog_11_method_65_code
def yX9_count : MethodName := ⟨RX9, "count", "(I)I"⟩
abbrev cX9_allCounts : ByteArray := prog_11_method_66_code
def yX9_allCounts : MethodName := ⟨RX9, "allCounts", "()I"⟩
abbrev cX9_share : ByteArray := prog_11_method_67_code
def yX9_share : MethodName := ⟨RX9, "share", "(I)D"⟩
abbrev cX9_hottestNow : ByteArray := prog_11_method_68_code
def yX9_hottestNow : MethodName := ⟨RX9, "hottestNow", "()I"⟩
abbrev cX9_hottest : ByteArray := prog_11_method_69_code
def yX9_hottest : MethodName := ⟨RX9, "hottest", "()I"⟩
abbrev cX9_frequency : ByteArray := prog_11_method_70_code
def yX9_frequency : MethodName := ⟨RX9, "frequency", "(I)I"⟩
abbrev cX9_edgeFrequency : ByteArray := prog_11_method_71_code
def yX9_edgeFrequency : MethodName := ⟨RX9, "edgeFrequency", "(I)I"⟩
abbrev cX9_mix : ByteArray := prog_11_method_72_code
def yX9_mix : MethodName := ⟨RX9, "mix", "(J)V"⟩
abbrev cX9_mixAnalysis : ByteArray := prog_11_method_73_code
def yX9_mixAnalysis : MethodName := ⟨RX9, "mixAnalysis", "()V"⟩
abbrev cX9_digest : ByteArray := prog_11_method_74_code
def yX9_digest : MethodName := ⟨RX9, "digest", "()J"⟩
def RL : String := "PathProfilerLaw"
abbrev cL_setNodes : ByteArray := method_3_code
def yL_setNodes : MethodName := ⟨RL, "setNodes", "(LPathProfiler;I)I"⟩
abbrev cL_addEdge : ByteArray := method_4_code
def yL_addEdge : MethodName := ⟨RL, "addEdge", "(LPathProfiler;II[J)I"⟩
abbrev cL_setWeight : ByteArray := method_5_code
def yL_setWeight : MethodName := ⟨RL, "setWeight", "(LPathProfiler;II[J)I"⟩
abbrev cL_append : ByteArray := method_6_code
def yL_append : MethodName := ⟨RL, "append", "(LPathProfiler;I[J)I"⟩
abbrev cL_load : ByteArray := method_7_code
def yL_load : MethodName := ⟨RL, "load", "(LPathProfiler;[J)I"⟩
abbrev cL_pathsFrom : ByteArray := method_8_code
def yL_pathsFrom : MethodName := ⟨RL, "pathsFrom", "(LPathProfiler;I[J)I"⟩
abbrev cL_isBack : ByteArray := method_9_code
def yL_isBack : MethodName := ⟨RL, "isBack", "(LPathProfiler;I[J)I"⟩
abbrev cL_value : ByteArray := method_10_code
def yL_value : MethodName := ⟨RL, "value", "(LPathProfiler;IZ[J)I"⟩
abbrev cL_increment : ByteArray := method_11_code
def yL_increment : MethodName := ⟨RL, "increment", "(LPathProfiler;IZ[J)I"⟩
abbrev cL_chords : ByteArray := method_12_code
def yL_chords : MethodName := ⟨RL, "chords", "(LPathProfiler;Z[J)I"⟩
abbrev cL_pathLength : ByteArray := method_13_code
def yL_pathLength : MethodName := ⟨RL, "pathLength", "(LPathProfiler;I[J)I"⟩
abbrev cL_pathNode : ByteArray := method_14_code
def yL_pathNode : MethodName := ⟨RL, "pathNode", "(LPathProfiler;II[J)I"⟩
abbrev cL_pathEdge : ByteArray := method_15_code
def yL_pathEdge : MethodName := ⟨RL, "pathEdge", "(LPathProfiler;IZ[J)I"⟩
abbrev cL_findPath : ByteArray := method_16_code
def yL_findPath : MethodName := ⟨RL, "findPath", "(LPathProfiler;[J)I"⟩
abbrev cL_start : ByteArray := method_17_code
def yL_start : MethodName := ⟨RL, "start", "(LPathProfiler;)I"⟩
abbrev cL_step : ByteArray := method_18_code
def yL_step : MethodName := ⟨RL, "step", "(LPathProfiler;I[J)I"⟩
abbrev cL_count : ByteArray := method_19_code
def yL_count : MethodName := ⟨RL, "count", "(LPathProfiler;I[J)I"⟩
abbrev cL_share : ByteArray := method_20_code
def yL_share : MethodName := ⟨RL, "share", "(LPathProfiler;I[D)I"⟩
abbrev cL_edgeFrequency : ByteArray := method_21_code
def yL_edgeFrequency : MethodName := ⟨RL, "edgeFrequency", "(LPathProfiler;I[J)I"⟩
abbrev cL_law : ByteArray := code
def yL_law : MethodName := ⟨RL, "law", "([I)Z"⟩
abbrev vwCl : List vw_C := [(RX0, TX0, 5), (RX1, TX1, 6), (RX2, TX2, 4), (RX3, TX3, 2), (RX4, TX4, 10), (RX5, TX5, 2), (RX6, TX6, 9), (RX7, TX7, 4), (RX8, TX8, 9), (RX9, TX9, 37)]
end
section
theorem dX0_init_0 : decode cX0_init 0 = .ok (.aload_n 0, 1) := by decide +kernel
theorem dX0_init_1 : decode cX0_init 1 = .ok (.invokespecial 3, 3) := by decide +kernel
theorem dX0_init_4 : decode cX0_init 4 = .ok (.aload_n 0, 1) := by decide +kernel
theorem dX0_init_5 : decode cX0_init 5 = .ok (.iconst 2, 1) := by decide +kernel
theorem dX0_init_6 : decode cX0_init 6 = .ok (.putfield 9, 3) := by decide +kernel
theorem dX0_init_9 : decode cX0_init 9 = .ok (.aload_n 0, 1) := by decide +kernel
theorem dX0_init_10 : decode cX0_init 10 = .ok (.iconst 0, 1) := by decide +kernel
theorem dX0_init_11 : decode cX0_init 11 = .ok (.putfield 15, 3) := by decide +kernel
theorem dX0_init_14 : decode cX0_init 14 = .ok (.aload_n 0, 1) := by decide +kernel
theorem dX0_init_15 : decode cX0_init 15 = .ok (.bipush 24, 2) := by decide +kernel
theorem dX0_init_17 : decode cX0_init 17 = .ok (.newarray .int, 2) := by decide +kernel
theorem dX0_init_19 : decode cX0_init 19 = .ok (.putfield 18, 3) := by decide +kernel
theorem dX0_init_22 : decode cX0_init 22 = .ok (.aload_n 0, 1) := by decide +kernel
theorem dX0_init_23 : decode cX0_init 23 = .ok (.bipush 24, 2) := by decide +kernel
theorem dX0_init_25 : decode cX0_init 25 = .ok (.newarray .int, 2) := by decide +kernel
theorem dX0_init_27 : decode cX0_init 27 = .ok (.putfield 22, 3) := by decide +kernel
theorem dX0_init_30 : decode cX0_init 30 = .ok (.aload_n 0, 1) := by decide +kernel
theorem dX0_init_31 : decode cX0_init 31 = .ok (.bipush 24, 2) := by decide +kernel
theorem dX0_init_33 : decode cX0_init 33 = .ok (.newarray .int, 2) := by decide +kernel
theorem dX0_init_35 : decode cX0_init 35 = .ok (.putfield 25, 3) := by decide +kernel
theorem dX0_init_38 : decode cX0_init 38 = .ok (.return_, 1) := by decide +kernel
theorem dX0_reset_0 : decode cX0_reset 0 = .ok (.aload_n 0, 1) := by decide +kernel
theorem dX0_reset_1 : decode cX0_reset 1 = .ok (.iload_n 1, 1) := by decide +kernel
theorem dX0_reset_2 : decode cX0_reset 2 = .ok (.putfield 9, 3) := by decide +kernel
theorem dX0_reset_5 : decode cX0_reset 5 = .ok (.aload_n 0, 1) := by decide +kernel
theorem dX0_reset_6 : decode cX0_reset 6 = .ok (.iconst 0, 1) := by decide +kernel
theorem dX0_reset_7 : decode cX0_reset 7 = .ok (.putfield 15, 3) := by decide +kernel
theorem dX0_reset_10 : decode cX0_reset 10 = .ok (.return_, 1) := by decide +kernel
theorem dX0_exit_0 : decode cX0_exit 0 = .ok (.aload_n 0, 1) := by decide +kernel
theorem dX0_exit_1 : decode cX0_exit 1 = .ok (.getfield 9, 3) := by decide +kernel
theorem dX0_exit_4 : decode cX0_exit 4 = .ok (.iconst 1, 1) := by decide +kernel
theorem dX0_exit_5 : decode cX0_exit 5 = .ok (.isub, 1) := by decide +kernel
theorem dX0_exit_6 : decode cX0_exit 6 = .ok (.ireturn, 1) := by decide +kernel
theorem dX0_hasNode_0 : decode cX0_hasNode 0 = .ok (.iload_n 1, 1) := by decide +kernel
theorem dX0_hasNode_1 : decode cX0_hasNode 1 = .ok (.ifCond .lt 15, 3) := by decide +kernel
theorem dX0_hasNode_4 : decode cX0_hasNode 4 = .ok (.iload_n 1, 1) := by decide +kernel
theorem dX0_hasNode_5 : decode cX0_hasNode 5 = .ok (.aload_n 0, 1) := by decide +kernel
theorem dX0_hasNode_6 : decode cX0_hasNode 6 = .ok (.getfield 9, 3) := by decide +kernel
theorem dX0_hasNode_9 : decode cX0_hasNode 9 = .ok (.if_icmp .ge 7, 3) := by decide +kernel
theorem dX0_hasNode_12 : decode cX0_hasNode 12 = .ok (.iconst 1, 1) := by decide +kernel
theorem dX0_hasNode_13 : decode cX0_hasNode 13 = .ok (.goto 4, 3) := by decide +kernel
theorem dX0_hasNode_16 : decode cX0_hasNode 16 = .ok (.iconst 0, 1) := by decide +kernel
theorem dX0_hasNode_17 : decode cX0_hasNode 17 = .ok (.ireturn, 1) := by decide +kernel
theorem dX0_hasEdge_0 : decode cX0_hasEdge 0 = .ok (.iload_n 1, 1) := by decide +kernel
theorem dX0_hasEdge_1 : decode cX0_hasEdge 1 = .ok (.ifCond .lt 15, 3) := by decide +kernel
theorem dX0_hasEdge_4 : decode cX0_hasEdge 4 = .ok (.iload_n 1, 1) := by decide +kernel
theorem dX0_hasEdge_5 : decode cX0_hasEdge 5 = .ok (.aload_n 0, 1) := by decide +kernel
theorem dX0_hasEdge_6 : decode cX0_hasEdge 6 = .ok (.getfield 15, 3) := by decide +kernel
theorem dX0_hasEdge_9 : decode cX0_hasEdge 9 = .ok (.if_icmp .ge 7, 3) := by decide +kernel
theorem dX0_hasEdge_12 : decode cX0_hasEdge 12 = .ok (.iconst 1, 1) := by decide +kernel
theorem dX0_hasEdge_13 : decode cX0_hasEdge 13 = .ok (.goto 4, 3) := by decide +kernel
theorem dX0_hasEdge_16 : decode cX0_hasEdge 16 = .ok (.iconst 0, 1) := by decide +kernel
theorem dX0_hasEdge_17 : decode cX0_hasEdge 17 = .ok (.ireturn, 1) := by decide +kernel
theorem dX0_isFull_0 : decode cX0_isFull 0 = .ok (.aload_n 0, 1) := by decide +kernel
theorem dX0_isFull_1 : decode cX0_isFull 1 = .ok (.getfield 15, 3) := by decide +kernel
theorem dX0_isFull_4 : decode cX0_isFull 4 = .ok (.bipush 24, 2) := by decide +kernel
theorem dX0_isFull_6 : decode cX0_isFull 6 = .ok (.if_icmp .lt 7, 3) := by decide +kernel
theorem dX0_isFull_9 : decode cX0_isFull 9 = .ok (.iconst 1, 1) := by decide +kernel
theorem dX0_isFull_10 : decode cX0_isFull 10 = .ok (.goto 4, 3) := by decide +kernel
theorem dX0_isFull_13 : decode cX0_isFull 13 = .ok (.iconst 0, 1) := by decide +kernel
theorem dX0_isFull_14 : decode cX0_isFull 14 = .ok (.ireturn, 1) := by decide +kernel
theorem dX0_allows_0 : decode cX0_allows 0 = .ok (.aload_n 0, 1) := by decide +kernel
theorem dX0_allows_1 : decode cX0_allows 1 = .ok (.iload_n 1, 1) := by decide +kernel
theorem dX0_allows_2 : decode cX0_allows 2 = .ok (.invokevirtual 28, 3) := by decide +kernel
theorem dX0_allows_5 : decode cX0_allows 5 = .ok (.ifCond .eq 36, 3) := by decide +kernel
theorem dX0_allows_8 : decode cX0_allows 8 = .ok (.aload_n 0, 1) := by decide +kernel
theorem dX0_allows_9 : decode cX0_allows 9 = .ok (.iload_n 2, 1) := by decide +kernel
theorem dX0_allows_10 : decode cX0_allows 10 = .ok (.invokevirtual 28, 3) := by decide +kernel
theorem dX0_allows_13 : decode cX0_allows 13 = .ok (.ifCond .eq 28, 3) := by decide +kernel
theorem dX0_allows_16 : decode cX0_allows 16 = .ok (.iload_n 1, 1) := by decide +kernel
theorem dX0_allows_17 : decode cX0_allows 17 = .ok (.aload_n 0, 1) := by decide +kernel
theorem dX0_allows_18 : decode cX0_allows 18 = .ok (.invokevirtual 32, 3) := by decide +kernel
theorem dX0_allows_21 : decode cX0_allows 21 = .ok (.if_icmp .eq 20, 3) := by decide +kernel
theorem dX0_allows_24 : decode cX0_allows 24 = .ok (.iload_n 2, 1) := by decide +kernel
theorem dX0_allows_25 : decode cX0_allows 25 = .ok (.ifCond .eq 16, 3) := by decide +kernel
theorem dX0_allows_28 : decode cX0_allows 28 = .ok (.aload_n 0, 1) := by decide +kernel
theorem dX0_allows_29 : decode cX0_allows 29 = .ok (.iload_n 1, 1) := by decide +kernel
theorem dX0_allows_30 : decode cX0_allows 30 = .ok (.iload_n 2, 1) := by decide +kernel
theorem dX0_allows_31 : decode cX0_allows 31 = .ok (.invokevirtual 36, 3) := by decide +kernel
theorem dX0_allows_34 : decode cX0_allows 34 = .ok (.ifCond .ne 7, 3) := by decide +kernel
theorem dX0_allows_37 : decode cX0_allows 37 = .ok (.iconst 1, 1) := by decide +kernel
theorem dX0_allows_38 : decode cX0_allows 38 = .ok (.goto 4, 3) := by decide +kernel
theorem dX0_allows_41 : decode cX0_allows 41 = .ok (.iconst 0, 1) := by decide +kernel
theorem dX0_allows_42 : decode cX0_allows 42 = .ok (.ireturn, 1) := by decide +kernel
theorem dX0_joins_0 : decode cX0_joins 0 = .ok (.iconst 0, 1) := by decide +kernel
theorem dX0_joins_1 : decode cX0_joins 1 = .ok (.istore_n 3, 1) := by decide +kernel
theorem dX0_joins_2 : decode cX0_joins 2 = .ok (.iload_n 3, 1) := by decide +kernel
theorem dX0_joins_3 : decode cX0_joins 3 = .ok (.aload_n 0, 1) := by decide +kernel
theorem dX0_joins_4 : decode cX0_joins 4 = .ok (.getfield 15, 3) := by decide +kernel
theorem dX0_joins_7 : decode cX0_joins 7 = .ok (.if_icmp .ge 31, 3) := by decide +kernel
theorem dX0_joins_10 : decode cX0_joins 10 = .ok (.aload_n 0, 1) := by decide +kernel
theorem dX0_joins_11 : decode cX0_joins 11 = .ok (.getfield 18, 3) := by decide +kernel
theorem dX0_joins_14 : decode cX0_joins 14 = .ok (.iload_n 3, 1) := by decide +kernel
theorem dX0_joins_15 : decode cX0_joins 15 = .ok (.iaload, 1) := by decide +kernel
theorem dX0_joins_16 : decode cX0_joins 16 = .ok (.iload_n 1, 1) := by decide +kernel
theorem dX0_joins_17 : decode cX0_joins 17 = .ok (.if_icmp .ne 15, 3) := by decide +kernel
theorem dX0_joins_20 : decode cX0_joins 20 = .ok (.aload_n 0, 1) := by decide +kernel
theorem dX0_joins_21 : decode cX0_joins 21 = .ok (.getfield 22, 3) := by decide +kernel
theorem dX0_joins_24 : decode cX0_joins 24 = .ok (.iload_n 3, 1) := by decide +kernel
theorem dX0_joins_25 : decode cX0_joins 25 = .ok (.iaload, 1) := by decide +kernel
theorem dX0_joins_26 : decode cX0_joins 26 = .ok (.iload_n 2, 1) := by decide +kernel
theorem dX0_joins_27 : decode cX0_joins 27 = .ok (.if_icmp .ne 5, 3) := by decide +kernel
theorem dX0_joins_30 : decode cX0_joins 30 = .ok (.iconst 1, 1) := by decide +kernel
theorem dX0_joins_31 : decode cX0_joins 31 = .ok (.ireturn, 1) := by decide +kernel
theorem dX0_joins_32 : decode cX0_joins 32 = .ok (.iinc 3 1, 3) := by decide +kernel
theorem dX0_joins_35 : decode cX0_joins 35 = .ok (.goto (-33), 3) := by decide +kernel
theorem dX0_joins_38 : decode cX0_joins 38 = .ok (.iconst 0, 1) := by decide +kernel
theorem dX0_joins_39 : decode cX0_joins 39 = .ok (.ireturn, 1) := by decide +kernel
theorem dX0_add_0 : decode cX0_add 0 = .ok (.aload_n 0, 1) := by decide +kernel
theorem dX0_add_1 : decode cX0_add 1 = .ok (.getfield 15, 3) := by decide +kernel
theorem dX0_add_4 : decode cX0_add 4 = .ok (.istore_n 3, 1) := by decide +kernel
theorem dX0_add_5 : decode cX0_add 5 = .ok (.aload_n 0, 1) := by decide +kernel
theorem dX0_add_6 : decode cX0_add 6 = .ok (.getfield 18, 3) := by decide +kernel
theorem dX0_add_9 : decode cX0_add 9 = .ok (.iload_n 3, 1) := by decide +kernel
theorem dX0_add_10 : decode cX0_add 10 = .ok (.iload_n 1, 1) := by decide +kernel
theorem dX0_add_11 : decode cX0_add 11 = .ok (.iastore, 1) := by decide +kernel
theorem dX0_add_12 : decode cX0_add 12 = .ok (.aload_n 0, 1) := by decide +kernel
theorem dX0_add_13 : decode cX0_add 13 = .ok (.getfield 22, 3) := by decide +kernel
theorem dX0_add_16 : decode cX0_add 16 = .ok (.iload_n 3, 1) := by decide +kernel
theorem dX0_add_17 : decode cX0_add 17 = .ok (.iload_n 2, 1) := by decide +kernel
theorem dX0_add_18 : decode cX0_add 18 = .ok (.iastore, 1) := by decide +kernel
theorem dX0_add_19 : decode cX0_add 19 = .ok (.aload_n 0, 1) := by decide +kernel
theorem dX0_add_20 : decode cX0_add 20 = .ok (.getfield 25, 3) := by decide +kernel
theorem dX0_add_23 : decode cX0_add 23 = .ok (.iload_n 3, 1) := by decide +kernel
theorem dX0_add_24 : decode cX0_add 24 = .ok (.iconst 1, 1) := by decide +kernel
theorem dX0_add_25 : decode cX0_add 25 = .ok (.iastore, 1) := by decide +kernel
theorem dX0_add_26 : decode cX0_add 26 = .ok (.aload_n 0, 1) := by decide +kernel
theorem dX0_add_27 : decode cX0_add 27 = .ok (.iload_n 3, 1) := by decide +kernel
theorem dX0_add_28 : decode cX0_add 28 = .ok (.iconst 1, 1) := by decide +kernel
theorem dX0_add_29 : decode cX0_add 29 = .ok (.iadd, 1) := by decide +kernel
theorem dX0_add_30 : decode cX0_add 30 = .ok (.putfield 15, 3) := by decide +kernel
theorem dX0_add_33 : decode cX0_add 33 = .ok (.iload_n 3, 1) := by decide +kernel
theorem dX0_add_34 : decode cX0_add 34 = .ok (.ireturn, 1) := by decide +kernel
theorem dX0_nextOf_0 : decode cX0_nextOf 0 = .ok (.iload_n 2, 1) := by decide +kernel
theorem dX0_nextOf_1 : decode cX0_nextOf 1 = .ok (.istore_n 3, 1) := by decide +kernel
theorem dX0_nextOf_2 : decode cX0_nextOf 2 = .ok (.iload_n 3, 1) := by decide +kernel
theorem dX0_nextOf_3 : decode cX0_nextOf 3 = .ok (.aload_n 0, 1) := by decide +kernel
theorem dX0_nextOf_4 : decode cX0_nextOf 4 = .ok (.getfield 15, 3) := by decide +kernel
theorem dX0_nextOf_7 : decode cX0_nextOf 7 = .ok (.if_icmp .ge 21, 3) := by decide +kernel
theorem dX0_nextOf_10 : decode cX0_nextOf 10 = .ok (.aload_n 0, 1) := by decide +kernel
theorem dX0_nextOf_11 : decode cX0_nextOf 11 = .ok (.getfield 18, 3) := by decide +kernel
theorem dX0_nextOf_14 : decode cX0_nextOf 14 = .ok (.iload_n 3, 1) := by decide +kernel
theorem dX0_nextOf_15 : decode cX0_nextOf 15 = .ok (.iaload, 1) := by decide +kernel
theorem dX0_nextOf_16 : decode cX0_nextOf 16 = .ok (.iload_n 1, 1) := by decide +kernel
theorem dX0_nextOf_17 : decode cX0_nextOf 17 = .ok (.if_icmp .ne 5, 3) := by decide +kernel
theorem dX0_nextOf_20 : decode cX0_nextOf 20 = .ok (.iload_n 3, 1) := by decide +kernel
theorem dX0_nextOf_21 : decode cX0_nextOf 21 = .ok (.ireturn, 1) := by decide +kernel
theorem dX0_nextOf_22 : decode cX0_nextOf 22 = .ok (.iinc 3 1, 3) := by decide +kernel
theorem dX0_nextOf_25 : decode cX0_nextOf 25 = .ok (.goto (-23), 3) := by decide +kernel
theorem dX0_nextOf_28 : decode cX0_nextOf 28 = .ok (.iconst (-1), 1) := by decide +kernel
theorem dX0_nextOf_29 : decode cX0_nextOf 29 = .ok (.ireturn, 1) := by decide +kernel
theorem dX0_edgeAt_0 : decode cX0_edgeAt 0 = .ok (.iconst 0, 1) := by decide +kernel
theorem dX0_edgeAt_1 : decode cX0_edgeAt 1 = .ok (.istore_n 3, 1) := by decide +kernel
theorem dX0_edgeAt_2 : decode cX0_edgeAt 2 = .ok (.iconst 0, 1) := by decide +kernel
theorem dX0_edgeAt_3 : decode cX0_edgeAt 3 = .ok (.istore 4, 2) := by decide +kernel
theorem dX0_edgeAt_5 : decode cX0_edgeAt 5 = .ok (.iload 4, 2) := by decide +kernel
theorem dX0_edgeAt_7 : decode cX0_edgeAt 7 = .ok (.aload_n 0, 1) := by decide +kernel
theorem dX0_edgeAt_8 : decode cX0_edgeAt 8 = .ok (.getfield 15, 3) := by decide +kernel
theorem dX0_edgeAt_11 : decode cX0_edgeAt 11 = .ok (.if_icmp .ge 31, 3) := by decide +kernel
theorem dX0_edgeAt_14 : decode cX0_edgeAt 14 = .ok (.aload_n 0, 1) := by decide +kernel
theorem dX0_edgeAt_15 : decode cX0_edgeAt 15 = .ok (.getfield 18, 3) := by decide +kernel
theorem dX0_edgeAt_18 : decode cX0_edgeAt 18 = .ok (.iload 4, 2) := by decide +kernel
theorem dX0_edgeAt_20 : decode cX0_edgeAt 20 = .ok (.iaload, 1) := by decide +kernel
theorem dX0_edgeAt_21 : decode cX0_edgeAt 21 = .ok (.iload_n 1, 1) := by decide +kernel
theorem dX0_edgeAt_22 : decode cX0_edgeAt 22 = .ok (.if_icmp .ne 14, 3) := by decide +kernel
theorem dX0_edgeAt_25 : decode cX0_edgeAt 25 = .ok (.iload_n 3, 1) := by decide +kernel
theorem dX0_edgeAt_26 : decode cX0_edgeAt 26 = .ok (.iload_n 2, 1) := by decide +kernel
theorem dX0_edgeAt_27 : decode cX0_edgeAt 27 = .ok (.if_icmp .ne 6, 3) := by decide +kernel
theorem dX0_edgeAt_30 : decode cX0_edgeAt 30 = .ok (.iload 4, 2) := by decide +kernel
theorem dX0_edgeAt_32 : decode cX0_edgeAt 32 = .ok (.ireturn, 1) := by decide +kernel
theorem dX0_edgeAt_33 : decode cX0_edgeAt 33 = .ok (.iinc 3 1, 3) := by decide +kernel
theorem dX0_edgeAt_36 : decode cX0_edgeAt 36 = .ok (.iinc 4 1, 3) := by decide +kernel
theorem dX0_edgeAt_39 : decode cX0_edgeAt 39 = .ok (.goto (-34), 3) := by decide +kernel
theorem dX0_edgeAt_42 : decode cX0_edgeAt 42 = .ok (.iconst (-1), 1) := by decide +kernel
theorem dX0_edgeAt_43 : decode cX0_edgeAt 43 = .ok (.ireturn, 1) := by decide +kernel
theorem dX0_become_0 : decode cX0_become 0 = .ok (.aload_n 0, 1) := by decide +kernel
theorem dX0_become_1 : decode cX0_become 1 = .ok (.aload_n 1, 1) := by decide +kernel
theorem dX0_become_2 : decode cX0_become 2 = .ok (.getfield 9, 3) := by decide +kernel
theorem dX0_become_5 : decode cX0_become 5 = .ok (.invokevirtual 40, 3) := by decide +kernel
theorem dX0_become_8 : decode cX0_become 8 = .ok (.iconst 0, 1) := by decide +kernel
theorem dX0_become_9 : decode cX0_become 9 = .ok (.istore_n 2, 1) := by decide +kernel
theorem dX0_become_10 : decode cX0_become 10 = .ok (.iload_n 2, 1) := by decide +kernel
theorem dX0_become_11 : decode cX0_become 11 = .ok (.aload_n 1, 1) := by decide +kernel
theorem dX0_become_12 : decode cX0_become 12 = .ok (.getfield 15, 3) := by decide +kernel
theorem dX0_become_15 : decode cX0_become 15 = .ok (.if_icmp .ge 26, 3) := by decide +kernel
theorem dX0_become_18 : decode cX0_become 18 = .ok (.aload_n 0, 1) := by decide +kernel
theorem dX0_become_19 : decode cX0_become 19 = .ok (.aload_n 1, 1) := by decide +kernel
theorem dX0_become_20 : decode cX0_become 20 = .ok (.getfield 18, 3) := by decide +kernel
theorem dX0_become_23 : decode cX0_become 23 = .ok (.iload_n 2, 1) := by decide +kernel
theorem dX0_become_24 : decode cX0_become 24 = .ok (.iaload, 1) := by decide +kernel
theorem dX0_become_25 : decode cX0_become 25 = .ok (.aload_n 1, 1) := by decide +kernel
theorem dX0_become_26 : decode cX0_become 26 = .ok (.getfield 22, 3) := by decide +kernel
theorem dX0_become_29 : decode cX0_become 29 = .ok (.iload_n 2, 1) := by decide +kernel
theorem dX0_become_30 : decode cX0_become 30 = .ok (.iaload, 1) := by decide +kernel
theorem dX0_become_31 : decode cX0_become 31 = .ok (.invokevirtual 44, 3) := by decide +kernel
theorem dX0_become_34 : decode cX0_become 34 = .ok (.pop, 1) := by decide +kernel
theorem dX0_become_35 : decode cX0_become 35 = .ok (.iinc 2 1, 3) := by decide +kernel
theorem dX0_become_38 : decode cX0_become 38 = .ok (.goto (-28), 3) := by decide +kernel
theorem dX0_become_41 : decode cX0_become 41 = .ok (.return_, 1) := by decide +kernel
theorem dX1_init_0 : decode cX1_init 0 = .ok (.aload_n 0, 1) := by decide +kernel
theorem dX1_init_1 : decode cX1_init 1 = .ok (.invokespecial 3, 3) := by decide +kernel
theorem dX1_init_4 : decode cX1_init 4 = .ok (.aload_n 0, 1) := by decide +kernel
theorem dX1_init_5 : decode cX1_init 5 = .ok (.bipush 72, 2) := by decide +kernel
theorem dX1_init_7 : decode cX1_init 7 = .ok (.newarray .int, 2) := by decide +kernel
theorem dX1_init_9 : decode cX1_init 9 = .ok (.putfield 9, 3) := by decide +kernel
theorem dX1_init_12 : decode cX1_init 12 = .ok (.aload_n 0, 1) := by decide +kernel
theorem dX1_init_13 : decode cX1_init 13 = .ok (.bipush 72, 2) := by decide +kernel
theorem dX1_init_15 : decode cX1_init 15 = .ok (.newarray .int, 2) := by decide +kernel
theorem dX1_init_17 : decode cX1_init 17 = .ok (.putfield 15, 3) := by decide +kernel
theorem dX1_init_20 : decode cX1_init 20 = .ok (.aload_n 0, 1) := by decide +kernel
theorem dX1_init_21 : decode cX1_init 21 = .ok (.bipush 72, 2) := by decide +kernel
theorem dX1_init_23 : decode cX1_init 23 = .ok (.newarray .int, 2) := by decide +kernel
theorem dX1_init_25 : decode cX1_init 25 = .ok (.putfield 18, 3) := by decide +kernel
theorem dX1_init_28 : decode cX1_init 28 = .ok (.aload_n 0, 1) := by decide +kernel
theorem dX1_init_29 : decode cX1_init 29 = .ok (.bipush 12, 2) := by decide +kernel
theorem dX1_init_31 : decode cX1_init 31 = .ok (.newarray .int, 2) := by decide +kernel
theorem dX1_init_33 : decode cX1_init 33 = .ok (.putfield 21, 3) := by decide +kernel
theorem dX1_init_36 : decode cX1_init 36 = .ok (.aload_n 0, 1) := by decide +kernel
theorem dX1_init_37 : decode cX1_init 37 = .ok (.aload_n 1, 1) := by decide +kernel
theorem dX1_init_38 : decode cX1_init 38 = .ok (.putfield 24, 3) := by decide +kernel
theorem dX1_init_41 : decode cX1_init 41 = .ok (.aload_n 0, 1) := by decide +kernel
theorem dX1_init_42 : decode cX1_init 42 = .ok (.aload_n 2, 1) := by decide +kernel
theorem dX1_init_43 : decode cX1_init 43 = .ok (.putfield 28, 3) := by decide +kernel
theorem dX1_init_46 : decode cX1_init 46 = .ok (.return_, 1) := by decide +kernel
theorem dX1_build_0 : decode cX1_build 0 = .ok (.iconst 0, 1) := by decide +kernel
theorem dX1_build_1 : decode cX1_build 1 = .ok (.istore_n 1, 1) := by decide +kernel
theorem dX1_build_2 : decode cX1_build 2 = .ok (.iload_n 1, 1) := by decide +kernel
theorem dX1_build_3 : decode cX1_build 3 = .ok (.bipush 72, 2) := by decide +kernel
theorem dX1_build_5 : decode cX1_build 5 = .ok (.if_icmp .ge 16, 3) := by decide +kernel
theorem dX1_build_8 : decode cX1_build 8 = .ok (.aload_n 0, 1) := by decide +kernel
theorem dX1_build_9 : decode cX1_build 9 = .ok (.iload_n 1, 1) := by decide +kernel
theorem dX1_build_10 : decode cX1_build 10 = .ok (.iconst (-1), 1) := by decide +kernel
theorem dX1_build_11 : decode cX1_build 11 = .ok (.iconst (-1), 1) := by decide +kernel
theorem dX1_build_12 : decode cX1_build 12 = .ok (.invokevirtual 32, 3) := by decide +kernel
theorem dX1_build_15 : decode cX1_build 15 = .ok (.iinc 1 1, 3) := by decide +kernel
theorem dX1_build_18 : decode cX1_build 18 = .ok (.goto (-16), 3) := by decide +kernel
theorem dX1_build_21 : decode cX1_build 21 = .ok (.iconst 0, 1) := by decide +kernel
theorem dX1_build_22 : decode cX1_build 22 = .ok (.istore_n 1, 1) := by decide +kernel
theorem dX1_build_23 : decode cX1_build 23 = .ok (.iload_n 1, 1) := by decide +kernel
theorem dX1_build_24 : decode cX1_build 24 = .ok (.aload_n 0, 1) := by decide +kernel
theorem dX1_build_25 : decode cX1_build 25 = .ok (.getfield 24, 3) := by decide +kernel
theorem dX1_build_28 : decode cX1_build 28 = .ok (.getfield 36, 3) := by decide +kernel
theorem dX1_build_31 : decode cX1_build 31 = .ok (.if_icmp .ge 91, 3) := by decide +kernel
theorem dX1_build_34 : decode cX1_build 34 = .ok (.aload_n 0, 1) := by decide +kernel
theorem dX1_build_35 : decode cX1_build 35 = .ok (.getfield 28, 3) := by decide +kernel
theorem dX1_build_38 : decode cX1_build 38 = .ok (.getfield 42, 3) := by decide +kernel
theorem dX1_build_41 : decode cX1_build 41 = .ok (.iload_n 1, 1) := by decide +kernel
theorem dX1_build_42 : decode cX1_build 42 = .ok (.baload, 1) := by decide +kernel
theorem dX1_build_43 : decode cX1_build 43 = .ok (.ifCond .eq 48, 3) := by decide +kernel
theorem dX1_build_46 : decode cX1_build 46 = .ok (.aload_n 0, 1) := by decide +kernel
theorem dX1_build_47 : decode cX1_build 47 = .ok (.bipush 24, 2) := by decide +kernel
theorem dX1_build_49 : decode cX1_build 49 = .ok (.iload_n 1, 1) := by decide +kernel
theorem dX1_build_50 : decode cX1_build 50 = .ok (.iadd, 1) := by decide +kernel
theorem dX1_build_51 : decode cX1_build 51 = .ok (.aload_n 0, 1) := by decide +kernel
theorem dX1_build_52 : decode cX1_build 52 = .ok (.getfield 24, 3) := by decide +kernel
theorem dX1_build_55 : decode cX1_build 55 = .ok (.getfield 48, 3) := by decide +kernel
theorem dX1_build_58 : decode cX1_build 58 = .ok (.iload_n 1, 1) := by decide +kernel
theorem dX1_build_59 : decode cX1_build 59 = .ok (.iaload, 1) := by decide +kernel
theorem dX1_build_60 : decode cX1_build 60 = .ok (.aload_n 0, 1) := by decide +kernel
theorem dX1_build_61 : decode cX1_build 61 = .ok (.getfield 24, 3) := by decide +kernel
theorem dX1_build_64 : decode cX1_build 64 = .ok (.invokevirtual 49, 3) := by decide +kernel
theorem dX1_build_67 : decode cX1_build 67 = .ok (.invokevirtual 32, 3) := by decide +kernel
theorem dX1_build_70 : decode cX1_build 70 = .ok (.aload_n 0, 1) := by decide +kernel
theorem dX1_build_71 : decode cX1_build 71 = .ok (.bipush 48, 2) := by decide +kernel
theorem dX1_build_73 : decode cX1_build 73 = .ok (.iload_n 1, 1) := by decide +kernel
theorem dX1_build_74 : decode cX1_build 74 = .ok (.iadd, 1) := by decide +kernel
theorem dX1_build_75 : decode cX1_build 75 = .ok (.iconst 0, 1) := by decide +kernel
theorem dX1_build_76 : decode cX1_build 76 = .ok (.aload_n 0, 1) := by decide +kernel
theorem dX1_build_77 : decode cX1_build 77 = .ok (.getfield 24, 3) := by decide +kernel
theorem dX1_build_80 : decode cX1_build 80 = .ok (.getfield 53, 3) := by decide +kernel
theorem dX1_build_83 : decode cX1_build 83 = .ok (.iload_n 1, 1) := by decide +kernel
theorem dX1_build_84 : decode cX1_build 84 = .ok (.iaload, 1) := by decide +kernel
theorem dX1_build_85 : decode cX1_build 85 = .ok (.invokevirtual 32, 3) := by decide +kernel
theorem dX1_build_88 : decode cX1_build 88 = .ok (.goto 28, 3) := by decide +kernel
theorem dX1_build_91 : decode cX1_build 91 = .ok (.aload_n 0, 1) := by decide +kernel
theorem dX1_build_92 : decode cX1_build 92 = .ok (.iconst 0, 1) := by decide +kernel
theorem dX1_build_93 : decode cX1_build 93 = .ok (.iload_n 1, 1) := by decide +kernel
theorem dX1_build_94 : decode cX1_build 94 = .ok (.iadd, 1) := by decide +kernel
theorem dX1_build_95 : decode cX1_build 95 = .ok (.aload_n 0, 1) := by decide +kernel
theorem dX1_build_96 : decode cX1_build 96 = .ok (.getfield 24, 3) := by decide +kernel
theorem dX1_build_99 : decode cX1_build 99 = .ok (.getfield 48, 3) := by decide +kernel
theorem dX1_build_102 : decode cX1_build 102 = .ok (.iload_n 1, 1) := by decide +kernel
theorem dX1_build_103 : decode cX1_build 103 = .ok (.iaload, 1) := by decide +kernel
theorem dX1_build_104 : decode cX1_build 104 = .ok (.aload_n 0, 1) := by decide +kernel
theorem dX1_build_105 : decode cX1_build 105 = .ok (.getfield 24, 3) := by decide +kernel
theorem dX1_build_108 : decode cX1_build 108 = .ok (.getfield 53, 3) := by decide +kernel
theorem dX1_build_111 : decode cX1_build 111 = .ok (.iload_n 1, 1) := by decide +kernel
theorem dX1_build_112 : decode cX1_build 112 = .ok (.iaload, 1) := by decide +kernel
theorem dX1_build_113 : decode cX1_build 113 = .ok (.invokevirtual 32, 3) := by decide +kernel
theorem dX1_build_116 : decode cX1_build 116 = .ok (.iinc 1 1, 3) := by decide +kernel
theorem dX1_build_119 : decode cX1_build 119 = .ok (.goto (-96), 3) := by decide +kernel
theorem dX1_build_122 : decode cX1_build 122 = .ok (.aload_n 0, 1) := by decide +kernel
theorem dX1_build_123 : decode cX1_build 123 = .ok (.invokevirtual 54, 3) := by decide +kernel
theorem dX1_build_126 : decode cX1_build 126 = .ok (.return_, 1) := by decide +kernel
theorem dX1_put_0 : decode cX1_put 0 = .ok (.aload_n 0, 1) := by decide +kernel
theorem dX1_put_1 : decode cX1_put 1 = .ok (.getfield 9, 3) := by decide +kernel
theorem dX1_put_4 : decode cX1_put 4 = .ok (.iload_n 1, 1) := by decide +kernel
theorem dX1_put_5 : decode cX1_put 5 = .ok (.iload_n 2, 1) := by decide +kernel
theorem dX1_put_6 : decode cX1_put 6 = .ok (.iastore, 1) := by decide +kernel
theorem dX1_put_7 : decode cX1_put 7 = .ok (.aload_n 0, 1) := by decide +kernel
theorem dX1_put_8 : decode cX1_put 8 = .ok (.getfield 15, 3) := by decide +kernel
theorem dX1_put_11 : decode cX1_put 11 = .ok (.iload_n 1, 1) := by decide +kernel
theorem dX1_put_12 : decode cX1_put 12 = .ok (.iload_n 3, 1) := by decide +kernel
theorem dX1_put_13 : decode cX1_put 13 = .ok (.iastore, 1) := by decide +kernel
theorem dX1_put_14 : decode cX1_put 14 = .ok (.aload_n 0, 1) := by decide +kernel
theorem dX1_put_15 : decode cX1_put 15 = .ok (.getfield 18, 3) := by decide +kernel
theorem dX1_put_18 : decode cX1_put 18 = .ok (.iload_n 1, 1) := by decide +kernel
theorem dX1_put_19 : decode cX1_put 19 = .ok (.iconst 0, 1) := by decide +kernel
theorem dX1_put_20 : decode cX1_put 20 = .ok (.iastore, 1) := by decide +kernel
theorem dX1_put_21 : decode cX1_put 21 = .ok (.return_, 1) := by decide +kernel
theorem dX1_countPaths_0 : decode cX1_countPaths 0 = .ok (.aload_n 0, 1) := by decide +kernel
theorem dX1_countPaths_1 : decode cX1_countPaths 1 = .ok (.getfield 21, 3) := by decide +kernel
theorem dX1_countPaths_4 : decode cX1_countPaths 4 = .ok (.aload_n 0, 1) := by decide +kernel
theorem dX1_countPaths_5 : decode cX1_countPaths 5 = .ok (.getfield 24, 3) := by decide +kernel
theorem dX1_countPaths_8 : decode cX1_countPaths 8 = .ok (.invokevirtual 49, 3) := by decide +kernel
theorem dX1_countPaths_11 : decode cX1_countPaths 11 = .ok (.iconst 1, 1) := by decide +kernel
theorem dX1_countPaths_12 : decode cX1_countPaths 12 = .ok (.iastore, 1) := by decide +kernel
theorem dX1_countPaths_13 : decode cX1_countPaths 13 = .ok (.iconst 0, 1) := by decide +kernel
theorem dX1_countPaths_14 : decode cX1_countPaths 14 = .ok (.istore_n 1, 1) := by decide +kernel
theorem dX1_countPaths_15 : decode cX1_countPaths 15 = .ok (.iload_n 1, 1) := by decide +kernel
theorem dX1_countPaths_16 : decode cX1_countPaths 16 = .ok (.aload_n 0, 1) := by decide +kernel
theorem dX1_countPaths_17 : decode cX1_countPaths 17 = .ok (.getfield 28, 3) := by decide +kernel
theorem dX1_countPaths_20 : decode cX1_countPaths 20 = .ok (.getfield 57, 3) := by decide +kernel
theorem dX1_countPaths_23 : decode cX1_countPaths 23 = .ok (.if_icmp .ge 41, 3) := by decide +kernel
theorem dX1_countPaths_26 : decode cX1_countPaths 26 = .ok (.aload_n 0, 1) := by decide +kernel
theorem dX1_countPaths_27 : decode cX1_countPaths 27 = .ok (.getfield 28, 3) := by decide +kernel
theorem dX1_countPaths_30 : decode cX1_countPaths 30 = .ok (.getfield 60, 3) := by decide +kernel
theorem dX1_countPaths_33 : decode cX1_countPaths 33 = .ok (.iload_n 1, 1) := by decide +kernel
theorem dX1_countPaths_34 : decode cX1_countPaths 34 = .ok (.iaload, 1) := by decide +kernel
theorem dX1_countPaths_35 : decode cX1_countPaths 35 = .ok (.aload_n 0, 1) := by decide +kernel
theorem dX1_countPaths_36 : decode cX1_countPaths 36 = .ok (.getfield 24, 3) := by decide +kernel
theorem dX1_countPaths_39 : decode cX1_countPaths 39 = .ok (.invokevirtual 49, 3) := by decide +kernel
theorem dX1_countPaths_42 : decode cX1_countPaths 42 = .ok (.if_icmp .eq 16, 3) := by decide +kernel
theorem dX1_countPaths_45 : decode cX1_countPaths 45 = .ok (.aload_n 0, 1) := by decide +kernel
theorem dX1_countPaths_46 : decode cX1_countPaths 46 = .ok (.aload_n 0, 1) := by decide +kernel
theorem dX1_countPaths_47 : decode cX1_countPaths 47 = .ok (.getfield 28, 3) := by decide +kernel
theorem dX1_countPaths_50 : decode cX1_countPaths 50 = .ok (.getfield 60, 3) := by decide +kernel
theorem dX1_countPaths_53 : decode cX1_countPaths 53 = .ok (.iload_n 1, 1) := by decide +kernel
theorem dX1_countPaths_54 : decode cX1_countPaths 54 = .ok (.iaload, 1) := by decide +kernel
theorem dX1_countPaths_55 : decode cX1_countPaths 55 = .ok (.invokevirtual 63, 3) := by decide +kernel
theorem dX1_countPaths_58 : decode cX1_countPaths 58 = .ok (.iinc 1 1, 3) := by decide +kernel
theorem dX1_countPaths_61 : decode cX1_countPaths 61 = .ok (.goto (-46), 3) := by decide +kernel
theorem dX1_countPaths_64 : decode cX1_countPaths 64 = .ok (.return_, 1) := by decide +kernel
theorem dX1_countPathsOf_0 : decode cX1_countPathsOf 0 = .ok (.iconst 0, 1) := by decide +kernel
theorem dX1_countPathsOf_1 : decode cX1_countPathsOf 1 = .ok (.istore_n 2, 1) := by decide +kernel
theorem dX1_countPathsOf_2 : decode cX1_countPathsOf 2 = .ok (.iconst 0, 1) := by decide +kernel
theorem dX1_countPathsOf_3 : decode cX1_countPathsOf 3 = .ok (.istore_n 3, 1) := by decide +kernel
theorem dX1_countPathsOf_4 : decode cX1_countPathsOf 4 = .ok (.iload_n 3, 1) := by decide +kernel
theorem dX1_countPathsOf_5 : decode cX1_countPathsOf 5 = .ok (.bipush 72, 2) := by decide +kernel
theorem dX1_countPathsOf_7 : decode cX1_countPathsOf 7 = .ok (.if_icmp .ge 40, 3) := by decide +kernel
theorem dX1_countPathsOf_10 : decode cX1_countPathsOf 10 = .ok (.aload_n 0, 1) := by decide +kernel
theorem dX1_countPathsOf_11 : decode cX1_countPathsOf 11 = .ok (.getfield 9, 3) := by decide +kernel
theorem dX1_countPathsOf_14 : decode cX1_countPathsOf 14 = .ok (.iload_n 3, 1) := by decide +kernel
theorem dX1_countPathsOf_15 : decode cX1_countPathsOf 15 = .ok (.iaload, 1) := by decide +kernel
theorem dX1_countPathsOf_16 : decode cX1_countPathsOf 16 = .ok (.iload_n 1, 1) := by decide +kernel
theorem dX1_countPathsOf_17 : decode cX1_countPathsOf 17 = .ok (.if_icmp .ne 24, 3) := by decide +kernel
theorem dX1_countPathsOf_20 : decode cX1_countPathsOf 20 = .ok (.aload_n 0, 1) := by decide +kernel
theorem dX1_countPathsOf_21 : decode cX1_countPathsOf 21 = .ok (.getfield 18, 3) := by decide +kernel
theorem dX1_countPathsOf_24 : decode cX1_countPathsOf 24 = .ok (.iload_n 3, 1) := by decide +kernel
theorem dX1_countPathsOf_25 : decode cX1_countPathsOf 25 = .ok (.iload_n 2, 1) := by decide +kernel
theorem dX1_countPathsOf_26 : decode cX1_countPathsOf 26 = .ok (.iastore, 1) := by decide +kernel
theorem dX1_countPathsOf_27 : decode cX1_countPathsOf 27 = .ok (.iload_n 2, 1) := by decide +kernel
theorem dX1_countPathsOf_28 : decode cX1_countPathsOf 28 = .ok (.aload_n 0, 1) := by decide +kernel
theorem dX1_countPathsOf_29 : decode cX1_countPathsOf 29 = .ok (.getfield 21, 3) := by decide +kernel
theorem dX1_countPathsOf_32 : decode cX1_countPathsOf 32 = .ok (.aload_n 0, 1) := by decide +kernel
theorem dX1_countPathsOf_33 : decode cX1_countPathsOf 33 = .ok (.getfield 15, 3) := by decide +kernel
theorem dX1_countPathsOf_36 : decode cX1_countPathsOf 36 = .ok (.iload_n 3, 1) := by decide +kernel
theorem dX1_countPathsOf_37 : decode cX1_countPathsOf 37 = .ok (.iaload, 1) := by decide +kernel
theorem dX1_countPathsOf_38 : decode cX1_countPathsOf 38 = .ok (.iaload, 1) := by decide +kernel
theorem dX1_countPathsOf_39 : decode cX1_countPathsOf 39 = .ok (.iadd, 1) := by decide +kernel
theorem dX1_countPathsOf_40 : decode cX1_countPathsOf 40 = .ok (.istore_n 2, 1) := by decide +kernel
theorem dX1_countPathsOf_41 : decode cX1_countPathsOf 41 = .ok (.iinc 3 1, 3) := by decide +kernel
theorem dX1_countPathsOf_44 : decode cX1_countPathsOf 44 = .ok (.goto (-40), 3) := by decide +kernel
theorem dX1_countPathsOf_47 : decode cX1_countPathsOf 47 = .ok (.aload_n 0, 1) := by decide +kernel
theorem dX1_countPathsOf_48 : decode cX1_countPathsOf 48 = .ok (.getfield 21, 3) := by decide +kernel
theorem dX1_countPathsOf_51 : decode cX1_countPathsOf 51 = .ok (.iload_n 1, 1) := by decide +kernel
theorem dX1_countPathsOf_52 : decode cX1_countPathsOf 52 = .ok (.iload_n 2, 1) := by decide +kernel
theorem dX1_countPathsOf_53 : decode cX1_countPathsOf 53 = .ok (.iastore, 1) := by decide +kernel
theorem dX1_countPathsOf_54 : decode cX1_countPathsOf 54 = .ok (.return_, 1) := by decide +kernel
theorem dX1_allPaths_0 : decode cX1_allPaths 0 = .ok (.aload_n 0, 1) := by decide +kernel
theorem dX1_allPaths_1 : decode cX1_allPaths 1 = .ok (.getfield 21, 3) := by decide +kernel
theorem dX1_allPaths_4 : decode cX1_allPaths 4 = .ok (.iconst 0, 1) := by decide +kernel
theorem dX1_allPaths_5 : decode cX1_allPaths 5 = .ok (.iaload, 1) := by decide +kernel
theorem dX1_allPaths_6 : decode cX1_allPaths 6 = .ok (.ireturn, 1) := by decide +kernel
theorem dX1_linkOf_0 : decode cX1_linkOf 0 = .ok (.aload_n 0, 1) := by decide +kernel
theorem dX1_linkOf_1 : decode cX1_linkOf 1 = .ok (.getfield 28, 3) := by decide +kernel
theorem dX1_linkOf_4 : decode cX1_linkOf 4 = .ok (.getfield 42, 3) := by decide +kernel
theorem dX1_linkOf_7 : decode cX1_linkOf 7 = .ok (.iload_n 1, 1) := by decide +kernel
theorem dX1_linkOf_8 : decode cX1_linkOf 8 = .ok (.baload, 1) := by decide +kernel
theorem dX1_linkOf_9 : decode cX1_linkOf 9 = .ok (.ifCond .ne 7, 3) := by decide +kernel
theorem dX1_linkOf_12 : decode cX1_linkOf 12 = .ok (.iconst 0, 1) := by decide +kernel
theorem dX1_linkOf_13 : decode cX1_linkOf 13 = .ok (.iload_n 1, 1) := by decide +kernel
theorem dX1_linkOf_14 : decode cX1_linkOf 14 = .ok (.iadd, 1) := by decide +kernel
theorem dX1_linkOf_15 : decode cX1_linkOf 15 = .ok (.ireturn, 1) := by decide +kernel
theorem dX1_linkOf_16 : decode cX1_linkOf 16 = .ok (.iload_n 2, 1) := by decide +kernel
theorem dX1_linkOf_17 : decode cX1_linkOf 17 = .ok (.ifCond .eq 10, 3) := by decide +kernel
theorem dX1_linkOf_20 : decode cX1_linkOf 20 = .ok (.bipush 24, 2) := by decide +kernel
theorem dX1_linkOf_22 : decode cX1_linkOf 22 = .ok (.iload_n 1, 1) := by decide +kernel
theorem dX1_linkOf_23 : decode cX1_linkOf 23 = .ok (.iadd, 1) := by decide +kernel
theorem dX1_linkOf_24 : decode cX1_linkOf 24 = .ok (.goto 7, 3) := by decide +kernel
theorem dX1_linkOf_27 : decode cX1_linkOf 27 = .ok (.bipush 48, 2) := by decide +kernel
theorem dX1_linkOf_29 : decode cX1_linkOf 29 = .ok (.iload_n 1, 1) := by decide +kernel
theorem dX1_linkOf_30 : decode cX1_linkOf 30 = .ok (.iadd, 1) := by decide +kernel
theorem dX1_linkOf_31 : decode cX1_linkOf 31 = .ok (.ireturn, 1) := by decide +kernel
theorem dX1_between_0 : decode cX1_between 0 = .ok (.aload_n 0, 1) := by decide +kernel
theorem dX1_between_1 : decode cX1_between 1 = .ok (.getfield 24, 3) := by decide +kernel
theorem dX1_between_4 : decode cX1_between 4 = .ok (.iload_n 2, 1) := by decide +kernel
theorem dX1_between_5 : decode cX1_between 5 = .ok (.invokevirtual 67, 3) := by decide +kernel
theorem dX1_between_8 : decode cX1_between 8 = .ok (.ifCond .ne 5, 3) := by decide +kernel
theorem dX1_between_11 : decode cX1_between 11 = .ok (.iconst (-1), 1) := by decide +kernel
theorem dX1_between_12 : decode cX1_between 12 = .ok (.ireturn, 1) := by decide +kernel
theorem dX1_between_13 : decode cX1_between 13 = .ok (.iload_n 1, 1) := by decide +kernel
theorem dX1_between_14 : decode cX1_between 14 = .ok (.istore 4, 2) := by decide +kernel
theorem dX1_between_16 : decode cX1_between 16 = .ok (.iload 4, 2) := by decide +kernel
theorem dX1_between_18 : decode cX1_between 18 = .ok (.iload_n 1, 1) := by decide +kernel
theorem dX1_between_19 : decode cX1_between 19 = .ok (.bipush 24, 2) := by decide +kernel
theorem dX1_between_21 : decode cX1_between 21 = .ok (.iadd, 1) := by decide +kernel
theorem dX1_between_22 : decode cX1_between 22 = .ok (.if_icmp .ge 34, 3) := by decide +kernel
theorem dX1_between_25 : decode cX1_between 25 = .ok (.aload_n 0, 1) := by decide +kernel
theorem dX1_between_26 : decode cX1_between 26 = .ok (.getfield 9, 3) := by decide +kernel
theorem dX1_between_29 : decode cX1_between 29 = .ok (.iload 4, 2) := by decide +kernel
theorem dX1_between_31 : decode cX1_between 31 = .ok (.iaload, 1) := by decide +kernel
theorem dX1_between_32 : decode cX1_between 32 = .ok (.iload_n 2, 1) := by decide +kernel
theorem dX1_between_33 : decode cX1_between 33 = .ok (.if_icmp .ne 17, 3) := by decide +kernel
theorem dX1_between_36 : decode cX1_between 36 = .ok (.aload_n 0, 1) := by decide +kernel
theorem dX1_between_37 : decode cX1_between 37 = .ok (.getfield 15, 3) := by decide +kernel
theorem dX1_between_40 : decode cX1_between 40 = .ok (.iload 4, 2) := by decide +kernel
theorem dX1_between_42 : decode cX1_between 42 = .ok (.iaload, 1) := by decide +kernel
theorem dX1_between_43 : decode cX1_between 43 = .ok (.iload_n 3, 1) := by decide +kernel
theorem dX1_between_44 : decode cX1_between 44 = .ok (.if_icmp .ne 6, 3) := by decide +kernel
theorem dX1_between_47 : decode cX1_between 47 = .ok (.iload 4, 2) := by decide +kernel
theorem dX1_between_49 : decode cX1_between 49 = .ok (.ireturn, 1) := by decide +kernel
theorem dX1_between_50 : decode cX1_between 50 = .ok (.iinc 4 1, 3) := by decide +kernel
theorem dX1_between_53 : decode cX1_between 53 = .ok (.goto (-37), 3) := by decide +kernel
theorem dX1_between_56 : decode cX1_between 56 = .ok (.iconst (-1), 1) := by decide +kernel
theorem dX1_between_57 : decode cX1_between 57 = .ok (.ireturn, 1) := by decide +kernel
theorem dX1_onward_0 : decode cX1_onward 0 = .ok (.iconst (-1), 1) := by decide +kernel
theorem dX1_onward_1 : decode cX1_onward 1 = .ok (.istore_n 3, 1) := by decide +kernel
theorem dX1_onward_2 : decode cX1_onward 2 = .ok (.iconst 0, 1) := by decide +kernel
theorem dX1_onward_3 : decode cX1_onward 3 = .ok (.istore 4, 2) := by decide +kernel
theorem dX1_onward_5 : decode cX1_onward 5 = .ok (.iload 4, 2) := by decide +kernel
theorem dX1_onward_7 : decode cX1_onward 7 = .ok (.bipush 72, 2) := by decide +kernel
theorem dX1_onward_9 : decode cX1_onward 9 = .ok (.if_icmp .ge 34, 3) := by decide +kernel
theorem dX1_onward_12 : decode cX1_onward 12 = .ok (.aload_n 0, 1) := by decide +kernel
theorem dX1_onward_13 : decode cX1_onward 13 = .ok (.getfield 9, 3) := by decide +kernel
theorem dX1_onward_16 : decode cX1_onward 16 = .ok (.iload 4, 2) := by decide +kernel
theorem dX1_onward_18 : decode cX1_onward 18 = .ok (.iaload, 1) := by decide +kernel
theorem dX1_onward_19 : decode cX1_onward 19 = .ok (.iload_n 1, 1) := by decide +kernel
theorem dX1_onward_20 : decode cX1_onward 20 = .ok (.if_icmp .ne 17, 3) := by decide +kernel
theorem dX1_onward_23 : decode cX1_onward 23 = .ok (.aload_n 0, 1) := by decide +kernel
theorem dX1_onward_24 : decode cX1_onward 24 = .ok (.getfield 18, 3) := by decide +kernel
theorem dX1_onward_27 : decode cX1_onward 27 = .ok (.iload 4, 2) := by decide +kernel
theorem dX1_onward_29 : decode cX1_onward 29 = .ok (.iaload, 1) := by decide +kernel
theorem dX1_onward_30 : decode cX1_onward 30 = .ok (.iload_n 2, 1) := by decide +kernel
theorem dX1_onward_31 : decode cX1_onward 31 = .ok (.if_icmp .gt 6, 3) := by decide +kernel
theorem dX1_onward_34 : decode cX1_onward 34 = .ok (.iload 4, 2) := by decide +kernel
theorem dX1_onward_36 : decode cX1_onward 36 = .ok (.istore_n 3, 1) := by decide +kernel
theorem dX1_onward_37 : decode cX1_onward 37 = .ok (.iinc 4 1, 3) := by decide +kernel
theorem dX1_onward_40 : decode cX1_onward 40 = .ok (.goto (-35), 3) := by decide +kernel
theorem dX1_onward_43 : decode cX1_onward 43 = .ok (.iload_n 3, 1) := by decide +kernel
theorem dX1_onward_44 : decode cX1_onward 44 = .ok (.ireturn, 1) := by decide +kernel
theorem dX2_init_0 : decode cX2_init 0 = .ok (.aload_n 0, 1) := by decide +kernel
theorem dX2_init_1 : decode cX2_init 1 = .ok (.invokespecial 3, 3) := by decide +kernel
theorem dX2_init_4 : decode cX2_init 4 = .ok (.aload_n 0, 1) := by decide +kernel
theorem dX2_init_5 : decode cX2_init 5 = .ok (.bipush 12, 2) := by decide +kernel
theorem dX2_init_7 : decode cX2_init 7 = .ok (.newarray .int, 2) := by decide +kernel
theorem dX2_init_9 : decode cX2_init 9 = .ok (.putfield 9, 3) := by decide +kernel
theorem dX2_init_12 : decode cX2_init 12 = .ok (.aload_n 0, 1) := by decide +kernel
theorem dX2_init_13 : decode cX2_init 13 = .ok (.iconst 0, 1) := by decide +kernel
theorem dX2_init_14 : decode cX2_init 14 = .ok (.putfield 15, 3) := by decide +kernel
theorem dX2_init_17 : decode cX2_init 17 = .ok (.aload_n 0, 1) := by decide +kernel
theorem dX2_init_18 : decode cX2_init 18 = .ok (.aload_n 1, 1) := by decide +kernel
theorem dX2_init_19 : decode cX2_init 19 = .ok (.putfield 19, 3) := by decide +kernel
theorem dX2_init_22 : decode cX2_init 22 = .ok (.aload_n 0, 1) := by decide +kernel
theorem dX2_init_23 : decode cX2_init 23 = .ok (.aload_n 2, 1) := by decide +kernel
theorem dX2_init_24 : decode cX2_init 24 = .ok (.putfield 23, 3) := by decide +kernel
theorem dX2_init_27 : decode cX2_init 27 = .ok (.return_, 1) := by decide +kernel
theorem dX2_trace_0 : decode cX2_trace 0 = .ok (.iconst 0, 1) := by decide +kernel
theorem dX2_trace_1 : decode cX2_trace 1 = .ok (.istore_n 2, 1) := by decide +kernel
theorem dX2_trace_2 : decode cX2_trace 2 = .ok (.iload_n 1, 1) := by decide +kernel
theorem dX2_trace_3 : decode cX2_trace 3 = .ok (.istore_n 3, 1) := by decide +kernel
theorem dX2_trace_4 : decode cX2_trace 4 = .ok (.aload_n 0, 1) := by decide +kernel
theorem dX2_trace_5 : decode cX2_trace 5 = .ok (.iconst 0, 1) := by decide +kernel
theorem dX2_trace_6 : decode cX2_trace 6 = .ok (.putfield 15, 3) := by decide +kernel
theorem dX2_trace_9 : decode cX2_trace 9 = .ok (.iload_n 2, 1) := by decide +kernel
theorem dX2_trace_10 : decode cX2_trace 10 = .ok (.aload_n 0, 1) := by decide +kernel
theorem dX2_trace_11 : decode cX2_trace 11 = .ok (.getfield 19, 3) := by decide +kernel
theorem dX2_trace_14 : decode cX2_trace 14 = .ok (.invokevirtual 27, 3) := by decide +kernel
theorem dX2_trace_17 : decode cX2_trace 17 = .ok (.if_icmp .eq 78, 3) := by decide +kernel
theorem dX2_trace_20 : decode cX2_trace 20 = .ok (.aload_n 0, 1) := by decide +kernel
theorem dX2_trace_21 : decode cX2_trace 21 = .ok (.getfield 15, 3) := by decide +kernel
theorem dX2_trace_24 : decode cX2_trace 24 = .ok (.bipush 12, 2) := by decide +kernel
theorem dX2_trace_26 : decode cX2_trace 26 = .ok (.if_icmp .ge 69, 3) := by decide +kernel
theorem dX2_trace_29 : decode cX2_trace 29 = .ok (.aload_n 0, 1) := by decide +kernel
theorem dX2_trace_30 : decode cX2_trace 30 = .ok (.getfield 23, 3) := by decide +kernel
theorem dX2_trace_33 : decode cX2_trace 33 = .ok (.iload_n 2, 1) := by decide +kernel
theorem dX2_trace_34 : decode cX2_trace 34 = .ok (.iload_n 3, 1) := by decide +kernel
theorem dX2_trace_35 : decode cX2_trace 35 = .ok (.invokevirtual 33, 3) := by decide +kernel
theorem dX2_trace_38 : decode cX2_trace 38 = .ok (.istore 4, 2) := by decide +kernel
theorem dX2_trace_40 : decode cX2_trace 40 = .ok (.iload 4, 2) := by decide +kernel
theorem dX2_trace_42 : decode cX2_trace 42 = .ok (.iconst (-1), 1) := by decide +kernel
theorem dX2_trace_43 : decode cX2_trace 43 = .ok (.if_icmp .ne 4, 3) := by decide +kernel
theorem dX2_trace_46 : decode cX2_trace 46 = .ok (.return_, 1) := by decide +kernel
theorem dX2_trace_47 : decode cX2_trace 47 = .ok (.aload_n 0, 1) := by decide +kernel
theorem dX2_trace_48 : decode cX2_trace 48 = .ok (.getfield 9, 3) := by decide +kernel
theorem dX2_trace_51 : decode cX2_trace 51 = .ok (.aload_n 0, 1) := by decide +kernel
theorem dX2_trace_52 : decode cX2_trace 52 = .ok (.getfield 15, 3) := by decide +kernel
theorem dX2_trace_55 : decode cX2_trace 55 = .ok (.iload 4, 2) := by decide +kernel
theorem dX2_trace_57 : decode cX2_trace 57 = .ok (.iastore, 1) := by decide +kernel
theorem dX2_trace_58 : decode cX2_trace 58 = .ok (.aload_n 0, 1) := by decide +kernel
theorem dX2_trace_59 : decode cX2_trace 59 = .ok (.dup, 1) := by decide +kernel
theorem dX2_trace_60 : decode cX2_trace 60 = .ok (.getfield 15, 3) := by decide +kernel
theorem dX2_trace_63 : decode cX2_trace 63 = .ok (.iconst 1, 1) := by decide +kernel
theorem dX2_trace_64 : decode cX2_trace 64 = .ok (.iadd, 1) := by decide +kernel
theorem dX2_trace_65 : decode cX2_trace 65 = .ok (.putfield 15, 3) := by decide +kernel
theorem dX2_trace_68 : decode cX2_trace 68 = .ok (.iload_n 3, 1) := by decide +kernel
theorem dX2_trace_69 : decode cX2_trace 69 = .ok (.aload_n 0, 1) := by decide +kernel
theorem dX2_trace_70 : decode cX2_trace 70 = .ok (.getfield 23, 3) := by decide +kernel
theorem dX2_trace_73 : decode cX2_trace 73 = .ok (.getfield 39, 3) := by decide +kernel
theorem dX2_trace_76 : decode cX2_trace 76 = .ok (.iload 4, 2) := by decide +kernel
theorem dX2_trace_78 : decode cX2_trace 78 = .ok (.iaload, 1) := by decide +kernel
theorem dX2_trace_79 : decode cX2_trace 79 = .ok (.isub, 1) := by decide +kernel
theorem dX2_trace_80 : decode cX2_trace 80 = .ok (.istore_n 3, 1) := by decide +kernel
theorem dX2_trace_81 : decode cX2_trace 81 = .ok (.aload_n 0, 1) := by decide +kernel
theorem dX2_trace_82 : decode cX2_trace 82 = .ok (.getfield 23, 3) := by decide +kernel
theorem dX2_trace_85 : decode cX2_trace 85 = .ok (.getfield 42, 3) := by decide +kernel
theorem dX2_trace_88 : decode cX2_trace 88 = .ok (.iload 4, 2) := by decide +kernel
theorem dX2_trace_90 : decode cX2_trace 90 = .ok (.iaload, 1) := by decide +kernel
theorem dX2_trace_91 : decode cX2_trace 91 = .ok (.istore_n 2, 1) := by decide +kernel
theorem dX2_trace_92 : decode cX2_trace 92 = .ok (.goto (-83), 3) := by decide +kernel
theorem dX2_trace_95 : decode cX2_trace 95 = .ok (.return_, 1) := by decide +kernel
theorem dX2_contains_0 : decode cX2_contains 0 = .ok (.iconst 0, 1) := by decide +kernel
theorem dX2_contains_1 : decode cX2_contains 1 = .ok (.istore_n 2, 1) := by decide +kernel
theorem dX2_contains_2 : decode cX2_contains 2 = .ok (.iload_n 2, 1) := by decide +kernel
theorem dX2_contains_3 : decode cX2_contains 3 = .ok (.aload_n 0, 1) := by decide +kernel
theorem dX2_contains_4 : decode cX2_contains 4 = .ok (.getfield 15, 3) := by decide +kernel
theorem dX2_contains_7 : decode cX2_contains 7 = .ok (.if_icmp .ge 21, 3) := by decide +kernel
theorem dX2_contains_10 : decode cX2_contains 10 = .ok (.aload_n 0, 1) := by decide +kernel
theorem dX2_contains_11 : decode cX2_contains 11 = .ok (.getfield 9, 3) := by decide +kernel
theorem dX2_contains_14 : decode cX2_contains 14 = .ok (.iload_n 2, 1) := by decide +kernel
theorem dX2_contains_15 : decode cX2_contains 15 = .ok (.iaload, 1) := by decide +kernel
theorem dX2_contains_16 : decode cX2_contains 16 = .ok (.iload_n 1, 1) := by decide +kernel
theorem dX2_contains_17 : decode cX2_contains 17 = .ok (.if_icmp .ne 5, 3) := by decide +kernel
theorem dX2_contains_20 : decode cX2_contains 20 = .ok (.iconst 1, 1) := by decide +kernel
theorem dX2_contains_21 : decode cX2_contains 21 = .ok (.ireturn, 1) := by decide +kernel
theorem dX2_contains_22 : decode cX2_contains 22 = .ok (.iinc 2 1, 3) := by decide +kernel
theorem dX2_contains_25 : decode cX2_contains 25 = .ok (.goto (-23), 3) := by decide +kernel
theorem dX2_contains_28 : decode cX2_contains 28 = .ok (.iconst 0, 1) := by decide +kernel
theorem dX2_contains_29 : decode cX2_contains 29 = .ok (.ireturn, 1) := by decide +kernel
theorem dX2_startEdge_0 : decode cX2_startEdge 0 = .ok (.aload_n 0, 1) := by decide +kernel
theorem dX2_startEdge_1 : decode cX2_startEdge 1 = .ok (.getfield 15, 3) := by decide +kernel
theorem dX2_startEdge_4 : decode cX2_startEdge 4 = .ok (.ifCond .eq 14, 3) := by decide +kernel
theorem dX2_startEdge_7 : decode cX2_startEdge 7 = .ok (.aload_n 0, 1) := by decide +kernel
theorem dX2_startEdge_8 : decode cX2_startEdge 8 = .ok (.getfield 9, 3) := by decide +kernel
theorem dX2_startEdge_11 : decode cX2_startEdge 11 = .ok (.iconst 0, 1) := by decide +kernel
theorem dX2_startEdge_12 : decode cX2_startEdge 12 = .ok (.iaload, 1) := by decide +kernel
theorem dX2_startEdge_13 : decode cX2_startEdge 13 = .ok (.bipush 48, 2) := by decide +kernel
theorem dX2_startEdge_15 : decode cX2_startEdge 15 = .ok (.if_icmp .ge 5, 3) := by decide +kernel
theorem dX2_startEdge_18 : decode cX2_startEdge 18 = .ok (.iconst (-1), 1) := by decide +kernel
theorem dX2_startEdge_19 : decode cX2_startEdge 19 = .ok (.ireturn, 1) := by decide +kernel
theorem dX2_startEdge_20 : decode cX2_startEdge 20 = .ok (.aload_n 0, 1) := by decide +kernel
theorem dX2_startEdge_21 : decode cX2_startEdge 21 = .ok (.getfield 9, 3) := by decide +kernel
theorem dX2_startEdge_24 : decode cX2_startEdge 24 = .ok (.iconst 0, 1) := by decide +kernel
theorem dX2_startEdge_25 : decode cX2_startEdge 25 = .ok (.iaload, 1) := by decide +kernel
theorem dX2_startEdge_26 : decode cX2_startEdge 26 = .ok (.bipush 48, 2) := by decide +kernel
theorem dX2_startEdge_28 : decode cX2_startEdge 28 = .ok (.isub, 1) := by decide +kernel
theorem dX2_startEdge_29 : decode cX2_startEdge 29 = .ok (.ireturn, 1) := by decide +kernel
theorem dX2_endEdge_0 : decode cX2_endEdge 0 = .ok (.aload_n 0, 1) := by decide +kernel
theorem dX2_endEdge_1 : decode cX2_endEdge 1 = .ok (.getfield 15, 3) := by decide +kernel
theorem dX2_endEdge_4 : decode cX2_endEdge 4 = .ok (.ifCond .ne 5, 3) := by decide +kernel
theorem dX2_endEdge_7 : decode cX2_endEdge 7 = .ok (.iconst (-1), 1) := by decide +kernel
theorem dX2_endEdge_8 : decode cX2_endEdge 8 = .ok (.ireturn, 1) := by decide +kernel
theorem dX2_endEdge_9 : decode cX2_endEdge 9 = .ok (.aload_n 0, 1) := by decide +kernel
theorem dX2_endEdge_10 : decode cX2_endEdge 10 = .ok (.getfield 9, 3) := by decide +kernel
theorem dX2_endEdge_13 : decode cX2_endEdge 13 = .ok (.aload_n 0, 1) := by decide +kernel
theorem dX2_endEdge_14 : decode cX2_endEdge 14 = .ok (.getfield 15, 3) := by decide +kernel
theorem dX2_endEdge_17 : decode cX2_endEdge 17 = .ok (.iconst 1, 1) := by decide +kernel
theorem dX2_endEdge_18 : decode cX2_endEdge 18 = .ok (.isub, 1) := by decide +kernel
theorem dX2_endEdge_19 : decode cX2_endEdge 19 = .ok (.iaload, 1) := by decide +kernel
theorem dX2_endEdge_20 : decode cX2_endEdge 20 = .ok (.istore_n 1, 1) := by decide +kernel
theorem dX2_endEdge_21 : decode cX2_endEdge 21 = .ok (.iload_n 1, 1) := by decide +kernel
theorem dX2_endEdge_22 : decode cX2_endEdge 22 = .ok (.bipush 24, 2) := by decide +kernel
theorem dX2_endEdge_24 : decode cX2_endEdge 24 = .ok (.if_icmp .lt 16, 3) := by decide +kernel
theorem dX2_endEdge_27 : decode cX2_endEdge 27 = .ok (.iload_n 1, 1) := by decide +kernel
theorem dX2_endEdge_28 : decode cX2_endEdge 28 = .ok (.bipush 48, 2) := by decide +kernel
theorem dX2_endEdge_30 : decode cX2_endEdge 30 = .ok (.if_icmp .ge 10, 3) := by decide +kernel
theorem dX2_endEdge_33 : decode cX2_endEdge 33 = .ok (.iload_n 1, 1) := by decide +kernel
theorem dX2_endEdge_34 : decode cX2_endEdge 34 = .ok (.bipush 24, 2) := by decide +kernel
theorem dX2_endEdge_36 : decode cX2_endEdge 36 = .ok (.isub, 1) := by decide +kernel
theorem dX2_endEdge_37 : decode cX2_endEdge 37 = .ok (.goto 4, 3) := by decide +kernel
theorem dX2_endEdge_40 : decode cX2_endEdge 40 = .ok (.iconst (-1), 1) := by decide +kernel
theorem dX2_endEdge_41 : decode cX2_endEdge 41 = .ok (.ireturn, 1) := by decide +kernel
theorem dX2_nodeNumber_0 : decode cX2_nodeNumber 0 = .ok (.aload_n 0, 1) := by decide +kernel
theorem dX2_nodeNumber_1 : decode cX2_nodeNumber 1 = .ok (.getfield 15, 3) := by decide +kernel
theorem dX2_nodeNumber_4 : decode cX2_nodeNumber 4 = .ok (.iconst 1, 1) := by decide +kernel
theorem dX2_nodeNumber_5 : decode cX2_nodeNumber 5 = .ok (.iadd, 1) := by decide +kernel
theorem dX2_nodeNumber_6 : decode cX2_nodeNumber 6 = .ok (.istore_n 1, 1) := by decide +kernel
theorem dX2_nodeNumber_7 : decode cX2_nodeNumber 7 = .ok (.aload_n 0, 1) := by decide +kernel
theorem dX2_nodeNumber_8 : decode cX2_nodeNumber 8 = .ok (.invokevirtual 45, 3) := by decide +kernel
theorem dX2_nodeNumber_11 : decode cX2_nodeNumber 11 = .ok (.iconst (-1), 1) := by decide +kernel
theorem dX2_nodeNumber_12 : decode cX2_nodeNumber 12 = .ok (.if_icmp .eq 6, 3) := by decide +kernel
theorem dX2_nodeNumber_15 : decode cX2_nodeNumber 15 = .ok (.iinc 1 (-1), 3) := by decide +kernel
theorem dX2_nodeNumber_18 : decode cX2_nodeNumber 18 = .ok (.aload_n 0, 1) := by decide +kernel
theorem dX2_nodeNumber_19 : decode cX2_nodeNumber 19 = .ok (.invokevirtual 48, 3) := by decide +kernel
theorem dX2_nodeNumber_22 : decode cX2_nodeNumber 22 = .ok (.iconst (-1), 1) := by decide +kernel
theorem dX2_nodeNumber_23 : decode cX2_nodeNumber 23 = .ok (.if_icmp .eq 6, 3) := by decide +kernel
theorem dX2_nodeNumber_26 : decode cX2_nodeNumber 26 = .ok (.iinc 1 (-1), 3) := by decide +kernel
theorem dX2_nodeNumber_29 : decode cX2_nodeNumber 29 = .ok (.iload_n 1, 1) := by decide +kernel
theorem dX2_nodeNumber_30 : decode cX2_nodeNumber 30 = .ok (.ireturn, 1) := by decide +kernel
theorem dX2_nodeAt_0 : decode cX2_nodeAt 0 = .ok (.aload_n 0, 1) := by decide +kernel
theorem dX2_nodeAt_1 : decode cX2_nodeAt 1 = .ok (.invokevirtual 45, 3) := by decide +kernel
theorem dX2_nodeAt_4 : decode cX2_nodeAt 4 = .ok (.iconst (-1), 1) := by decide +kernel
theorem dX2_nodeAt_5 : decode cX2_nodeAt 5 = .ok (.if_icmp .ne 7, 3) := by decide +kernel
theorem dX2_nodeAt_8 : decode cX2_nodeAt 8 = .ok (.iload_n 1, 1) := by decide +kernel
theorem dX2_nodeAt_9 : decode cX2_nodeAt 9 = .ok (.goto 6, 3) := by decide +kernel
theorem dX2_nodeAt_12 : decode cX2_nodeAt 12 = .ok (.iload_n 1, 1) := by decide +kernel
theorem dX2_nodeAt_13 : decode cX2_nodeAt 13 = .ok (.iconst 1, 1) := by decide +kernel
theorem dX2_nodeAt_14 : decode cX2_nodeAt 14 = .ok (.iadd, 1) := by decide +kernel
theorem dX2_nodeAt_15 : decode cX2_nodeAt 15 = .ok (.istore_n 2, 1) := by decide +kernel
theorem dX2_nodeAt_16 : decode cX2_nodeAt 16 = .ok (.iload_n 2, 1) := by decide +kernel
theorem dX2_nodeAt_17 : decode cX2_nodeAt 17 = .ok (.ifCond .ne 7, 3) := by decide +kernel
theorem dX2_nodeAt_20 : decode cX2_nodeAt 20 = .ok (.iconst 0, 1) := by decide +kernel
theorem dX2_nodeAt_21 : decode cX2_nodeAt 21 = .ok (.goto 19, 3) := by decide +kernel
theorem dX2_nodeAt_24 : decode cX2_nodeAt 24 = .ok (.aload_n 0, 1) := by decide +kernel
theorem dX2_nodeAt_25 : decode cX2_nodeAt 25 = .ok (.getfield 23, 3) := by decide +kernel
theorem dX2_nodeAt_28 : decode cX2_nodeAt 28 = .ok (.getfield 42, 3) := by decide +kernel
theorem dX2_nodeAt_31 : decode cX2_nodeAt 31 = .ok (.aload_n 0, 1) := by decide +kernel
theorem dX2_nodeAt_32 : decode cX2_nodeAt 32 = .ok (.getfield 9, 3) := by decide +kernel
theorem dX2_nodeAt_35 : decode cX2_nodeAt 35 = .ok (.iload_n 2, 1) := by decide +kernel
theorem dX2_nodeAt_36 : decode cX2_nodeAt 36 = .ok (.iconst 1, 1) := by decide +kernel
theorem dX2_nodeAt_37 : decode cX2_nodeAt 37 = .ok (.isub, 1) := by decide +kernel
theorem dX2_nodeAt_38 : decode cX2_nodeAt 38 = .ok (.iaload, 1) := by decide +kernel
theorem dX2_nodeAt_39 : decode cX2_nodeAt 39 = .ok (.iaload, 1) := by decide +kernel
theorem dX2_nodeAt_40 : decode cX2_nodeAt 40 = .ok (.ireturn, 1) := by decide +kernel
theorem dX2_numberOf_0 : decode cX2_numberOf 0 = .ok (.aload_n 1, 1) := by decide +kernel
theorem dX2_numberOf_1 : decode cX2_numberOf 1 = .ok (.getfield 51, 3) := by decide +kernel
theorem dX2_numberOf_4 : decode cX2_numberOf 4 = .ok (.ifCond .ne 5, 3) := by decide +kernel
theorem dX2_numberOf_7 : decode cX2_numberOf 7 = .ok (.iconst (-1), 1) := by decide +kernel
theorem dX2_numberOf_8 : decode cX2_numberOf 8 = .ok (.ireturn, 1) := by decide +kernel
theorem dX2_numberOf_9 : decode cX2_numberOf 9 = .ok (.aload_n 1, 1) := by decide +kernel
theorem dX2_numberOf_10 : decode cX2_numberOf 10 = .ok (.iconst 0, 1) := by decide +kernel
theorem dX2_numberOf_11 : decode cX2_numberOf 11 = .ok (.invokevirtual 56, 3) := by decide +kernel
theorem dX2_numberOf_14 : decode cX2_numberOf 14 = .ok (.istore_n 2, 1) := by decide +kernel
theorem dX2_numberOf_15 : decode cX2_numberOf 15 = .ok (.aload_n 1, 1) := by decide +kernel
theorem dX2_numberOf_16 : decode cX2_numberOf 16 = .ok (.aload_n 1, 1) := by decide +kernel
theorem dX2_numberOf_17 : decode cX2_numberOf 17 = .ok (.getfield 51, 3) := by decide +kernel
theorem dX2_numberOf_20 : decode cX2_numberOf 20 = .ok (.iconst 1, 1) := by decide +kernel
theorem dX2_numberOf_21 : decode cX2_numberOf 21 = .ok (.isub, 1) := by decide +kernel
theorem dX2_numberOf_22 : decode cX2_numberOf 22 = .ok (.invokevirtual 56, 3) := by decide +kernel
theorem dX2_numberOf_25 : decode cX2_numberOf 25 = .ok (.istore_n 3, 1) := by decide +kernel
theorem dX2_numberOf_26 : decode cX2_numberOf 26 = .ok (.iconst 0, 1) := by decide +kernel
theorem dX2_numberOf_27 : decode cX2_numberOf 27 = .ok (.istore 4, 2) := by decide +kernel
theorem dX2_numberOf_29 : decode cX2_numberOf 29 = .ok (.iload_n 2, 1) := by decide +kernel
theorem dX2_numberOf_30 : decode cX2_numberOf 30 = .ok (.ifCond .eq 22, 3) := by decide +kernel
theorem dX2_numberOf_33 : decode cX2_numberOf 33 = .ok (.aload_n 0, 1) := by decide +kernel
theorem dX2_numberOf_34 : decode cX2_numberOf 34 = .ok (.iload 4, 2) := by decide +kernel
theorem dX2_numberOf_36 : decode cX2_numberOf 36 = .ok (.aload_n 0, 1) := by decide +kernel
theorem dX2_numberOf_37 : decode cX2_numberOf 37 = .ok (.getfield 23, 3) := by decide +kernel
theorem dX2_numberOf_40 : decode cX2_numberOf 40 = .ok (.bipush 48, 2) := by decide +kernel
theorem dX2_numberOf_42 : decode cX2_numberOf 42 = .ok (.iconst 0, 1) := by decide +kernel
theorem dX2_numberOf_43 : decode cX2_numberOf 43 = .ok (.iload_n 2, 1) := by decide +kernel
theorem dX2_numberOf_44 : decode cX2_numberOf 44 = .ok (.invokevirtual 60, 3) := by decide +kernel
theorem dX2_numberOf_47 : decode cX2_numberOf 47 = .ok (.invokevirtual 64, 3) := by decide +kernel
theorem dX2_numberOf_50 : decode cX2_numberOf 50 = .ok (.istore 4, 2) := by decide +kernel
theorem dX2_numberOf_52 : decode cX2_numberOf 52 = .ok (.iconst 1, 1) := by decide +kernel
theorem dX2_numberOf_53 : decode cX2_numberOf 53 = .ok (.istore 5, 2) := by decide +kernel
theorem dX2_numberOf_55 : decode cX2_numberOf 55 = .ok (.iload 5, 2) := by decide +kernel
theorem dX2_numberOf_57 : decode cX2_numberOf 57 = .ok (.aload_n 1, 1) := by decide +kernel
theorem dX2_numberOf_58 : decode cX2_numberOf 58 = .ok (.getfield 51, 3) := by decide +kernel
theorem dX2_numberOf_61 : decode cX2_numberOf 61 = .ok (.if_icmp .ge 43, 3) := by decide +kernel
theorem dX2_numberOf_64 : decode cX2_numberOf 64 = .ok (.aload_n 1, 1) := by decide +kernel
theorem dX2_numberOf_65 : decode cX2_numberOf 65 = .ok (.iload 5, 2) := by decide +kernel
theorem dX2_numberOf_67 : decode cX2_numberOf 67 = .ok (.iconst 1, 1) := by decide +kernel
theorem dX2_numberOf_68 : decode cX2_numberOf 68 = .ok (.isub, 1) := by decide +kernel
theorem dX2_numberOf_69 : decode cX2_numberOf 69 = .ok (.invokevirtual 56, 3) := by decide +kernel
theorem dX2_numberOf_72 : decode cX2_numberOf 72 = .ok (.istore 6, 2) := by decide +kernel
theorem dX2_numberOf_74 : decode cX2_numberOf 74 = .ok (.aload_n 0, 1) := by decide +kernel
theorem dX2_numberOf_75 : decode cX2_numberOf 75 = .ok (.iload 4, 2) := by decide +kernel
theorem dX2_numberOf_77 : decode cX2_numberOf 77 = .ok (.aload_n 0, 1) := by decide +kernel
theorem dX2_numberOf_78 : decode cX2_numberOf 78 = .ok (.getfield 23, 3) := by decide +kernel
theorem dX2_numberOf_81 : decode cX2_numberOf 81 = .ok (.iconst 0, 1) := by decide +kernel
theorem dX2_numberOf_82 : decode cX2_numberOf 82 = .ok (.iload 6, 2) := by decide +kernel
theorem dX2_numberOf_84 : decode cX2_numberOf 84 = .ok (.aload_n 1, 1) := by decide +kernel
theorem dX2_numberOf_85 : decode cX2_numberOf 85 = .ok (.iload 5, 2) := by decide +kernel
theorem dX2_numberOf_87 : decode cX2_numberOf 87 = .ok (.invokevirtual 56, 3) := by decide +kernel
theorem dX2_numberOf_90 : decode cX2_numberOf 90 = .ok (.invokevirtual 60, 3) := by decide +kernel
theorem dX2_numberOf_93 : decode cX2_numberOf 93 = .ok (.invokevirtual 64, 3) := by decide +kernel
theorem dX2_numberOf_96 : decode cX2_numberOf 96 = .ok (.istore 4, 2) := by decide +kernel
theorem dX2_numberOf_98 : decode cX2_numberOf 98 = .ok (.iinc 5 1, 3) := by decide +kernel
theorem dX2_numberOf_101 : decode cX2_numberOf 101 = .ok (.goto (-46), 3) := by decide +kernel
theorem dX2_numberOf_104 : decode cX2_numberOf 104 = .ok (.iload_n 3, 1) := by decide +kernel
theorem dX2_numberOf_105 : decode cX2_numberOf 105 = .ok (.aload_n 0, 1) := by decide +kernel
theorem dX2_numberOf_106 : decode cX2_numberOf 106 = .ok (.getfield 19, 3) := by decide +kernel
theorem dX2_numberOf_109 : decode cX2_numberOf 109 = .ok (.invokevirtual 27, 3) := by decide +kernel
theorem dX2_numberOf_112 : decode cX2_numberOf 112 = .ok (.if_icmp .eq 28, 3) := by decide +kernel
theorem dX2_numberOf_115 : decode cX2_numberOf 115 = .ok (.aload_n 0, 1) := by decide +kernel
theorem dX2_numberOf_116 : decode cX2_numberOf 116 = .ok (.iload 4, 2) := by decide +kernel
theorem dX2_numberOf_118 : decode cX2_numberOf 118 = .ok (.aload_n 0, 1) := by decide +kernel
theorem dX2_numberOf_119 : decode cX2_numberOf 119 = .ok (.getfield 23, 3) := by decide +kernel
theorem dX2_numberOf_122 : decode cX2_numberOf 122 = .ok (.bipush 24, 2) := by decide +kernel
theorem dX2_numberOf_124 : decode cX2_numberOf 124 = .ok (.iload_n 3, 1) := by decide +kernel
theorem dX2_numberOf_125 : decode cX2_numberOf 125 = .ok (.aload_n 0, 1) := by decide +kernel
theorem dX2_numberOf_126 : decode cX2_numberOf 126 = .ok (.getfield 19, 3) := by decide +kernel
theorem dX2_numberOf_129 : decode cX2_numberOf 129 = .ok (.invokevirtual 27, 3) := by decide +kernel
theorem dX2_numberOf_132 : decode cX2_numberOf 132 = .ok (.invokevirtual 60, 3) := by decide +kernel
theorem dX2_numberOf_135 : decode cX2_numberOf 135 = .ok (.invokevirtual 64, 3) := by decide +kernel
theorem dX2_numberOf_138 : decode cX2_numberOf 138 = .ok (.istore 4, 2) := by decide +kernel
theorem dX2_numberOf_140 : decode cX2_numberOf 140 = .ok (.iload 4, 2) := by decide +kernel
theorem dX2_numberOf_142 : decode cX2_numberOf 142 = .ok (.ireturn, 1) := by decide +kernel
theorem dX2_plusValue_0 : decode cX2_plusValue 0 = .ok (.iload_n 1, 1) := by decide +kernel
theorem dX2_plusValue_1 : decode cX2_plusValue 1 = .ok (.iconst (-1), 1) := by decide +kernel
theorem dX2_plusValue_2 : decode cX2_plusValue 2 = .ok (.if_icmp .eq 8, 3) := by decide +kernel
theorem dX2_plusValue_5 : decode cX2_plusValue 5 = .ok (.iload_n 2, 1) := by decide +kernel
theorem dX2_plusValue_6 : decode cX2_plusValue 6 = .ok (.iconst (-1), 1) := by decide +kernel
theorem dX2_plusValue_7 : decode cX2_plusValue 7 = .ok (.if_icmp .ne 7, 3) := by decide +kernel
theorem dX2_plusValue_10 : decode cX2_plusValue 10 = .ok (.iconst (-1), 1) := by decide +kernel
theorem dX2_plusValue_11 : decode cX2_plusValue 11 = .ok (.goto 14, 3) := by decide +kernel
theorem dX2_plusValue_14 : decode cX2_plusValue 14 = .ok (.iload_n 1, 1) := by decide +kernel
theorem dX2_plusValue_15 : decode cX2_plusValue 15 = .ok (.aload_n 0, 1) := by decide +kernel
theorem dX2_plusValue_16 : decode cX2_plusValue 16 = .ok (.getfield 23, 3) := by decide +kernel
theorem dX2_plusValue_19 : decode cX2_plusValue 19 = .ok (.getfield 39, 3) := by decide +kernel
theorem dX2_plusValue_22 : decode cX2_plusValue 22 = .ok (.iload_n 2, 1) := by decide +kernel
theorem dX2_plusValue_23 : decode cX2_plusValue 23 = .ok (.iaload, 1) := by decide +kernel
theorem dX2_plusValue_24 : decode cX2_plusValue 24 = .ok (.iadd, 1) := by decide +kernel
theorem dX2_plusValue_25 : decode cX2_plusValue 25 = .ok (.ireturn, 1) := by decide +kernel
theorem dX3_init_0 : decode cX3_init 0 = .ok (.aload_n 0, 1) := by decide +kernel
theorem dX3_init_1 : decode cX3_init 1 = .ok (.invokespecial 3, 3) := by decide +kernel
theorem dX3_init_4 : decode cX3_init 4 = .ok (.aload_n 0, 1) := by decide +kernel
theorem dX3_init_5 : decode cX3_init 5 = .ok (.new 9, 3) := by decide +kernel
theorem dX3_init_8 : decode cX3_init 8 = .ok (.dup, 1) := by decide +kernel
theorem dX3_init_9 : decode cX3_init 9 = .ok (.invokespecial 11, 3) := by decide +kernel
theorem dX3_init_12 : decode cX3_init 12 = .ok (.putfield 12, 3) := by decide +kernel
theorem dX3_init_15 : decode cX3_init 15 = .ok (.aload_n 0, 1) := by decide +kernel
theorem dX3_init_16 : decode cX3_init 16 = .ok (.iconst 0, 1) := by decide +kernel
theorem dX3_init_17 : decode cX3_init 17 = .ok (.putfield 18, 3) := by decide +kernel
theorem dX3_init_20 : decode cX3_init 20 = .ok (.return_, 1) := by decide +kernel
theorem dX3_read_0 : decode cX3_read 0 = .ok (.aload_n 0, 1) := by decide +kernel
theorem dX3_read_1 : decode cX3_read 1 = .ok (.getfield 12, 3) := by decide +kernel
theorem dX3_read_4 : decode cX3_read 4 = .ok (.iconst 2, 1) := by decide +kernel
theorem dX3_read_5 : decode cX3_read 5 = .ok (.invokevirtual 22, 3) := by decide +kernel
theorem dX3_read_8 : decode cX3_read 8 = .ok (.iconst 0, 1) := by decide +kernel
theorem dX3_read_9 : decode cX3_read 9 = .ok (.istore_n 2, 1) := by decide +kernel
theorem dX3_read_10 : decode cX3_read 10 = .ok (.iload_n 2, 1) := by decide +kernel
theorem dX3_read_11 : decode cX3_read 11 = .ok (.aload_n 1, 1) := by decide +kernel
theorem dX3_read_12 : decode cX3_read 12 = .ok (.getfield 26, 3) := by decide +kernel
theorem dX3_read_15 : decode cX3_read 15 = .ok (.if_icmp .ge 25, 3) := by decide +kernel
theorem dX3_read_18 : decode cX3_read 18 = .ok (.aload_n 0, 1) := by decide +kernel
theorem dX3_read_19 : decode cX3_read 19 = .ok (.iload_n 2, 1) := by decide +kernel
theorem dX3_read_20 : decode cX3_read 20 = .ok (.aload_n 1, 1) := by decide +kernel
theorem dX3_read_21 : decode cX3_read 21 = .ok (.getfield 31, 3) := by decide +kernel
theorem dX3_read_24 : decode cX3_read 24 = .ok (.iload_n 2, 1) := by decide +kernel
theorem dX3_read_25 : decode cX3_read 25 = .ok (.iaload, 1) := by decide +kernel
theorem dX3_read_26 : decode cX3_read 26 = .ok (.invokevirtual 35, 3) := by decide +kernel
theorem dX3_read_29 : decode cX3_read 29 = .ok (.ifCond .ne 5, 3) := by decide +kernel
theorem dX3_read_32 : decode cX3_read 32 = .ok (.iload_n 2, 1) := by decide +kernel
theorem dX3_read_33 : decode cX3_read 33 = .ok (.ireturn, 1) := by decide +kernel
theorem dX3_read_34 : decode cX3_read 34 = .ok (.iinc 2 1, 3) := by decide +kernel
theorem dX3_read_37 : decode cX3_read 37 = .ok (.goto (-27), 3) := by decide +kernel
theorem dX3_read_40 : decode cX3_read 40 = .ok (.aload_n 1, 1) := by decide +kernel
theorem dX3_read_41 : decode cX3_read 41 = .ok (.getfield 26, 3) := by decide +kernel
theorem dX3_read_44 : decode cX3_read 44 = .ok (.ireturn, 1) := by decide +kernel
theorem dX3_readsGraph_0 : decode cX3_readsGraph 0 = .ok (.aload_n 1, 1) := by decide +kernel
theorem dX3_readsGraph_1 : decode cX3_readsGraph 1 = .ok (.getfield 26, 3) := by decide +kernel
theorem dX3_readsGraph_4 : decode cX3_readsGraph 4 = .ok (.iconst 4, 1) := by decide +kernel
theorem dX3_readsGraph_5 : decode cX3_readsGraph 5 = .ok (.if_icmp .lt 30, 3) := by decide +kernel
theorem dX3_readsGraph_8 : decode cX3_readsGraph 8 = .ok (.aload_n 0, 1) := by decide +kernel
theorem dX3_readsGraph_9 : decode cX3_readsGraph 9 = .ok (.aload_n 1, 1) := by decide +kernel
theorem dX3_readsGraph_10 : decode cX3_readsGraph 10 = .ok (.getfield 26, 3) := by decide +kernel
theorem dX3_readsGraph_13 : decode cX3_readsGraph 13 = .ok (.invokevirtual 39, 3) := by decide +kernel
theorem dX3_readsGraph_16 : decode cX3_readsGraph 16 = .ok (.ifCond .eq 19, 3) := by decide +kernel
theorem dX3_readsGraph_19 : decode cX3_readsGraph 19 = .ok (.aload_n 0, 1) := by decide +kernel
theorem dX3_readsGraph_20 : decode cX3_readsGraph 20 = .ok (.aload_n 1, 1) := by decide +kernel
theorem dX3_readsGraph_21 : decode cX3_readsGraph 21 = .ok (.invokevirtual 43, 3) := by decide +kernel
theorem dX3_readsGraph_24 : decode cX3_readsGraph 24 = .ok (.aload_n 1, 1) := by decide +kernel
theorem dX3_readsGraph_25 : decode cX3_readsGraph 25 = .ok (.getfield 26, 3) := by decide +kernel
theorem dX3_readsGraph_28 : decode cX3_readsGraph 28 = .ok (.if_icmp .ne 7, 3) := by decide +kernel
theorem dX3_readsGraph_31 : decode cX3_readsGraph 31 = .ok (.iconst 1, 1) := by decide +kernel
theorem dX3_readsGraph_32 : decode cX3_readsGraph 32 = .ok (.goto 4, 3) := by decide +kernel
theorem dX3_readsGraph_35 : decode cX3_readsGraph 35 = .ok (.iconst 0, 1) := by decide +kernel
theorem dX3_readsGraph_36 : decode cX3_readsGraph 36 = .ok (.ireturn, 1) := by decide +kernel
theorem dX3_endsWithTarget_0 : decode cX3_endsWithTarget 0 = .ok (.iload_n 1, 1) := by decide +kernel
theorem dX3_endsWithTarget_1 : decode cX3_endsWithTarget 1 = .ok (.iconst 3, 1) := by decide +kernel
theorem dX3_endsWithTarget_2 : decode cX3_endsWithTarget 2 = .ok (.irem, 1) := by decide +kernel
theorem dX3_endsWithTarget_3 : decode cX3_endsWithTarget 3 = .ok (.iconst 1, 1) := by decide +kernel
theorem dX3_endsWithTarget_4 : decode cX3_endsWithTarget 4 = .ok (.if_icmp .ne 7, 3) := by decide +kernel
theorem dX3_endsWithTarget_7 : decode cX3_endsWithTarget 7 = .ok (.iconst 1, 1) := by decide +kernel
theorem dX3_endsWithTarget_8 : decode cX3_endsWithTarget 8 = .ok (.goto 4, 3) := by decide +kernel
theorem dX3_endsWithTarget_11 : decode cX3_endsWithTarget 11 = .ok (.iconst 0, 1) := by decide +kernel
theorem dX3_endsWithTarget_12 : decode cX3_endsWithTarget 12 = .ok (.ireturn, 1) := by decide +kernel
theorem dX3_takes_0 : decode cX3_takes 0 = .ok (.iload_n 1, 1) := by decide +kernel
theorem dX3_takes_1 : decode cX3_takes 1 = .ok (.ifCond .ne 12, 3) := by decide +kernel
theorem dX3_takes_4 : decode cX3_takes 4 = .ok (.aload_n 0, 1) := by decide +kernel
theorem dX3_takes_5 : decode cX3_takes 5 = .ok (.iload_n 2, 1) := by decide +kernel
theorem dX3_takes_6 : decode cX3_takes 6 = .ok (.bipush 97, 2) := by decide +kernel
theorem dX3_takes_8 : decode cX3_takes 8 = .ok (.isub, 1) := by decide +kernel
theorem dX3_takes_9 : decode cX3_takes 9 = .ok (.invokevirtual 47, 3) := by decide +kernel
theorem dX3_takes_12 : decode cX3_takes 12 = .ok (.ireturn, 1) := by decide +kernel
theorem dX3_takes_13 : decode cX3_takes 13 = .ok (.iload_n 1, 1) := by decide +kernel
theorem dX3_takes_14 : decode cX3_takes 14 = .ok (.iconst 1, 1) := by decide +kernel
theorem dX3_takes_15 : decode cX3_takes 15 = .ok (.if_icmp .ne 15, 3) := by decide +kernel
theorem dX3_takes_18 : decode cX3_takes 18 = .ok (.iload_n 2, 1) := by decide +kernel
theorem dX3_takes_19 : decode cX3_takes 19 = .ok (.bipush 58, 2) := by decide +kernel
theorem dX3_takes_21 : decode cX3_takes 21 = .ok (.if_icmp .ne 7, 3) := by decide +kernel
theorem dX3_takes_24 : decode cX3_takes 24 = .ok (.iconst 1, 1) := by decide +kernel
theorem dX3_takes_25 : decode cX3_takes 25 = .ok (.goto 4, 3) := by decide +kernel
theorem dX3_takes_28 : decode cX3_takes 28 = .ok (.iconst 0, 1) := by decide +kernel
theorem dX3_takes_29 : decode cX3_takes 29 = .ok (.ireturn, 1) := by decide +kernel
theorem dX3_takes_30 : decode cX3_takes 30 = .ok (.iload_n 1, 1) := by decide +kernel
theorem dX3_takes_31 : decode cX3_takes 31 = .ok (.iconst 3, 1) := by decide +kernel
theorem dX3_takes_32 : decode cX3_takes 32 = .ok (.irem, 1) := by decide +kernel
theorem dX3_takes_33 : decode cX3_takes 33 = .ok (.lookupswitch 58 #[(0, 27), (1, 36)], 27) := by decide +kernel
theorem dX3_takes_60 : decode cX3_takes 60 = .ok (.aload_n 0, 1) := by decide +kernel
theorem dX3_takes_61 : decode cX3_takes 61 = .ok (.iload_n 2, 1) := by decide +kernel
theorem dX3_takes_62 : decode cX3_takes 62 = .ok (.bipush 97, 2) := by decide +kernel
theorem dX3_takes_64 : decode cX3_takes 64 = .ok (.isub, 1) := by decide +kernel
theorem dX3_takes_65 : decode cX3_takes 65 = .ok (.invokevirtual 50, 3) := by decide +kernel
theorem dX3_takes_68 : decode cX3_takes 68 = .ok (.ireturn, 1) := by decide +kernel
theorem dX3_takes_69 : decode cX3_takes 69 = .ok (.iload_n 2, 1) := by decide +kernel
theorem dX3_takes_70 : decode cX3_takes 70 = .ok (.bipush 44, 2) := by decide +kernel
theorem dX3_takes_72 : decode cX3_takes 72 = .ok (.if_icmp .ne 17, 3) := by decide +kernel
theorem dX3_takes_75 : decode cX3_takes 75 = .ok (.aload_n 0, 1) := by decide +kernel
theorem dX3_takes_76 : decode cX3_takes 76 = .ok (.getfield 12, 3) := by decide +kernel
theorem dX3_takes_79 : decode cX3_takes 79 = .ok (.invokevirtual 53, 3) := by decide +kernel
theorem dX3_takes_82 : decode cX3_takes 82 = .ok (.ifCond .ne 7, 3) := by decide +kernel
theorem dX3_takes_85 : decode cX3_takes 85 = .ok (.iconst 1, 1) := by decide +kernel
theorem dX3_takes_86 : decode cX3_takes 86 = .ok (.goto 4, 3) := by decide +kernel
theorem dX3_takes_89 : decode cX3_takes 89 = .ok (.iconst 0, 1) := by decide +kernel
theorem dX3_takes_90 : decode cX3_takes 90 = .ok (.ireturn, 1) := by decide +kernel
theorem dX3_takes_91 : decode cX3_takes 91 = .ok (.aload_n 0, 1) := by decide +kernel
theorem dX3_takes_92 : decode cX3_takes 92 = .ok (.iload_n 2, 1) := by decide +kernel
theorem dX3_takes_93 : decode cX3_takes 93 = .ok (.bipush 97, 2) := by decide +kernel
theorem dX3_takes_95 : decode cX3_takes 95 = .ok (.isub, 1) := by decide +kernel
theorem dX3_takes_96 : decode cX3_takes 96 = .ok (.invokevirtual 57, 3) := by decide +kernel
theorem dX3_takes_99 : decode cX3_takes 99 = .ok (.ireturn, 1) := by decide +kernel
theorem dX3_takesExit_0 : decode cX3_takesExit 0 = .ok (.iload_n 1, 1) := by decide +kernel
theorem dX3_takesExit_1 : decode cX3_takesExit 1 = .ok (.iconst 1, 1) := by decide +kernel
theorem dX3_takesExit_2 : decode cX3_takesExit 2 = .ok (.if_icmp .lt 9, 3) := by decide +kernel
theorem dX3_takesExit_5 : decode cX3_takesExit 5 = .ok (.iload_n 1, 1) := by decide +kernel
theorem dX3_takesExit_6 : decode cX3_takesExit 6 = .ok (.bipush 12, 2) := by decide +kernel
theorem dX3_takesExit_8 : decode cX3_takesExit 8 = .ok (.if_icmp .lt 5, 3) := by decide +kernel
theorem dX3_takesExit_11 : decode cX3_takesExit 11 = .ok (.iconst 0, 1) := by decide +kernel
theorem dX3_takesExit_12 : decode cX3_takesExit 12 = .ok (.ireturn, 1) := by decide +kernel
theorem dX3_takesExit_13 : decode cX3_takesExit 13 = .ok (.aload_n 0, 1) := by decide +kernel
theorem dX3_takesExit_14 : decode cX3_takesExit 14 = .ok (.getfield 12, 3) := by decide +kernel
theorem dX3_takesExit_17 : decode cX3_takesExit 17 = .ok (.iload_n 1, 1) := by decide +kernel
theorem dX3_takesExit_18 : decode cX3_takesExit 18 = .ok (.iconst 1, 1) := by decide +kernel
theorem dX3_takesExit_19 : decode cX3_takesExit 19 = .ok (.iadd, 1) := by decide +kernel
theorem dX3_takesExit_20 : decode cX3_takesExit 20 = .ok (.invokevirtual 22, 3) := by decide +kernel
theorem dX3_takesExit_23 : decode cX3_takesExit 23 = .ok (.iconst 1, 1) := by decide +kernel
theorem dX3_takesExit_24 : decode cX3_takesExit 24 = .ok (.ireturn, 1) := by decide +kernel
theorem dX3_takesSource_0 : decode cX3_takesSource 0 = .ok (.aload_n 0, 1) := by decide +kernel
theorem dX3_takesSource_1 : decode cX3_takesSource 1 = .ok (.getfield 12, 3) := by decide +kernel
theorem dX3_takesSource_4 : decode cX3_takesSource 4 = .ok (.iload_n 1, 1) := by decide +kernel
theorem dX3_takesSource_5 : decode cX3_takesSource 5 = .ok (.invokevirtual 60, 3) := by decide +kernel
theorem dX3_takesSource_8 : decode cX3_takesSource 8 = .ok (.ifCond .eq 14, 3) := by decide +kernel
theorem dX3_takesSource_11 : decode cX3_takesSource 11 = .ok (.iload_n 1, 1) := by decide +kernel
theorem dX3_takesSource_12 : decode cX3_takesSource 12 = .ok (.aload_n 0, 1) := by decide +kernel
theorem dX3_takesSource_13 : decode cX3_takesSource 13 = .ok (.getfield 12, 3) := by decide +kernel
theorem dX3_takesSource_16 : decode cX3_takesSource 16 = .ok (.invokevirtual 63, 3) := by decide +kernel
theorem dX3_takesSource_19 : decode cX3_takesSource 19 = .ok (.if_icmp .ne 5, 3) := by decide +kernel
theorem dX3_takesSource_22 : decode cX3_takesSource 22 = .ok (.iconst 0, 1) := by decide +kernel
theorem dX3_takesSource_23 : decode cX3_takesSource 23 = .ok (.ireturn, 1) := by decide +kernel
theorem dX3_takesSource_24 : decode cX3_takesSource 24 = .ok (.aload_n 0, 1) := by decide +kernel
theorem dX3_takesSource_25 : decode cX3_takesSource 25 = .ok (.iload_n 1, 1) := by decide +kernel
theorem dX3_takesSource_26 : decode cX3_takesSource 26 = .ok (.putfield 18, 3) := by decide +kernel
theorem dX3_takesSource_29 : decode cX3_takesSource 29 = .ok (.iconst 1, 1) := by decide +kernel
theorem dX3_takesSource_30 : decode cX3_takesSource 30 = .ok (.ireturn, 1) := by decide +kernel
theorem dX3_takesTarget_0 : decode cX3_takesTarget 0 = .ok (.aload_n 0, 1) := by decide +kernel
theorem dX3_takesTarget_1 : decode cX3_takesTarget 1 = .ok (.getfield 12, 3) := by decide +kernel
theorem dX3_takesTarget_4 : decode cX3_takesTarget 4 = .ok (.aload_n 0, 1) := by decide +kernel
theorem dX3_takesTarget_5 : decode cX3_takesTarget 5 = .ok (.getfield 18, 3) := by decide +kernel
theorem dX3_takesTarget_8 : decode cX3_takesTarget 8 = .ok (.iload_n 1, 1) := by decide +kernel
theorem dX3_takesTarget_9 : decode cX3_takesTarget 9 = .ok (.invokevirtual 67, 3) := by decide +kernel
theorem dX3_takesTarget_12 : decode cX3_takesTarget 12 = .ok (.ifCond .ne 5, 3) := by decide +kernel
theorem dX3_takesTarget_15 : decode cX3_takesTarget 15 = .ok (.iconst 0, 1) := by decide +kernel
theorem dX3_takesTarget_16 : decode cX3_takesTarget 16 = .ok (.ireturn, 1) := by decide +kernel
theorem dX3_takesTarget_17 : decode cX3_takesTarget 17 = .ok (.aload_n 0, 1) := by decide +kernel
theorem dX3_takesTarget_18 : decode cX3_takesTarget 18 = .ok (.getfield 12, 3) := by decide +kernel
theorem dX3_takesTarget_21 : decode cX3_takesTarget 21 = .ok (.aload_n 0, 1) := by decide +kernel
theorem dX3_takesTarget_22 : decode cX3_takesTarget 22 = .ok (.getfield 18, 3) := by decide +kernel
theorem dX3_takesTarget_25 : decode cX3_takesTarget 25 = .ok (.iload_n 1, 1) := by decide +kernel
theorem dX3_takesTarget_26 : decode cX3_takesTarget 26 = .ok (.invokevirtual 70, 3) := by decide +kernel
theorem dX3_takesTarget_29 : decode cX3_takesTarget 29 = .ok (.pop, 1) := by decide +kernel
theorem dX3_takesTarget_30 : decode cX3_takesTarget 30 = .ok (.iconst 1, 1) := by decide +kernel
theorem dX3_takesTarget_31 : decode cX3_takesTarget 31 = .ok (.ireturn, 1) := by decide +kernel
theorem dX4_init_0 : decode cX4_init 0 = .ok (.aload_n 0, 1) := by decide +kernel
theorem dX4_init_1 : decode cX4_init 1 = .ok (.invokespecial 3, 3) := by decide +kernel
theorem dX4_init_4 : decode cX4_init 4 = .ok (.aload_n 0, 1) := by decide +kernel
theorem dX4_init_5 : decode cX4_init 5 = .ok (.bipush 24, 2) := by decide +kernel
theorem dX4_init_7 : decode cX4_init 7 = .ok (.newarray .boolean, 2) := by decide +kernel
theorem dX4_init_9 : decode cX4_init 9 = .ok (.putfield 9, 3) := by decide +kernel
theorem dX4_init_12 : decode cX4_init 12 = .ok (.aload_n 0, 1) := by decide +kernel
theorem dX4_init_13 : decode cX4_init 13 = .ok (.bipush 12, 2) := by decide +kernel
theorem dX4_init_15 : decode cX4_init 15 = .ok (.newarray .int, 2) := by decide +kernel
theorem dX4_init_17 : decode cX4_init 17 = .ok (.putfield 15, 3) := by decide +kernel
theorem dX4_init_20 : decode cX4_init 20 = .ok (.aload_n 0, 1) := by decide +kernel
theorem dX4_init_21 : decode cX4_init 21 = .ok (.iconst 0, 1) := by decide +kernel
theorem dX4_init_22 : decode cX4_init 22 = .ok (.putfield 19, 3) := by decide +kernel
theorem dX4_init_25 : decode cX4_init 25 = .ok (.aload_n 0, 1) := by decide +kernel
theorem dX4_init_26 : decode cX4_init 26 = .ok (.bipush 12, 2) := by decide +kernel
theorem dX4_init_28 : decode cX4_init 28 = .ok (.newarray .int, 2) := by decide +kernel
theorem dX4_init_30 : decode cX4_init 30 = .ok (.putfield 23, 3) := by decide +kernel
theorem dX4_init_33 : decode cX4_init 33 = .ok (.aload_n 0, 1) := by decide +kernel
theorem dX4_init_34 : decode cX4_init 34 = .ok (.iconst 0, 1) := by decide +kernel
theorem dX4_init_35 : decode cX4_init 35 = .ok (.putfield 26, 3) := by decide +kernel
theorem dX4_init_38 : decode cX4_init 38 = .ok (.aload_n 0, 1) := by decide +kernel
theorem dX4_init_39 : decode cX4_init 39 = .ok (.bipush 12, 2) := by decide +kernel
theorem dX4_init_41 : decode cX4_init 41 = .ok (.newarray .int, 2) := by decide +kernel
theorem dX4_init_43 : decode cX4_init 43 = .ok (.putfield 29, 3) := by decide +kernel
theorem dX4_init_46 : decode cX4_init 46 = .ok (.aload_n 0, 1) := by decide +kernel
theorem dX4_init_47 : decode cX4_init 47 = .ok (.bipush 12, 2) := by decide +kernel
theorem dX4_init_49 : decode cX4_init 49 = .ok (.newarray .boolean, 2) := by decide +kernel
theorem dX4_init_51 : decode cX4_init 51 = .ok (.putfield 32, 3) := by decide +kernel
theorem dX4_init_54 : decode cX4_init 54 = .ok (.aload_n 0, 1) := by decide +kernel
theorem dX4_init_55 : decode cX4_init 55 = .ok (.bipush 12, 2) := by decide +kernel
theorem dX4_init_57 : decode cX4_init 57 = .ok (.newarray .boolean, 2) := by decide +kernel
theorem dX4_init_59 : decode cX4_init 59 = .ok (.putfield 35, 3) := by decide +kernel
theorem dX4_init_62 : decode cX4_init 62 = .ok (.aload_n 0, 1) := by decide +kernel
theorem dX4_init_63 : decode cX4_init 63 = .ok (.bipush 12, 2) := by decide +kernel
theorem dX4_init_65 : decode cX4_init 65 = .ok (.newarray .boolean, 2) := by decide +kernel
theorem dX4_init_67 : decode cX4_init 67 = .ok (.putfield 38, 3) := by decide +kernel
theorem dX4_init_70 : decode cX4_init 70 = .ok (.aload_n 0, 1) := by decide +kernel
theorem dX4_init_71 : decode cX4_init 71 = .ok (.aload_n 1, 1) := by decide +kernel
theorem dX4_init_72 : decode cX4_init 72 = .ok (.putfield 41, 3) := by decide +kernel
theorem dX4_init_75 : decode cX4_init 75 = .ok (.return_, 1) := by decide +kernel
theorem dX4_run_0 : decode cX4_run 0 = .ok (.aload_n 0, 1) := by decide +kernel
theorem dX4_run_1 : decode cX4_run 1 = .ok (.invokevirtual 45, 3) := by decide +kernel
theorem dX4_run_4 : decode cX4_run 4 = .ok (.aload_n 0, 1) := by decide +kernel
theorem dX4_run_5 : decode cX4_run 5 = .ok (.iconst 0, 1) := by decide +kernel
theorem dX4_run_6 : decode cX4_run 6 = .ok (.invokevirtual 48, 3) := by decide +kernel
theorem dX4_run_9 : decode cX4_run 9 = .ok (.iconst 0, 1) := by decide +kernel
theorem dX4_run_10 : decode cX4_run 10 = .ok (.istore_n 1, 1) := by decide +kernel
theorem dX4_run_11 : decode cX4_run 11 = .ok (.iload_n 1, 1) := by decide +kernel
theorem dX4_run_12 : decode cX4_run 12 = .ok (.bipush 36, 2) := by decide +kernel
theorem dX4_run_14 : decode cX4_run 14 = .ok (.if_icmp .ge 70, 3) := by decide +kernel
theorem dX4_run_17 : decode cX4_run 17 = .ok (.aload_n 0, 1) := by decide +kernel
theorem dX4_run_18 : decode cX4_run 18 = .ok (.getfield 26, 3) := by decide +kernel
theorem dX4_run_21 : decode cX4_run 21 = .ok (.ifCond .le 63, 3) := by decide +kernel
theorem dX4_run_24 : decode cX4_run 24 = .ok (.aload_n 0, 1) := by decide +kernel
theorem dX4_run_25 : decode cX4_run 25 = .ok (.getfield 23, 3) := by decide +kernel
theorem dX4_run_28 : decode cX4_run 28 = .ok (.aload_n 0, 1) := by decide +kernel
theorem dX4_run_29 : decode cX4_run 29 = .ok (.getfield 26, 3) := by decide +kernel
theorem dX4_run_32 : decode cX4_run 32 = .ok (.iconst 1, 1) := by decide +kernel
theorem dX4_run_33 : decode cX4_run 33 = .ok (.isub, 1) := by decide +kernel
theorem dX4_run_34 : decode cX4_run 34 = .ok (.iaload, 1) := by decide +kernel
theorem dX4_run_35 : decode cX4_run 35 = .ok (.istore_n 2, 1) := by decide +kernel
theorem dX4_run_36 : decode cX4_run 36 = .ok (.aload_n 0, 1) := by decide +kernel
theorem dX4_run_37 : decode cX4_run 37 = .ok (.getfield 41, 3) := by decide +kernel
theorem dX4_run_40 : decode cX4_run 40 = .ok (.iload_n 2, 1) := by decide +kernel
theorem dX4_run_41 : decode cX4_run 41 = .ok (.aload_n 0, 1) := by decide +kernel
theorem dX4_run_42 : decode cX4_run 42 = .ok (.getfield 29, 3) := by decide +kernel
theorem dX4_run_45 : decode cX4_run 45 = .ok (.iload_n 2, 1) := by decide +kernel
theorem dX4_run_46 : decode cX4_run 46 = .ok (.iaload, 1) := by decide +kernel
theorem dX4_run_47 : decode cX4_run 47 = .ok (.invokevirtual 52, 3) := by decide +kernel
theorem dX4_run_50 : decode cX4_run 50 = .ok (.istore_n 3, 1) := by decide +kernel
theorem dX4_run_51 : decode cX4_run 51 = .ok (.iload_n 3, 1) := by decide +kernel
theorem dX4_run_52 : decode cX4_run 52 = .ok (.iconst (-1), 1) := by decide +kernel
theorem dX4_run_53 : decode cX4_run 53 = .ok (.if_icmp .ne 11, 3) := by decide +kernel
theorem dX4_run_56 : decode cX4_run 56 = .ok (.aload_n 0, 1) := by decide +kernel
theorem dX4_run_57 : decode cX4_run 57 = .ok (.iload_n 2, 1) := by decide +kernel
theorem dX4_run_58 : decode cX4_run 58 = .ok (.invokevirtual 58, 3) := by decide +kernel
theorem dX4_run_61 : decode cX4_run 61 = .ok (.goto 17, 3) := by decide +kernel
theorem dX4_run_64 : decode cX4_run 64 = .ok (.aload_n 0, 1) := by decide +kernel
theorem dX4_run_65 : decode cX4_run 65 = .ok (.getfield 29, 3) := by decide +kernel
theorem dX4_run_68 : decode cX4_run 68 = .ok (.iload_n 2, 1) := by decide +kernel
theorem dX4_run_69 : decode cX4_run 69 = .ok (.iload_n 3, 1) := by decide +kernel
theorem dX4_run_70 : decode cX4_run 70 = .ok (.iconst 1, 1) := by decide +kernel
theorem dX4_run_71 : decode cX4_run 71 = .ok (.iadd, 1) := by decide +kernel
theorem dX4_run_72 : decode cX4_run 72 = .ok (.iastore, 1) := by decide +kernel
theorem dX4_run_73 : decode cX4_run 73 = .ok (.aload_n 0, 1) := by decide +kernel
theorem dX4_run_74 : decode cX4_run 74 = .ok (.iload_n 3, 1) := by decide +kernel
theorem dX4_run_75 : decode cX4_run 75 = .ok (.invokevirtual 61, 3) := by decide +kernel
theorem dX4_run_78 : decode cX4_run 78 = .ok (.iinc 1 1, 3) := by decide +kernel
theorem dX4_run_81 : decode cX4_run 81 = .ok (.goto (-70), 3) := by decide +kernel
theorem dX4_run_84 : decode cX4_run 84 = .ok (.return_, 1) := by decide +kernel
theorem dX4_prepare_0 : decode cX4_prepare 0 = .ok (.aload_n 0, 1) := by decide +kernel
theorem dX4_prepare_1 : decode cX4_prepare 1 = .ok (.iconst 0, 1) := by decide +kernel
theorem dX4_prepare_2 : decode cX4_prepare 2 = .ok (.putfield 26, 3) := by decide +kernel
theorem dX4_prepare_5 : decode cX4_prepare 5 = .ok (.aload_n 0, 1) := by decide +kernel
theorem dX4_prepare_6 : decode cX4_prepare 6 = .ok (.iconst 0, 1) := by decide +kernel
theorem dX4_prepare_7 : decode cX4_prepare 7 = .ok (.putfield 19, 3) := by decide +kernel
theorem dX4_prepare_10 : decode cX4_prepare 10 = .ok (.iconst 0, 1) := by decide +kernel
theorem dX4_prepare_11 : decode cX4_prepare 11 = .ok (.istore_n 1, 1) := by decide +kernel
theorem dX4_prepare_12 : decode cX4_prepare 12 = .ok (.iload_n 1, 1) := by decide +kernel
theorem dX4_prepare_13 : decode cX4_prepare 13 = .ok (.bipush 12, 2) := by decide +kernel
theorem dX4_prepare_15 : decode cX4_prepare 15 = .ok (.if_icmp .ge 30, 3) := by decide +kernel
theorem dX4_prepare_18 : decode cX4_prepare 18 = .ok (.aload_n 0, 1) := by decide +kernel
theorem dX4_prepare_19 : decode cX4_prepare 19 = .ok (.getfield 29, 3) := by decide +kernel
theorem dX4_prepare_22 : decode cX4_prepare 22 = .ok (.iload_n 1, 1) := by decide +kernel
theorem dX4_prepare_23 : decode cX4_prepare 23 = .ok (.iconst 0, 1) := by decide +kernel
theorem dX4_prepare_24 : decode cX4_prepare 24 = .ok (.iastore, 1) := by decide +kernel
theorem dX4_prepare_25 : decode cX4_prepare 25 = .ok (.aload_n 0, 1) := by decide +kernel
theorem dX4_prepare_26 : decode cX4_prepare 26 = .ok (.getfield 32, 3) := by decide +kernel
theorem dX4_prepare_29 : decode cX4_prepare 29 = .ok (.iload_n 1, 1) := by decide +kernel
theorem dX4_prepare_30 : decode cX4_prepare 30 = .ok (.iconst 0, 1) := by decide +kernel
theorem dX4_prepare_31 : decode cX4_prepare 31 = .ok (.bastore, 1) := by decide +kernel
theorem dX4_prepare_32 : decode cX4_prepare 32 = .ok (.aload_n 0, 1) := by decide +kernel
theorem dX4_prepare_33 : decode cX4_prepare 33 = .ok (.getfield 35, 3) := by decide +kernel
theorem dX4_prepare_36 : decode cX4_prepare 36 = .ok (.iload_n 1, 1) := by decide +kernel
theorem dX4_prepare_37 : decode cX4_prepare 37 = .ok (.iconst 0, 1) := by decide +kernel
theorem dX4_prepare_38 : decode cX4_prepare 38 = .ok (.bastore, 1) := by decide +kernel
theorem dX4_prepare_39 : decode cX4_prepare 39 = .ok (.iinc 1 1, 3) := by decide +kernel
theorem dX4_prepare_42 : decode cX4_prepare 42 = .ok (.goto (-30), 3) := by decide +kernel
theorem dX4_prepare_45 : decode cX4_prepare 45 = .ok (.iconst 0, 1) := by decide +kernel
theorem dX4_prepare_46 : decode cX4_prepare 46 = .ok (.istore_n 1, 1) := by decide +kernel
theorem dX4_prepare_47 : decode cX4_prepare 47 = .ok (.iload_n 1, 1) := by decide +kernel
theorem dX4_prepare_48 : decode cX4_prepare 48 = .ok (.bipush 24, 2) := by decide +kernel
theorem dX4_prepare_50 : decode cX4_prepare 50 = .ok (.if_icmp .ge 16, 3) := by decide +kernel
theorem dX4_prepare_53 : decode cX4_prepare 53 = .ok (.aload_n 0, 1) := by decide +kernel
theorem dX4_prepare_54 : decode cX4_prepare 54 = .ok (.getfield 9, 3) := by decide +kernel
theorem dX4_prepare_57 : decode cX4_prepare 57 = .ok (.iload_n 1, 1) := by decide +kernel
theorem dX4_prepare_58 : decode cX4_prepare 58 = .ok (.iconst 0, 1) := by decide +kernel
theorem dX4_prepare_59 : decode cX4_prepare 59 = .ok (.bastore, 1) := by decide +kernel
theorem dX4_prepare_60 : decode cX4_prepare 60 = .ok (.iinc 1 1, 3) := by decide +kernel
theorem dX4_prepare_63 : decode cX4_prepare 63 = .ok (.goto (-16), 3) := by decide +kernel
theorem dX4_prepare_66 : decode cX4_prepare 66 = .ok (.return_, 1) := by decide +kernel
theorem dX4_enter_0 : decode cX4_enter 0 = .ok (.aload_n 0, 1) := by decide +kernel
theorem dX4_enter_1 : decode cX4_enter 1 = .ok (.getfield 32, 3) := by decide +kernel
theorem dX4_enter_4 : decode cX4_enter 4 = .ok (.iload_n 1, 1) := by decide +kernel
theorem dX4_enter_5 : decode cX4_enter 5 = .ok (.iconst 1, 1) := by decide +kernel
theorem dX4_enter_6 : decode cX4_enter 6 = .ok (.bastore, 1) := by decide +kernel
theorem dX4_enter_7 : decode cX4_enter 7 = .ok (.aload_n 0, 1) := by decide +kernel
theorem dX4_enter_8 : decode cX4_enter 8 = .ok (.getfield 35, 3) := by decide +kernel
theorem dX4_enter_11 : decode cX4_enter 11 = .ok (.iload_n 1, 1) := by decide +kernel
theorem dX4_enter_12 : decode cX4_enter 12 = .ok (.iconst 1, 1) := by decide +kernel
theorem dX4_enter_13 : decode cX4_enter 13 = .ok (.bastore, 1) := by decide +kernel
theorem dX4_enter_14 : decode cX4_enter 14 = .ok (.aload_n 0, 1) := by decide +kernel
theorem dX4_enter_15 : decode cX4_enter 15 = .ok (.getfield 23, 3) := by decide +kernel
theorem dX4_enter_18 : decode cX4_enter 18 = .ok (.aload_n 0, 1) := by decide +kernel
theorem dX4_enter_19 : decode cX4_enter 19 = .ok (.getfield 26, 3) := by decide +kernel
theorem dX4_enter_22 : decode cX4_enter 22 = .ok (.iload_n 1, 1) := by decide +kernel
theorem dX4_enter_23 : decode cX4_enter 23 = .ok (.iastore, 1) := by decide +kernel
theorem dX4_enter_24 : decode cX4_enter 24 = .ok (.aload_n 0, 1) := by decide +kernel
theorem dX4_enter_25 : decode cX4_enter 25 = .ok (.dup, 1) := by decide +kernel
theorem dX4_enter_26 : decode cX4_enter 26 = .ok (.getfield 26, 3) := by decide +kernel
theorem dX4_enter_29 : decode cX4_enter 29 = .ok (.iconst 1, 1) := by decide +kernel
theorem dX4_enter_30 : decode cX4_enter 30 = .ok (.iadd, 1) := by decide +kernel
theorem dX4_enter_31 : decode cX4_enter 31 = .ok (.putfield 26, 3) := by decide +kernel
theorem dX4_enter_34 : decode cX4_enter 34 = .ok (.return_, 1) := by decide +kernel
theorem dX4_leave_0 : decode cX4_leave 0 = .ok (.aload_n 0, 1) := by decide +kernel
theorem dX4_leave_1 : decode cX4_leave 1 = .ok (.getfield 35, 3) := by decide +kernel
theorem dX4_leave_4 : decode cX4_leave 4 = .ok (.iload_n 1, 1) := by decide +kernel
theorem dX4_leave_5 : decode cX4_leave 5 = .ok (.iconst 0, 1) := by decide +kernel
theorem dX4_leave_6 : decode cX4_leave 6 = .ok (.bastore, 1) := by decide +kernel
theorem dX4_leave_7 : decode cX4_leave 7 = .ok (.aload_n 0, 1) := by decide +kernel
theorem dX4_leave_8 : decode cX4_leave 8 = .ok (.dup, 1) := by decide +kernel
theorem dX4_leave_9 : decode cX4_leave 9 = .ok (.getfield 26, 3) := by decide +kernel
theorem dX4_leave_12 : decode cX4_leave 12 = .ok (.iconst 1, 1) := by decide +kernel
theorem dX4_leave_13 : decode cX4_leave 13 = .ok (.isub, 1) := by decide +kernel
theorem dX4_leave_14 : decode cX4_leave 14 = .ok (.putfield 26, 3) := by decide +kernel
theorem dX4_leave_17 : decode cX4_leave 17 = .ok (.aload_n 0, 1) := by decide +kernel
theorem dX4_leave_18 : decode cX4_leave 18 = .ok (.getfield 15, 3) := by decide +kernel
theorem dX4_leave_21 : decode cX4_leave 21 = .ok (.aload_n 0, 1) := by decide +kernel
theorem dX4_leave_22 : decode cX4_leave 22 = .ok (.getfield 19, 3) := by decide +kernel
theorem dX4_leave_25 : decode cX4_leave 25 = .ok (.iload_n 1, 1) := by decide +kernel
theorem dX4_leave_26 : decode cX4_leave 26 = .ok (.iastore, 1) := by decide +kernel
theorem dX4_leave_27 : decode cX4_leave 27 = .ok (.aload_n 0, 1) := by decide +kernel
theorem dX4_leave_28 : decode cX4_leave 28 = .ok (.dup, 1) := by decide +kernel
theorem dX4_leave_29 : decode cX4_leave 29 = .ok (.getfield 19, 3) := by decide +kernel
theorem dX4_leave_32 : decode cX4_leave 32 = .ok (.iconst 1, 1) := by decide +kernel
theorem dX4_leave_33 : decode cX4_leave 33 = .ok (.iadd, 1) := by decide +kernel
theorem dX4_leave_34 : decode cX4_leave 34 = .ok (.putfield 19, 3) := by decide +kernel
theorem dX4_leave_37 : decode cX4_leave 37 = .ok (.return_, 1) := by decide +kernel
theorem dX4_follow_0 : decode cX4_follow 0 = .ok (.aload_n 0, 1) := by decide +kernel
theorem dX4_follow_1 : decode cX4_follow 1 = .ok (.getfield 41, 3) := by decide +kernel
theorem dX4_follow_4 : decode cX4_follow 4 = .ok (.getfield 64, 3) := by decide +kernel
theorem dX4_follow_7 : decode cX4_follow 7 = .ok (.iload_n 1, 1) := by decide +kernel
theorem dX4_follow_8 : decode cX4_follow 8 = .ok (.iaload, 1) := by decide +kernel
theorem dX4_follow_9 : decode cX4_follow 9 = .ok (.istore_n 2, 1) := by decide +kernel
theorem dX4_follow_10 : decode cX4_follow 10 = .ok (.aload_n 0, 1) := by decide +kernel
theorem dX4_follow_11 : decode cX4_follow 11 = .ok (.getfield 35, 3) := by decide +kernel
theorem dX4_follow_14 : decode cX4_follow 14 = .ok (.iload_n 2, 1) := by decide +kernel
theorem dX4_follow_15 : decode cX4_follow 15 = .ok (.baload, 1) := by decide +kernel
theorem dX4_follow_16 : decode cX4_follow 16 = .ok (.ifCond .eq 13, 3) := by decide +kernel
theorem dX4_follow_19 : decode cX4_follow 19 = .ok (.aload_n 0, 1) := by decide +kernel
theorem dX4_follow_20 : decode cX4_follow 20 = .ok (.getfield 9, 3) := by decide +kernel
theorem dX4_follow_23 : decode cX4_follow 23 = .ok (.iload_n 1, 1) := by decide +kernel
theorem dX4_follow_24 : decode cX4_follow 24 = .ok (.iconst 1, 1) := by decide +kernel
theorem dX4_follow_25 : decode cX4_follow 25 = .ok (.bastore, 1) := by decide +kernel
theorem dX4_follow_26 : decode cX4_follow 26 = .ok (.goto 17, 3) := by decide +kernel
theorem dX4_follow_29 : decode cX4_follow 29 = .ok (.aload_n 0, 1) := by decide +kernel
theorem dX4_follow_30 : decode cX4_follow 30 = .ok (.getfield 32, 3) := by decide +kernel
theorem dX4_follow_33 : decode cX4_follow 33 = .ok (.iload_n 2, 1) := by decide +kernel
theorem dX4_follow_34 : decode cX4_follow 34 = .ok (.baload, 1) := by decide +kernel
theorem dX4_follow_35 : decode cX4_follow 35 = .ok (.ifCond .ne 8, 3) := by decide +kernel
theorem dX4_follow_38 : decode cX4_follow 38 = .ok (.aload_n 0, 1) := by decide +kernel
theorem dX4_follow_39 : decode cX4_follow 39 = .ok (.iload_n 2, 1) := by decide +kernel
theorem dX4_follow_40 : decode cX4_follow 40 = .ok (.invokevirtual 48, 3) := by decide +kernel
theorem dX4_follow_43 : decode cX4_follow 43 = .ok (.return_, 1) := by decide +kernel
theorem dX4_allNodesReached_0 : decode cX4_allNodesReached 0 = .ok (.aload_n 0, 1) := by decide +kernel
theorem dX4_allNodesReached_1 : decode cX4_allNodesReached 1 = .ok (.getfield 19, 3) := by decide +kernel
theorem dX4_allNodesReached_4 : decode cX4_allNodesReached 4 = .ok (.aload_n 0, 1) := by decide +kernel
theorem dX4_allNodesReached_5 : decode cX4_allNodesReached 5 = .ok (.getfield 41, 3) := by decide +kernel
theorem dX4_allNodesReached_8 : decode cX4_allNodesReached 8 = .ok (.getfield 67, 3) := by decide +kernel
theorem dX4_allNodesReached_11 : decode cX4_allNodesReached 11 = .ok (.if_icmp .ne 7, 3) := by decide +kernel
theorem dX4_allNodesReached_14 : decode cX4_allNodesReached 14 = .ok (.iconst 1, 1) := by decide +kernel
theorem dX4_allNodesReached_15 : decode cX4_allNodesReached 15 = .ok (.goto 4, 3) := by decide +kernel
theorem dX4_allNodesReached_18 : decode cX4_allNodesReached 18 = .ok (.iconst 0, 1) := by decide +kernel
theorem dX4_allNodesReached_19 : decode cX4_allNodesReached 19 = .ok (.ireturn, 1) := by decide +kernel
theorem dX4_exitReachedFromAllNodes_0 : decode cX4_exitReachedFromAllNodes 0 = .ok (.iconst 0, 1) := by decide +kernel
theorem dX4_exitReachedFromAllNodes_1 : decode cX4_exitReachedFromAllNodes 1 = .ok (.istore_n 1, 1) := by decide +kernel
theorem dX4_exitReachedFromAllNodes_2 : decode cX4_exitReachedFromAllNodes 2 = .ok (.iload_n 1, 1) := by decide +kernel
theorem dX4_exitReachedFromAllNodes_3 : decode cX4_exitReachedFromAllNodes 3 = .ok (.aload_n 0, 1) := by decide +kernel
theorem dX4_exitReachedFromAllNodes_4 : decode cX4_exitReachedFromAllNodes 4 = .ok (.getfield 41, 3) := by decide +kernel
theorem dX4_exitReachedFromAllNodes_7 : decode cX4_exitReachedFromAllNodes 7 = .ok (.getfield 67, 3) := by decide +kernel
theorem dX4_exitReachedFromAllNodes_10 : decode cX4_exitReachedFromAllNodes 10 = .ok (.if_icmp .ge 31, 3) := by decide +kernel
theorem dX4_exitReachedFromAllNodes_13 : decode cX4_exitReachedFromAllNodes 13 = .ok (.aload_n 0, 1) := by decide +kernel
theorem dX4_exitReachedFromAllNodes_14 : decode cX4_exitReachedFromAllNodes 14 = .ok (.getfield 38, 3) := by decide +kernel
theorem dX4_exitReachedFromAllNodes_17 : decode cX4_exitReachedFromAllNodes 17 = .ok (.iload_n 1, 1) := by decide +kernel
theorem dX4_exitReachedFromAllNodes_18 : decode cX4_exitReachedFromAllNodes 18 = .ok (.iload_n 1, 1) := by decide +kernel
theorem dX4_exitReachedFromAllNodes_19 : decode cX4_exitReachedFromAllNodes 19 = .ok (.aload_n 0, 1) := by decide +kernel
theorem dX4_exitReachedFromAllNodes_20 : decode cX4_exitReachedFromAllNodes 20 = .ok (.getfield 41, 3) := by decide +kernel
theorem dX4_exitReachedFromAllNodes_23 : decode cX4_exitReachedFromAllNodes 23 = .ok (.invokevirtual 70, 3) := by decide +kernel
theorem dX4_exitReachedFromAllNodes_26 : decode cX4_exitReachedFromAllNodes 26 = .ok (.if_icmp .ne 7, 3) := by decide +kernel
theorem dX4_exitReachedFromAllNodes_29 : decode cX4_exitReachedFromAllNodes 29 = .ok (.iconst 1, 1) := by decide +kernel
theorem dX4_exitReachedFromAllNodes_30 : decode cX4_exitReachedFromAllNodes 30 = .ok (.goto 4, 3) := by decide +kernel
theorem dX4_exitReachedFromAllNodes_33 : decode cX4_exitReachedFromAllNodes 33 = .ok (.iconst 0, 1) := by decide +kernel
theorem dX4_exitReachedFromAllNodes_34 : decode cX4_exitReachedFromAllNodes 34 = .ok (.bastore, 1) := by decide +kernel
theorem dX4_exitReachedFromAllNodes_35 : decode cX4_exitReachedFromAllNodes 35 = .ok (.iinc 1 1, 3) := by decide +kernel
theorem dX4_exitReachedFromAllNodes_38 : decode cX4_exitReachedFromAllNodes 38 = .ok (.goto (-36), 3) := by decide +kernel
theorem dX4_exitReachedFromAllNodes_41 : decode cX4_exitReachedFromAllNodes 41 = .ok (.iconst 1, 1) := by decide +kernel
theorem dX4_exitReachedFromAllNodes_42 : decode cX4_exitReachedFromAllNodes 42 = .ok (.istore_n 1, 1) := by decide +kernel
theorem dX4_exitReachedFromAllNodes_43 : decode cX4_exitReachedFromAllNodes 43 = .ok (.iload_n 1, 1) := by decide +kernel
theorem dX4_exitReachedFromAllNodes_44 : decode cX4_exitReachedFromAllNodes 44 = .ok (.aload_n 0, 1) := by decide +kernel
theorem dX4_exitReachedFromAllNodes_45 : decode cX4_exitReachedFromAllNodes 45 = .ok (.getfield 41, 3) := by decide +kernel
theorem dX4_exitReachedFromAllNodes_48 : decode cX4_exitReachedFromAllNodes 48 = .ok (.getfield 67, 3) := by decide +kernel
theorem dX4_exitReachedFromAllNodes_51 : decode cX4_exitReachedFromAllNodes 51 = .ok (.if_icmp .ge 13, 3) := by decide +kernel
theorem dX4_exitReachedFromAllNodes_54 : decode cX4_exitReachedFromAllNodes 54 = .ok (.aload_n 0, 1) := by decide +kernel
theorem dX4_exitReachedFromAllNodes_55 : decode cX4_exitReachedFromAllNodes 55 = .ok (.invokevirtual 74, 3) := by decide +kernel
theorem dX4_exitReachedFromAllNodes_58 : decode cX4_exitReachedFromAllNodes 58 = .ok (.iinc 1 1, 3) := by decide +kernel
theorem dX4_exitReachedFromAllNodes_61 : decode cX4_exitReachedFromAllNodes 61 = .ok (.goto (-18), 3) := by decide +kernel
theorem dX4_exitReachedFromAllNodes_64 : decode cX4_exitReachedFromAllNodes 64 = .ok (.iconst 0, 1) := by decide +kernel
theorem dX4_exitReachedFromAllNodes_65 : decode cX4_exitReachedFromAllNodes 65 = .ok (.istore_n 1, 1) := by decide +kernel
theorem dX4_exitReachedFromAllNodes_66 : decode cX4_exitReachedFromAllNodes 66 = .ok (.iload_n 1, 1) := by decide +kernel
theorem dX4_exitReachedFromAllNodes_67 : decode cX4_exitReachedFromAllNodes 67 = .ok (.aload_n 0, 1) := by decide +kernel
theorem dX4_exitReachedFromAllNodes_68 : decode cX4_exitReachedFromAllNodes 68 = .ok (.getfield 41, 3) := by decide +kernel
theorem dX4_exitReachedFromAllNodes_71 : decode cX4_exitReachedFromAllNodes 71 = .ok (.getfield 67, 3) := by decide +kernel
theorem dX4_exitReachedFromAllNodes_74 : decode cX4_exitReachedFromAllNodes 74 = .ok (.if_icmp .ge 20, 3) := by decide +kernel
theorem dX4_exitReachedFromAllNodes_77 : decode cX4_exitReachedFromAllNodes 77 = .ok (.aload_n 0, 1) := by decide +kernel
theorem dX4_exitReachedFromAllNodes_78 : decode cX4_exitReachedFromAllNodes 78 = .ok (.getfield 38, 3) := by decide +kernel
theorem dX4_exitReachedFromAllNodes_81 : decode cX4_exitReachedFromAllNodes 81 = .ok (.iload_n 1, 1) := by decide +kernel
theorem dX4_exitReachedFromAllNodes_82 : decode cX4_exitReachedFromAllNodes 82 = .ok (.baload, 1) := by decide +kernel
theorem dX4_exitReachedFromAllNodes_83 : decode cX4_exitReachedFromAllNodes 83 = .ok (.ifCond .ne 5, 3) := by decide +kernel
theorem dX4_exitReachedFromAllNodes_86 : decode cX4_exitReachedFromAllNodes 86 = .ok (.iconst 0, 1) := by decide +kernel
theorem dX4_exitReachedFromAllNodes_87 : decode cX4_exitReachedFromAllNodes 87 = .ok (.ireturn, 1) := by decide +kernel
theorem dX4_exitReachedFromAllNodes_88 : decode cX4_exitReachedFromAllNodes 88 = .ok (.iinc 1 1, 3) := by decide +kernel
theorem dX4_exitReachedFromAllNodes_91 : decode cX4_exitReachedFromAllNodes 91 = .ok (.goto (-25), 3) := by decide +kernel
theorem dX4_exitReachedFromAllNodes_94 : decode cX4_exitReachedFromAllNodes 94 = .ok (.iconst 1, 1) := by decide +kernel
theorem dX4_exitReachedFromAllNodes_95 : decode cX4_exitReachedFromAllNodes 95 = .ok (.ireturn, 1) := by decide +kernel
theorem dX4_spreadLeadsToExit_0 : decode cX4_spreadLeadsToExit 0 = .ok (.iconst 0, 1) := by decide +kernel
theorem dX4_spreadLeadsToExit_1 : decode cX4_spreadLeadsToExit 1 = .ok (.istore_n 1, 1) := by decide +kernel
theorem dX4_spreadLeadsToExit_2 : decode cX4_spreadLeadsToExit 2 = .ok (.iload_n 1, 1) := by decide +kernel
theorem dX4_spreadLeadsToExit_3 : decode cX4_spreadLeadsToExit 3 = .ok (.aload_n 0, 1) := by decide +kernel
theorem dX4_spreadLeadsToExit_4 : decode cX4_spreadLeadsToExit 4 = .ok (.getfield 41, 3) := by decide +kernel
theorem dX4_spreadLeadsToExit_7 : decode cX4_spreadLeadsToExit 7 = .ok (.getfield 77, 3) := by decide +kernel
theorem dX4_spreadLeadsToExit_10 : decode cX4_spreadLeadsToExit 10 = .ok (.if_icmp .ge 41, 3) := by decide +kernel
theorem dX4_spreadLeadsToExit_13 : decode cX4_spreadLeadsToExit 13 = .ok (.aload_n 0, 1) := by decide +kernel
theorem dX4_spreadLeadsToExit_14 : decode cX4_spreadLeadsToExit 14 = .ok (.getfield 38, 3) := by decide +kernel
theorem dX4_spreadLeadsToExit_17 : decode cX4_spreadLeadsToExit 17 = .ok (.aload_n 0, 1) := by decide +kernel
theorem dX4_spreadLeadsToExit_18 : decode cX4_spreadLeadsToExit 18 = .ok (.getfield 41, 3) := by decide +kernel
theorem dX4_spreadLeadsToExit_21 : decode cX4_spreadLeadsToExit 21 = .ok (.getfield 64, 3) := by decide +kernel
theorem dX4_spreadLeadsToExit_24 : decode cX4_spreadLeadsToExit 24 = .ok (.iload_n 1, 1) := by decide +kernel
theorem dX4_spreadLeadsToExit_25 : decode cX4_spreadLeadsToExit 25 = .ok (.iaload, 1) := by decide +kernel
theorem dX4_spreadLeadsToExit_26 : decode cX4_spreadLeadsToExit 26 = .ok (.baload, 1) := by decide +kernel
theorem dX4_spreadLeadsToExit_27 : decode cX4_spreadLeadsToExit 27 = .ok (.ifCond .eq 18, 3) := by decide +kernel
theorem dX4_spreadLeadsToExit_30 : decode cX4_spreadLeadsToExit 30 = .ok (.aload_n 0, 1) := by decide +kernel
theorem dX4_spreadLeadsToExit_31 : decode cX4_spreadLeadsToExit 31 = .ok (.getfield 38, 3) := by decide +kernel
theorem dX4_spreadLeadsToExit_34 : decode cX4_spreadLeadsToExit 34 = .ok (.aload_n 0, 1) := by decide +kernel
theorem dX4_spreadLeadsToExit_35 : decode cX4_spreadLeadsToExit 35 = .ok (.getfield 41, 3) := by decide +kernel
theorem dX4_spreadLeadsToExit_38 : decode cX4_spreadLeadsToExit 38 = .ok (.getfield 80, 3) := by decide +kernel
theorem dX4_spreadLeadsToExit_41 : decode cX4_spreadLeadsToExit 41 = .ok (.iload_n 1, 1) := by decide +kernel
theorem dX4_spreadLeadsToExit_42 : decode cX4_spreadLeadsToExit 42 = .ok (.iaload, 1) := by decide +kernel
theorem dX4_spreadLeadsToExit_43 : decode cX4_spreadLeadsToExit 43 = .ok (.iconst 1, 1) := by decide +kernel
theorem dX4_spreadLeadsToExit_44 : decode cX4_spreadLeadsToExit 44 = .ok (.bastore, 1) := by decide +kernel
theorem dX4_spreadLeadsToExit_45 : decode cX4_spreadLeadsToExit 45 = .ok (.iinc 1 1, 3) := by decide +kernel
theorem dX4_spreadLeadsToExit_48 : decode cX4_spreadLeadsToExit 48 = .ok (.goto (-46), 3) := by decide +kernel
theorem dX4_spreadLeadsToExit_51 : decode cX4_spreadLeadsToExit 51 = .ok (.return_, 1) := by decide +kernel
theorem dX5_init_0 : decode cX5_init 0 = .ok (.aload_n 0, 1) := by decide +kernel
theorem dX5_init_1 : decode cX5_init 1 = .ok (.invokespecial 3, 3) := by decide +kernel
theorem dX5_init_4 : decode cX5_init 4 = .ok (.aload_n 0, 1) := by decide +kernel
theorem dX5_init_5 : decode cX5_init 5 = .ok (.bipush 60, 2) := by decide +kernel
theorem dX5_init_7 : decode cX5_init 7 = .ok (.newarray .int, 2) := by decide +kernel
theorem dX5_init_9 : decode cX5_init 9 = .ok (.putfield 9, 3) := by decide +kernel
theorem dX5_init_12 : decode cX5_init 12 = .ok (.aload_n 0, 1) := by decide +kernel
theorem dX5_init_13 : decode cX5_init 13 = .ok (.iconst 0, 1) := by decide +kernel
theorem dX5_init_14 : decode cX5_init 14 = .ok (.putfield 15, 3) := by decide +kernel
theorem dX5_init_17 : decode cX5_init 17 = .ok (.return_, 1) := by decide +kernel
theorem dX5_isFull_0 : decode cX5_isFull 0 = .ok (.aload_n 0, 1) := by decide +kernel
theorem dX5_isFull_1 : decode cX5_isFull 1 = .ok (.getfield 15, 3) := by decide +kernel
theorem dX5_isFull_4 : decode cX5_isFull 4 = .ok (.bipush 60, 2) := by decide +kernel
theorem dX5_isFull_6 : decode cX5_isFull 6 = .ok (.if_icmp .lt 7, 3) := by decide +kernel
theorem dX5_isFull_9 : decode cX5_isFull 9 = .ok (.iconst 1, 1) := by decide +kernel
theorem dX5_isFull_10 : decode cX5_isFull 10 = .ok (.goto 4, 3) := by decide +kernel
theorem dX5_isFull_13 : decode cX5_isFull 13 = .ok (.iconst 0, 1) := by decide +kernel
theorem dX5_isFull_14 : decode cX5_isFull 14 = .ok (.ireturn, 1) := by decide +kernel
theorem dX5_add_0 : decode cX5_add 0 = .ok (.aload_n 0, 1) := by decide +kernel
theorem dX5_add_1 : decode cX5_add 1 = .ok (.getfield 9, 3) := by decide +kernel
theorem dX5_add_4 : decode cX5_add 4 = .ok (.aload_n 0, 1) := by decide +kernel
theorem dX5_add_5 : decode cX5_add 5 = .ok (.getfield 15, 3) := by decide +kernel
theorem dX5_add_8 : decode cX5_add 8 = .ok (.iload_n 1, 1) := by decide +kernel
theorem dX5_add_9 : decode cX5_add 9 = .ok (.iastore, 1) := by decide +kernel
theorem dX5_add_10 : decode cX5_add 10 = .ok (.aload_n 0, 1) := by decide +kernel
theorem dX5_add_11 : decode cX5_add 11 = .ok (.dup, 1) := by decide +kernel
theorem dX5_add_12 : decode cX5_add 12 = .ok (.getfield 15, 3) := by decide +kernel
theorem dX5_add_15 : decode cX5_add 15 = .ok (.iconst 1, 1) := by decide +kernel
theorem dX5_add_16 : decode cX5_add 16 = .ok (.iadd, 1) := by decide +kernel
theorem dX5_add_17 : decode cX5_add 17 = .ok (.putfield 15, 3) := by decide +kernel
theorem dX5_add_20 : decode cX5_add 20 = .ok (.return_, 1) := by decide +kernel
theorem dX5_nodeAt_0 : decode cX5_nodeAt 0 = .ok (.aload_n 0, 1) := by decide +kernel
theorem dX5_nodeAt_1 : decode cX5_nodeAt 1 = .ok (.getfield 9, 3) := by decide +kernel
theorem dX5_nodeAt_4 : decode cX5_nodeAt 4 = .ok (.iload_n 1, 1) := by decide +kernel
theorem dX5_nodeAt_5 : decode cX5_nodeAt 5 = .ok (.iaload, 1) := by decide +kernel
theorem dX5_nodeAt_6 : decode cX5_nodeAt 6 = .ok (.bipush 97, 2) := by decide +kernel
theorem dX5_nodeAt_8 : decode cX5_nodeAt 8 = .ok (.isub, 1) := by decide +kernel
theorem dX5_nodeAt_9 : decode cX5_nodeAt 9 = .ok (.ireturn, 1) := by decide +kernel
theorem dX6_init_0 : decode cX6_init 0 = .ok (.aload_n 0, 1) := by decide +kernel
theorem dX6_init_1 : decode cX6_init 1 = .ok (.invokespecial 3, 3) := by decide +kernel
theorem dX6_init_4 : decode cX6_init 4 = .ok (.aload_n 0, 1) := by decide +kernel
theorem dX6_init_5 : decode cX6_init 5 = .ok (.bipush 72, 2) := by decide +kernel
theorem dX6_init_7 : decode cX6_init 7 = .ok (.newarray .int, 2) := by decide +kernel
theorem dX6_init_9 : decode cX6_init 9 = .ok (.putfield 9, 3) := by decide +kernel
theorem dX6_init_12 : decode cX6_init 12 = .ok (.aload_n 0, 1) := by decide +kernel
theorem dX6_init_13 : decode cX6_init 13 = .ok (.iconst 0, 1) := by decide +kernel
theorem dX6_init_14 : decode cX6_init 14 = .ok (.putfield 15, 3) := by decide +kernel
theorem dX6_init_17 : decode cX6_init 17 = .ok (.aload_n 0, 1) := by decide +kernel
theorem dX6_init_18 : decode cX6_init 18 = .ok (.iconst 0, 1) := by decide +kernel
theorem dX6_init_19 : decode cX6_init 19 = .ok (.putfield 19, 3) := by decide +kernel
theorem dX6_init_22 : decode cX6_init 22 = .ok (.aload_n 0, 1) := by decide +kernel
theorem dX6_init_23 : decode cX6_init 23 = .ok (.bipush 72, 2) := by decide +kernel
theorem dX6_init_25 : decode cX6_init 25 = .ok (.newarray .int, 2) := by decide +kernel
theorem dX6_init_27 : decode cX6_init 27 = .ok (.putfield 22, 3) := by decide +kernel
theorem dX6_init_30 : decode cX6_init 30 = .ok (.aload_n 0, 1) := by decide +kernel
theorem dX6_init_31 : decode cX6_init 31 = .ok (.iconst 0, 1) := by decide +kernel
theorem dX6_init_32 : decode cX6_init 32 = .ok (.putfield 25, 3) := by decide +kernel
theorem dX6_init_35 : decode cX6_init 35 = .ok (.aload_n 0, 1) := by decide +kernel
theorem dX6_init_36 : decode cX6_init 36 = .ok (.bipush 12, 2) := by decide +kernel
theorem dX6_init_38 : decode cX6_init 38 = .ok (.newarray .int, 2) := by decide +kernel
theorem dX6_init_40 : decode cX6_init 40 = .ok (.putfield 28, 3) := by decide +kernel
theorem dX6_init_43 : decode cX6_init 43 = .ok (.aload_n 0, 1) := by decide +kernel
theorem dX6_init_44 : decode cX6_init 44 = .ok (.bipush 12, 2) := by decide +kernel
theorem dX6_init_46 : decode cX6_init 46 = .ok (.newarray .int, 2) := by decide +kernel
theorem dX6_init_48 : decode cX6_init 48 = .ok (.putfield 31, 3) := by decide +kernel
theorem dX6_init_51 : decode cX6_init 51 = .ok (.aload_n 0, 1) := by decide +kernel
theorem dX6_init_52 : decode cX6_init 52 = .ok (.aload_n 1, 1) := by decide +kernel
theorem dX6_init_53 : decode cX6_init 53 = .ok (.putfield 34, 3) := by decide +kernel
theorem dX6_init_56 : decode cX6_init 56 = .ok (.aload_n 0, 1) := by decide +kernel
theorem dX6_init_57 : decode cX6_init 57 = .ok (.aload_n 2, 1) := by decide +kernel
theorem dX6_init_58 : decode cX6_init 58 = .ok (.putfield 38, 3) := by decide +kernel
theorem dX6_init_61 : decode cX6_init 61 = .ok (.return_, 1) := by decide +kernel
theorem dX6_build_0 : decode cX6_build 0 = .ok (.aload_n 0, 1) := by decide +kernel
theorem dX6_build_1 : decode cX6_build 1 = .ok (.invokevirtual 42, 3) := by decide +kernel
theorem dX6_build_4 : decode cX6_build 4 = .ok (.aload_n 0, 1) := by decide +kernel
theorem dX6_build_5 : decode cX6_build 5 = .ok (.invokevirtual 45, 3) := by decide +kernel
theorem dX6_build_8 : decode cX6_build 8 = .ok (.iconst 0, 1) := by decide +kernel
theorem dX6_build_9 : decode cX6_build 9 = .ok (.istore_n 1, 1) := by decide +kernel
theorem dX6_build_10 : decode cX6_build 10 = .ok (.iload_n 1, 1) := by decide +kernel
theorem dX6_build_11 : decode cX6_build 11 = .ok (.aload_n 0, 1) := by decide +kernel
theorem dX6_build_12 : decode cX6_build 12 = .ok (.getfield 25, 3) := by decide +kernel
theorem dX6_build_15 : decode cX6_build 15 = .ok (.if_icmp .ge 19, 3) := by decide +kernel
theorem dX6_build_18 : decode cX6_build 18 = .ok (.aload_n 0, 1) := by decide +kernel
theorem dX6_build_19 : decode cX6_build 19 = .ok (.aload_n 0, 1) := by decide +kernel
theorem dX6_build_20 : decode cX6_build 20 = .ok (.getfield 22, 3) := by decide +kernel
theorem dX6_build_23 : decode cX6_build 23 = .ok (.iload_n 1, 1) := by decide +kernel
theorem dX6_build_24 : decode cX6_build 24 = .ok (.iaload, 1) := by decide +kernel
theorem dX6_build_25 : decode cX6_build 25 = .ok (.invokevirtual 48, 3) := by decide +kernel
theorem dX6_build_28 : decode cX6_build 28 = .ok (.iinc 1 1, 3) := by decide +kernel
theorem dX6_build_31 : decode cX6_build 31 = .ok (.goto (-21), 3) := by decide +kernel
theorem dX6_build_34 : decode cX6_build 34 = .ok (.aload_n 0, 1) := by decide +kernel
theorem dX6_build_35 : decode cX6_build 35 = .ok (.invokevirtual 52, 3) := by decide +kernel
theorem dX6_build_38 : decode cX6_build 38 = .ok (.return_, 1) := by decide +kernel
theorem dX6_weightOf_0 : decode cX6_weightOf 0 = .ok (.aload_n 0, 1) := by decide +kernel
theorem dX6_weightOf_1 : decode cX6_weightOf 1 = .ok (.getfield 34, 3) := by decide +kernel
theorem dX6_weightOf_4 : decode cX6_weightOf 4 = .ok (.getfield 55, 3) := by decide +kernel
theorem dX6_weightOf_7 : decode cX6_weightOf 7 = .ok (.iload_n 1, 1) := by decide +kernel
theorem dX6_weightOf_8 : decode cX6_weightOf 8 = .ok (.bipush 24, 2) := by decide +kernel
theorem dX6_weightOf_10 : decode cX6_weightOf 10 = .ok (.irem, 1) := by decide +kernel
theorem dX6_weightOf_11 : decode cX6_weightOf 11 = .ok (.iaload, 1) := by decide +kernel
theorem dX6_weightOf_12 : decode cX6_weightOf 12 = .ok (.ireturn, 1) := by decide +kernel
theorem dX6_sortLinks_0 : decode cX6_sortLinks 0 = .ok (.aload_n 0, 1) := by decide +kernel
theorem dX6_sortLinks_1 : decode cX6_sortLinks 1 = .ok (.iconst 0, 1) := by decide +kernel
theorem dX6_sortLinks_2 : decode cX6_sortLinks 2 = .ok (.putfield 25, 3) := by decide +kernel
theorem dX6_sortLinks_5 : decode cX6_sortLinks 5 = .ok (.iconst 0, 1) := by decide +kernel
theorem dX6_sortLinks_6 : decode cX6_sortLinks 6 = .ok (.istore_n 1, 1) := by decide +kernel
theorem dX6_sortLinks_7 : decode cX6_sortLinks 7 = .ok (.iload_n 1, 1) := by decide +kernel
theorem dX6_sortLinks_8 : decode cX6_sortLinks 8 = .ok (.bipush 72, 2) := by decide +kernel
theorem dX6_sortLinks_10 : decode cX6_sortLinks 10 = .ok (.if_icmp .ge 27, 3) := by decide +kernel
theorem dX6_sortLinks_13 : decode cX6_sortLinks 13 = .ok (.aload_n 0, 1) := by decide +kernel
theorem dX6_sortLinks_14 : decode cX6_sortLinks 14 = .ok (.getfield 38, 3) := by decide +kernel
theorem dX6_sortLinks_17 : decode cX6_sortLinks 17 = .ok (.getfield 60, 3) := by decide +kernel
theorem dX6_sortLinks_20 : decode cX6_sortLinks 20 = .ok (.iload_n 1, 1) := by decide +kernel
theorem dX6_sortLinks_21 : decode cX6_sortLinks 21 = .ok (.iaload, 1) := by decide +kernel
theorem dX6_sortLinks_22 : decode cX6_sortLinks 22 = .ok (.iconst (-1), 1) := by decide +kernel
theorem dX6_sortLinks_23 : decode cX6_sortLinks 23 = .ok (.if_icmp .eq 8, 3) := by decide +kernel
theorem dX6_sortLinks_26 : decode cX6_sortLinks 26 = .ok (.aload_n 0, 1) := by decide +kernel
theorem dX6_sortLinks_27 : decode cX6_sortLinks 27 = .ok (.iload_n 1, 1) := by decide +kernel
theorem dX6_sortLinks_28 : decode cX6_sortLinks 28 = .ok (.invokevirtual 65, 3) := by decide +kernel
theorem dX6_sortLinks_31 : decode cX6_sortLinks 31 = .ok (.iinc 1 1, 3) := by decide +kernel
theorem dX6_sortLinks_34 : decode cX6_sortLinks 34 = .ok (.goto (-27), 3) := by decide +kernel
theorem dX6_sortLinks_37 : decode cX6_sortLinks 37 = .ok (.return_, 1) := by decide +kernel
theorem dX6_sortIn_0 : decode cX6_sortIn 0 = .ok (.aload_n 0, 1) := by decide +kernel
theorem dX6_sortIn_1 : decode cX6_sortIn 1 = .ok (.getfield 25, 3) := by decide +kernel
theorem dX6_sortIn_4 : decode cX6_sortIn 4 = .ok (.istore_n 2, 1) := by decide +kernel
theorem dX6_sortIn_5 : decode cX6_sortIn 5 = .ok (.iload_n 2, 1) := by decide +kernel
theorem dX6_sortIn_6 : decode cX6_sortIn 6 = .ok (.ifCond .le 43, 3) := by decide +kernel
theorem dX6_sortIn_9 : decode cX6_sortIn 9 = .ok (.aload_n 0, 1) := by decide +kernel
theorem dX6_sortIn_10 : decode cX6_sortIn 10 = .ok (.aload_n 0, 1) := by decide +kernel
theorem dX6_sortIn_11 : decode cX6_sortIn 11 = .ok (.getfield 22, 3) := by decide +kernel
theorem dX6_sortIn_14 : decode cX6_sortIn 14 = .ok (.iload_n 2, 1) := by decide +kernel
theorem dX6_sortIn_15 : decode cX6_sortIn 15 = .ok (.iconst 1, 1) := by decide +kernel
theorem dX6_sortIn_16 : decode cX6_sortIn 16 = .ok (.isub, 1) := by decide +kernel
theorem dX6_sortIn_17 : decode cX6_sortIn 17 = .ok (.iaload, 1) := by decide +kernel
theorem dX6_sortIn_18 : decode cX6_sortIn 18 = .ok (.invokevirtual 68, 3) := by decide +kernel
theorem dX6_sortIn_21 : decode cX6_sortIn 21 = .ok (.aload_n 0, 1) := by decide +kernel
theorem dX6_sortIn_22 : decode cX6_sortIn 22 = .ok (.iload_n 1, 1) := by decide +kernel
theorem dX6_sortIn_23 : decode cX6_sortIn 23 = .ok (.invokevirtual 68, 3) := by decide +kernel
theorem dX6_sortIn_26 : decode cX6_sortIn 26 = .ok (.if_icmp .ge 23, 3) := by decide +kernel
theorem dX6_sortIn_29 : decode cX6_sortIn 29 = .ok (.aload_n 0, 1) := by decide +kernel
theorem dX6_sortIn_30 : decode cX6_sortIn 30 = .ok (.getfield 22, 3) := by decide +kernel
theorem dX6_sortIn_33 : decode cX6_sortIn 33 = .ok (.iload_n 2, 1) := by decide +kernel
theorem dX6_sortIn_34 : decode cX6_sortIn 34 = .ok (.aload_n 0, 1) := by decide +kernel
theorem dX6_sortIn_35 : decode cX6_sortIn 35 = .ok (.getfield 22, 3) := by decide +kernel
theorem dX6_sortIn_38 : decode cX6_sortIn 38 = .ok (.iload_n 2, 1) := by decide +kernel
theorem dX6_sortIn_39 : decode cX6_sortIn 39 = .ok (.iconst 1, 1) := by decide +kernel
theorem dX6_sortIn_40 : decode cX6_sortIn 40 = .ok (.isub, 1) := by decide +kernel
theorem dX6_sortIn_41 : decode cX6_sortIn 41 = .ok (.iaload, 1) := by decide +kernel
theorem dX6_sortIn_42 : decode cX6_sortIn 42 = .ok (.iastore, 1) := by decide +kernel
theorem dX6_sortIn_43 : decode cX6_sortIn 43 = .ok (.iinc 2 (-1), 3) := by decide +kernel
theorem dX6_sortIn_46 : decode cX6_sortIn 46 = .ok (.goto (-41), 3) := by decide +kernel
theorem dX6_sortIn_49 : decode cX6_sortIn 49 = .ok (.aload_n 0, 1) := by decide +kernel
theorem dX6_sortIn_50 : decode cX6_sortIn 50 = .ok (.getfield 22, 3) := by decide +kernel
theorem dX6_sortIn_53 : decode cX6_sortIn 53 = .ok (.iload_n 2, 1) := by decide +kernel
theorem dX6_sortIn_54 : decode cX6_sortIn 54 = .ok (.iload_n 1, 1) := by decide +kernel
theorem dX6_sortIn_55 : decode cX6_sortIn 55 = .ok (.iastore, 1) := by decide +kernel
theorem dX6_sortIn_56 : decode cX6_sortIn 56 = .ok (.aload_n 0, 1) := by decide +kernel
theorem dX6_sortIn_57 : decode cX6_sortIn 57 = .ok (.dup, 1) := by decide +kernel
theorem dX6_sortIn_58 : decode cX6_sortIn 58 = .ok (.getfield 25, 3) := by decide +kernel
theorem dX6_sortIn_61 : decode cX6_sortIn 61 = .ok (.iconst 1, 1) := by decide +kernel
theorem dX6_sortIn_62 : decode cX6_sortIn 62 = .ok (.iadd, 1) := by decide +kernel
theorem dX6_sortIn_63 : decode cX6_sortIn 63 = .ok (.putfield 25, 3) := by decide +kernel
theorem dX6_sortIn_66 : decode cX6_sortIn 66 = .ok (.return_, 1) := by decide +kernel
theorem dX6_plant_0 : decode cX6_plant 0 = .ok (.aload_n 0, 1) := by decide +kernel
theorem dX6_plant_1 : decode cX6_plant 1 = .ok (.iconst 0, 1) := by decide +kernel
theorem dX6_plant_2 : decode cX6_plant 2 = .ok (.putfield 15, 3) := by decide +kernel
theorem dX6_plant_5 : decode cX6_plant 5 = .ok (.aload_n 0, 1) := by decide +kernel
theorem dX6_plant_6 : decode cX6_plant 6 = .ok (.iconst 0, 1) := by decide +kernel
theorem dX6_plant_7 : decode cX6_plant 7 = .ok (.putfield 19, 3) := by decide +kernel
theorem dX6_plant_10 : decode cX6_plant 10 = .ok (.iconst 0, 1) := by decide +kernel
theorem dX6_plant_11 : decode cX6_plant 11 = .ok (.istore_n 1, 1) := by decide +kernel
theorem dX6_plant_12 : decode cX6_plant 12 = .ok (.iload_n 1, 1) := by decide +kernel
theorem dX6_plant_13 : decode cX6_plant 13 = .ok (.aload_n 0, 1) := by decide +kernel
theorem dX6_plant_14 : decode cX6_plant 14 = .ok (.getfield 34, 3) := by decide +kernel
theorem dX6_plant_17 : decode cX6_plant 17 = .ok (.getfield 72, 3) := by decide +kernel
theorem dX6_plant_20 : decode cX6_plant 20 = .ok (.if_icmp .ge 23, 3) := by decide +kernel
theorem dX6_plant_23 : decode cX6_plant 23 = .ok (.aload_n 0, 1) := by decide +kernel
theorem dX6_plant_24 : decode cX6_plant 24 = .ok (.getfield 28, 3) := by decide +kernel
theorem dX6_plant_27 : decode cX6_plant 27 = .ok (.iload_n 1, 1) := by decide +kernel
theorem dX6_plant_28 : decode cX6_plant 28 = .ok (.iload_n 1, 1) := by decide +kernel
theorem dX6_plant_29 : decode cX6_plant 29 = .ok (.iastore, 1) := by decide +kernel
theorem dX6_plant_30 : decode cX6_plant 30 = .ok (.aload_n 0, 1) := by decide +kernel
theorem dX6_plant_31 : decode cX6_plant 31 = .ok (.getfield 31, 3) := by decide +kernel
theorem dX6_plant_34 : decode cX6_plant 34 = .ok (.iload_n 1, 1) := by decide +kernel
theorem dX6_plant_35 : decode cX6_plant 35 = .ok (.iconst 0, 1) := by decide +kernel
theorem dX6_plant_36 : decode cX6_plant 36 = .ok (.iastore, 1) := by decide +kernel
theorem dX6_plant_37 : decode cX6_plant 37 = .ok (.iinc 1 1, 3) := by decide +kernel
theorem dX6_plant_40 : decode cX6_plant 40 = .ok (.goto (-28), 3) := by decide +kernel
theorem dX6_plant_43 : decode cX6_plant 43 = .ok (.aload_n 0, 1) := by decide +kernel
theorem dX6_plant_44 : decode cX6_plant 44 = .ok (.getfield 28, 3) := by decide +kernel
theorem dX6_plant_47 : decode cX6_plant 47 = .ok (.aload_n 0, 1) := by decide +kernel
theorem dX6_plant_48 : decode cX6_plant 48 = .ok (.getfield 34, 3) := by decide +kernel
theorem dX6_plant_51 : decode cX6_plant 51 = .ok (.invokevirtual 75, 3) := by decide +kernel
theorem dX6_plant_54 : decode cX6_plant 54 = .ok (.aload_n 0, 1) := by decide +kernel
theorem dX6_plant_55 : decode cX6_plant 55 = .ok (.getfield 28, 3) := by decide +kernel
theorem dX6_plant_58 : decode cX6_plant 58 = .ok (.iconst 0, 1) := by decide +kernel
theorem dX6_plant_59 : decode cX6_plant 59 = .ok (.iaload, 1) := by decide +kernel
theorem dX6_plant_60 : decode cX6_plant 60 = .ok (.iastore, 1) := by decide +kernel
theorem dX6_plant_61 : decode cX6_plant 61 = .ok (.return_, 1) := by decide +kernel
theorem dX6_consider_0 : decode cX6_consider 0 = .ok (.aload_n 0, 1) := by decide +kernel
theorem dX6_consider_1 : decode cX6_consider 1 = .ok (.getfield 28, 3) := by decide +kernel
theorem dX6_consider_4 : decode cX6_consider 4 = .ok (.aload_n 0, 1) := by decide +kernel
theorem dX6_consider_5 : decode cX6_consider 5 = .ok (.getfield 38, 3) := by decide +kernel
theorem dX6_consider_8 : decode cX6_consider 8 = .ok (.getfield 60, 3) := by decide +kernel
theorem dX6_consider_11 : decode cX6_consider 11 = .ok (.iload_n 1, 1) := by decide +kernel
theorem dX6_consider_12 : decode cX6_consider 12 = .ok (.iaload, 1) := by decide +kernel
theorem dX6_consider_13 : decode cX6_consider 13 = .ok (.iaload, 1) := by decide +kernel
theorem dX6_consider_14 : decode cX6_consider 14 = .ok (.aload_n 0, 1) := by decide +kernel
theorem dX6_consider_15 : decode cX6_consider 15 = .ok (.getfield 28, 3) := by decide +kernel
theorem dX6_consider_18 : decode cX6_consider 18 = .ok (.aload_n 0, 1) := by decide +kernel
theorem dX6_consider_19 : decode cX6_consider 19 = .ok (.getfield 38, 3) := by decide +kernel
theorem dX6_consider_22 : decode cX6_consider 22 = .ok (.getfield 79, 3) := by decide +kernel
theorem dX6_consider_25 : decode cX6_consider 25 = .ok (.iload_n 1, 1) := by decide +kernel
theorem dX6_consider_26 : decode cX6_consider 26 = .ok (.iaload, 1) := by decide +kernel
theorem dX6_consider_27 : decode cX6_consider 27 = .ok (.iaload, 1) := by decide +kernel
theorem dX6_consider_28 : decode cX6_consider 28 = .ok (.if_icmp .ne 30, 3) := by decide +kernel
theorem dX6_consider_31 : decode cX6_consider 31 = .ok (.aload_n 0, 1) := by decide +kernel
theorem dX6_consider_32 : decode cX6_consider 32 = .ok (.dup, 1) := by decide +kernel
theorem dX6_consider_33 : decode cX6_consider 33 = .ok (.getfield 15, 3) := by decide +kernel
theorem dX6_consider_36 : decode cX6_consider 36 = .ok (.iconst 1, 1) := by decide +kernel
theorem dX6_consider_37 : decode cX6_consider 37 = .ok (.iadd, 1) := by decide +kernel
theorem dX6_consider_38 : decode cX6_consider 38 = .ok (.putfield 15, 3) := by decide +kernel
theorem dX6_consider_41 : decode cX6_consider 41 = .ok (.aload_n 0, 1) := by decide +kernel
theorem dX6_consider_42 : decode cX6_consider 42 = .ok (.dup, 1) := by decide +kernel
theorem dX6_consider_43 : decode cX6_consider 43 = .ok (.getfield 19, 3) := by decide +kernel
theorem dX6_consider_46 : decode cX6_consider 46 = .ok (.aload_n 0, 1) := by decide +kernel
theorem dX6_consider_47 : decode cX6_consider 47 = .ok (.iload_n 1, 1) := by decide +kernel
theorem dX6_consider_48 : decode cX6_consider 48 = .ok (.invokevirtual 68, 3) := by decide +kernel
theorem dX6_consider_51 : decode cX6_consider 51 = .ok (.iadd, 1) := by decide +kernel
theorem dX6_consider_52 : decode cX6_consider 52 = .ok (.putfield 19, 3) := by decide +kernel
theorem dX6_consider_55 : decode cX6_consider 55 = .ok (.goto 8, 3) := by decide +kernel
theorem dX6_consider_58 : decode cX6_consider 58 = .ok (.aload_n 0, 1) := by decide +kernel
theorem dX6_consider_59 : decode cX6_consider 59 = .ok (.iload_n 1, 1) := by decide +kernel
theorem dX6_consider_60 : decode cX6_consider 60 = .ok (.invokevirtual 82, 3) := by decide +kernel
theorem dX6_consider_63 : decode cX6_consider 63 = .ok (.return_, 1) := by decide +kernel
theorem dX6_join_0 : decode cX6_join 0 = .ok (.aload_n 0, 1) := by decide +kernel
theorem dX6_join_1 : decode cX6_join 1 = .ok (.getfield 38, 3) := by decide +kernel
theorem dX6_join_4 : decode cX6_join 4 = .ok (.getfield 60, 3) := by decide +kernel
theorem dX6_join_7 : decode cX6_join 7 = .ok (.iload_n 1, 1) := by decide +kernel
theorem dX6_join_8 : decode cX6_join 8 = .ok (.iaload, 1) := by decide +kernel
theorem dX6_join_9 : decode cX6_join 9 = .ok (.istore_n 2, 1) := by decide +kernel
theorem dX6_join_10 : decode cX6_join 10 = .ok (.aload_n 0, 1) := by decide +kernel
theorem dX6_join_11 : decode cX6_join 11 = .ok (.getfield 38, 3) := by decide +kernel
theorem dX6_join_14 : decode cX6_join 14 = .ok (.getfield 79, 3) := by decide +kernel
theorem dX6_join_17 : decode cX6_join 17 = .ok (.iload_n 1, 1) := by decide +kernel
theorem dX6_join_18 : decode cX6_join 18 = .ok (.iaload, 1) := by decide +kernel
theorem dX6_join_19 : decode cX6_join 19 = .ok (.istore_n 3, 1) := by decide +kernel
theorem dX6_join_20 : decode cX6_join 20 = .ok (.aload_n 0, 1) := by decide +kernel
theorem dX6_join_21 : decode cX6_join 21 = .ok (.getfield 31, 3) := by decide +kernel
theorem dX6_join_24 : decode cX6_join 24 = .ok (.iload_n 2, 1) := by decide +kernel
theorem dX6_join_25 : decode cX6_join 25 = .ok (.iaload, 1) := by decide +kernel
theorem dX6_join_26 : decode cX6_join 26 = .ok (.aload_n 0, 1) := by decide +kernel
theorem dX6_join_27 : decode cX6_join 27 = .ok (.getfield 38, 3) := by decide +kernel
theorem dX6_join_30 : decode cX6_join 30 = .ok (.getfield 85, 3) := by decide +kernel
theorem dX6_join_33 : decode cX6_join 33 = .ok (.iload_n 1, 1) := by decide +kernel
theorem dX6_join_34 : decode cX6_join 34 = .ok (.iaload, 1) := by decide +kernel
theorem dX6_join_35 : decode cX6_join 35 = .ok (.iadd, 1) := by decide +kernel
theorem dX6_join_36 : decode cX6_join 36 = .ok (.aload_n 0, 1) := by decide +kernel
theorem dX6_join_37 : decode cX6_join 37 = .ok (.getfield 31, 3) := by decide +kernel
theorem dX6_join_40 : decode cX6_join 40 = .ok (.iload_n 3, 1) := by decide +kernel
theorem dX6_join_41 : decode cX6_join 41 = .ok (.iaload, 1) := by decide +kernel
theorem dX6_join_42 : decode cX6_join 42 = .ok (.isub, 1) := by decide +kernel
theorem dX6_join_43 : decode cX6_join 43 = .ok (.istore 4, 2) := by decide +kernel
theorem dX6_join_45 : decode cX6_join 45 = .ok (.aload_n 0, 1) := by decide +kernel
theorem dX6_join_46 : decode cX6_join 46 = .ok (.getfield 28, 3) := by decide +kernel
theorem dX6_join_49 : decode cX6_join 49 = .ok (.iload_n 2, 1) := by decide +kernel
theorem dX6_join_50 : decode cX6_join 50 = .ok (.iaload, 1) := by decide +kernel
theorem dX6_join_51 : decode cX6_join 51 = .ok (.istore 5, 2) := by decide +kernel
theorem dX6_join_53 : decode cX6_join 53 = .ok (.aload_n 0, 1) := by decide +kernel
theorem dX6_join_54 : decode cX6_join 54 = .ok (.getfield 28, 3) := by decide +kernel
theorem dX6_join_57 : decode cX6_join 57 = .ok (.iload_n 3, 1) := by decide +kernel
theorem dX6_join_58 : decode cX6_join 58 = .ok (.iaload, 1) := by decide +kernel
theorem dX6_join_59 : decode cX6_join 59 = .ok (.istore 6, 2) := by decide +kernel
theorem dX6_join_61 : decode cX6_join 61 = .ok (.iconst 0, 1) := by decide +kernel
theorem dX6_join_62 : decode cX6_join 62 = .ok (.istore 7, 2) := by decide +kernel
theorem dX6_join_64 : decode cX6_join 64 = .ok (.iload 7, 2) := by decide +kernel
theorem dX6_join_66 : decode cX6_join 66 = .ok (.aload_n 0, 1) := by decide +kernel
theorem dX6_join_67 : decode cX6_join 67 = .ok (.getfield 34, 3) := by decide +kernel
theorem dX6_join_70 : decode cX6_join 70 = .ok (.getfield 72, 3) := by decide +kernel
theorem dX6_join_73 : decode cX6_join 73 = .ok (.if_icmp .ge 42, 3) := by decide +kernel
theorem dX6_join_76 : decode cX6_join 76 = .ok (.aload_n 0, 1) := by decide +kernel
theorem dX6_join_77 : decode cX6_join 77 = .ok (.getfield 28, 3) := by decide +kernel
theorem dX6_join_80 : decode cX6_join 80 = .ok (.iload 7, 2) := by decide +kernel
theorem dX6_join_82 : decode cX6_join 82 = .ok (.iaload, 1) := by decide +kernel
theorem dX6_join_83 : decode cX6_join 83 = .ok (.iload 6, 2) := by decide +kernel
theorem dX6_join_85 : decode cX6_join 85 = .ok (.if_icmp .ne 24, 3) := by decide +kernel
theorem dX6_join_88 : decode cX6_join 88 = .ok (.aload_n 0, 1) := by decide +kernel
theorem dX6_join_89 : decode cX6_join 89 = .ok (.getfield 28, 3) := by decide +kernel
theorem dX6_join_92 : decode cX6_join 92 = .ok (.iload 7, 2) := by decide +kernel
theorem dX6_join_94 : decode cX6_join 94 = .ok (.iload 5, 2) := by decide +kernel
theorem dX6_join_96 : decode cX6_join 96 = .ok (.iastore, 1) := by decide +kernel
theorem dX6_join_97 : decode cX6_join 97 = .ok (.aload_n 0, 1) := by decide +kernel
theorem dX6_join_98 : decode cX6_join 98 = .ok (.getfield 31, 3) := by decide +kernel
theorem dX6_join_101 : decode cX6_join 101 = .ok (.iload 7, 2) := by decide +kernel
theorem dX6_join_103 : decode cX6_join 103 = .ok (.dup2, 1) := by decide +kernel
theorem dX6_join_104 : decode cX6_join 104 = .ok (.iaload, 1) := by decide +kernel
theorem dX6_join_105 : decode cX6_join 105 = .ok (.iload 4, 2) := by decide +kernel
theorem dX6_join_107 : decode cX6_join 107 = .ok (.iadd, 1) := by decide +kernel
theorem dX6_join_108 : decode cX6_join 108 = .ok (.iastore, 1) := by decide +kernel
theorem dX6_join_109 : decode cX6_join 109 = .ok (.iinc 7 1, 3) := by decide +kernel
theorem dX6_join_112 : decode cX6_join 112 = .ok (.goto (-48), 3) := by decide +kernel
theorem dX6_join_115 : decode cX6_join 115 = .ok (.return_, 1) := by decide +kernel
theorem dX6_computeIncrements_0 : decode cX6_computeIncrements 0 = .ok (.iconst 0, 1) := by decide +kernel
theorem dX6_computeIncrements_1 : decode cX6_computeIncrements 1 = .ok (.istore_n 1, 1) := by decide +kernel
theorem dX6_computeIncrements_2 : decode cX6_computeIncrements 2 = .ok (.iload_n 1, 1) := by decide +kernel
theorem dX6_computeIncrements_3 : decode cX6_computeIncrements 3 = .ok (.aload_n 0, 1) := by decide +kernel
theorem dX6_computeIncrements_4 : decode cX6_computeIncrements 4 = .ok (.getfield 25, 3) := by decide +kernel
theorem dX6_computeIncrements_7 : decode cX6_computeIncrements 7 = .ok (.if_icmp .ge 61, 3) := by decide +kernel
theorem dX6_computeIncrements_10 : decode cX6_computeIncrements 10 = .ok (.aload_n 0, 1) := by decide +kernel
theorem dX6_computeIncrements_11 : decode cX6_computeIncrements 11 = .ok (.getfield 22, 3) := by decide +kernel
theorem dX6_computeIncrements_14 : decode cX6_computeIncrements 14 = .ok (.iload_n 1, 1) := by decide +kernel
theorem dX6_computeIncrements_15 : decode cX6_computeIncrements 15 = .ok (.iaload, 1) := by decide +kernel
theorem dX6_computeIncrements_16 : decode cX6_computeIncrements 16 = .ok (.istore_n 2, 1) := by decide +kernel
theorem dX6_computeIncrements_17 : decode cX6_computeIncrements 17 = .ok (.aload_n 0, 1) := by decide +kernel
theorem dX6_computeIncrements_18 : decode cX6_computeIncrements 18 = .ok (.getfield 9, 3) := by decide +kernel
theorem dX6_computeIncrements_21 : decode cX6_computeIncrements 21 = .ok (.iload_n 2, 1) := by decide +kernel
theorem dX6_computeIncrements_22 : decode cX6_computeIncrements 22 = .ok (.aload_n 0, 1) := by decide +kernel
theorem dX6_computeIncrements_23 : decode cX6_computeIncrements 23 = .ok (.getfield 38, 3) := by decide +kernel
theorem dX6_computeIncrements_26 : decode cX6_computeIncrements 26 = .ok (.getfield 85, 3) := by decide +kernel
theorem dX6_computeIncrements_29 : decode cX6_computeIncrements 29 = .ok (.iload_n 2, 1) := by decide +kernel
theorem dX6_computeIncrements_30 : decode cX6_computeIncrements 30 = .ok (.iaload, 1) := by decide +kernel
theorem dX6_computeIncrements_31 : decode cX6_computeIncrements 31 = .ok (.aload_n 0, 1) := by decide +kernel
theorem dX6_computeIncrements_32 : decode cX6_computeIncrements 32 = .ok (.getfield 31, 3) := by decide +kernel
theorem dX6_computeIncrements_35 : decode cX6_computeIncrements 35 = .ok (.aload_n 0, 1) := by decide +kernel
theorem dX6_computeIncrements_36 : decode cX6_computeIncrements 36 = .ok (.getfield 38, 3) := by decide +kernel
theorem dX6_computeIncrements_39 : decode cX6_computeIncrements 39 = .ok (.getfield 60, 3) := by decide +kernel
theorem dX6_computeIncrements_42 : decode cX6_computeIncrements 42 = .ok (.iload_n 2, 1) := by decide +kernel
theorem dX6_computeIncrements_43 : decode cX6_computeIncrements 43 = .ok (.iaload, 1) := by decide +kernel
theorem dX6_computeIncrements_44 : decode cX6_computeIncrements 44 = .ok (.iaload, 1) := by decide +kernel
theorem dX6_computeIncrements_45 : decode cX6_computeIncrements 45 = .ok (.iadd, 1) := by decide +kernel
theorem dX6_computeIncrements_46 : decode cX6_computeIncrements 46 = .ok (.aload_n 0, 1) := by decide +kernel
theorem dX6_computeIncrements_47 : decode cX6_computeIncrements 47 = .ok (.getfield 31, 3) := by decide +kernel
theorem dX6_computeIncrements_50 : decode cX6_computeIncrements 50 = .ok (.aload_n 0, 1) := by decide +kernel
theorem dX6_computeIncrements_51 : decode cX6_computeIncrements 51 = .ok (.getfield 38, 3) := by decide +kernel
theorem dX6_computeIncrements_54 : decode cX6_computeIncrements 54 = .ok (.getfield 79, 3) := by decide +kernel
theorem dX6_computeIncrements_57 : decode cX6_computeIncrements 57 = .ok (.iload_n 2, 1) := by decide +kernel
theorem dX6_computeIncrements_58 : decode cX6_computeIncrements 58 = .ok (.iaload, 1) := by decide +kernel
theorem dX6_computeIncrements_59 : decode cX6_computeIncrements 59 = .ok (.iaload, 1) := by decide +kernel
theorem dX6_computeIncrements_60 : decode cX6_computeIncrements 60 = .ok (.isub, 1) := by decide +kernel
theorem dX6_computeIncrements_61 : decode cX6_computeIncrements 61 = .ok (.iastore, 1) := by decide +kernel
theorem dX6_computeIncrements_62 : decode cX6_computeIncrements 62 = .ok (.iinc 1 1, 3) := by decide +kernel
theorem dX6_computeIncrements_65 : decode cX6_computeIncrements 65 = .ok (.goto (-63), 3) := by decide +kernel
theorem dX6_computeIncrements_68 : decode cX6_computeIncrements 68 = .ok (.return_, 1) := by decide +kernel
theorem dX7_init_0 : decode cX7_init 0 = .ok (.aload_n 0, 1) := by decide +kernel
theorem dX7_init_1 : decode cX7_init 1 = .ok (.invokespecial 3, 3) := by decide +kernel
theorem dX7_init_4 : decode cX7_init 4 = .ok (.aload_n 0, 1) := by decide +kernel
theorem dX7_init_5 : decode cX7_init 5 = .ok (.iconst (-1), 1) := by decide +kernel
theorem dX7_init_6 : decode cX7_init 6 = .ok (.putfield 9, 3) := by decide +kernel
theorem dX7_init_9 : decode cX7_init 9 = .ok (.aload_n 0, 1) := by decide +kernel
theorem dX7_init_10 : decode cX7_init 10 = .ok (.iconst 0, 1) := by decide +kernel
theorem dX7_init_11 : decode cX7_init 11 = .ok (.putfield 15, 3) := by decide +kernel
theorem dX7_init_14 : decode cX7_init 14 = .ok (.aload_n 0, 1) := by decide +kernel
theorem dX7_init_15 : decode cX7_init 15 = .ok (.sipush 200, 3) := by decide +kernel
theorem dX7_init_18 : decode cX7_init 18 = .ok (.newarray .int, 2) := by decide +kernel
theorem dX7_init_20 : decode cX7_init 20 = .ok (.putfield 18, 3) := by decide +kernel
theorem dX7_init_23 : decode cX7_init 23 = .ok (.aload_n 0, 1) := by decide +kernel
theorem dX7_init_24 : decode cX7_init 24 = .ok (.iconst 0, 1) := by decide +kernel
theorem dX7_init_25 : decode cX7_init 25 = .ok (.putfield 22, 3) := by decide +kernel
theorem dX7_init_28 : decode cX7_init 28 = .ok (.return_, 1) := by decide +kernel
theorem dX7_forget_0 : decode cX7_forget 0 = .ok (.aload_n 0, 1) := by decide +kernel
theorem dX7_forget_1 : decode cX7_forget 1 = .ok (.iconst (-1), 1) := by decide +kernel
theorem dX7_forget_2 : decode cX7_forget 2 = .ok (.putfield 9, 3) := by decide +kernel
theorem dX7_forget_5 : decode cX7_forget 5 = .ok (.aload_n 0, 1) := by decide +kernel
theorem dX7_forget_6 : decode cX7_forget 6 = .ok (.iconst 0, 1) := by decide +kernel
theorem dX7_forget_7 : decode cX7_forget 7 = .ok (.putfield 15, 3) := by decide +kernel
theorem dX7_forget_10 : decode cX7_forget 10 = .ok (.aload_n 0, 1) := by decide +kernel
theorem dX7_forget_11 : decode cX7_forget 11 = .ok (.iconst 0, 1) := by decide +kernel
theorem dX7_forget_12 : decode cX7_forget 12 = .ok (.putfield 22, 3) := by decide +kernel
theorem dX7_forget_15 : decode cX7_forget 15 = .ok (.iconst 0, 1) := by decide +kernel
theorem dX7_forget_16 : decode cX7_forget 16 = .ok (.istore_n 1, 1) := by decide +kernel
theorem dX7_forget_17 : decode cX7_forget 17 = .ok (.iload_n 1, 1) := by decide +kernel
theorem dX7_forget_18 : decode cX7_forget 18 = .ok (.sipush 200, 3) := by decide +kernel
theorem dX7_forget_21 : decode cX7_forget 21 = .ok (.if_icmp .ge 16, 3) := by decide +kernel
theorem dX7_forget_24 : decode cX7_forget 24 = .ok (.aload_n 0, 1) := by decide +kernel
theorem dX7_forget_25 : decode cX7_forget 25 = .ok (.getfield 18, 3) := by decide +kernel
theorem dX7_forget_28 : decode cX7_forget 28 = .ok (.iload_n 1, 1) := by decide +kernel
theorem dX7_forget_29 : decode cX7_forget 29 = .ok (.iconst 0, 1) := by decide +kernel
theorem dX7_forget_30 : decode cX7_forget 30 = .ok (.iastore, 1) := by decide +kernel
theorem dX7_forget_31 : decode cX7_forget 31 = .ok (.iinc 1 1, 3) := by decide +kernel
theorem dX7_forget_34 : decode cX7_forget 34 = .ok (.goto (-17), 3) := by decide +kernel
theorem dX7_forget_37 : decode cX7_forget 37 = .ok (.return_, 1) := by decide +kernel
theorem dX7_begin_0 : decode cX7_begin 0 = .ok (.aload_n 0, 1) := by decide +kernel
theorem dX7_begin_1 : decode cX7_begin 1 = .ok (.iconst 0, 1) := by decide +kernel
theorem dX7_begin_2 : decode cX7_begin 2 = .ok (.putfield 9, 3) := by decide +kernel
theorem dX7_begin_5 : decode cX7_begin 5 = .ok (.aload_n 0, 1) := by decide +kernel
theorem dX7_begin_6 : decode cX7_begin 6 = .ok (.iconst 0, 1) := by decide +kernel
theorem dX7_begin_7 : decode cX7_begin 7 = .ok (.putfield 15, 3) := by decide +kernel
theorem dX7_begin_10 : decode cX7_begin 10 = .ok (.return_, 1) := by decide +kernel
theorem dX7_countPath_0 : decode cX7_countPath 0 = .ok (.aload_n 0, 1) := by decide +kernel
theorem dX7_countPath_1 : decode cX7_countPath 1 = .ok (.getfield 15, 3) := by decide +kernel
theorem dX7_countPath_4 : decode cX7_countPath 4 = .ok (.ifCond .lt 36, 3) := by decide +kernel
theorem dX7_countPath_7 : decode cX7_countPath 7 = .ok (.aload_n 0, 1) := by decide +kernel
theorem dX7_countPath_8 : decode cX7_countPath 8 = .ok (.getfield 15, 3) := by decide +kernel
theorem dX7_countPath_11 : decode cX7_countPath 11 = .ok (.sipush 200, 3) := by decide +kernel
theorem dX7_countPath_14 : decode cX7_countPath 14 = .ok (.if_icmp .ge 26, 3) := by decide +kernel
theorem dX7_countPath_17 : decode cX7_countPath 17 = .ok (.aload_n 0, 1) := by decide +kernel
theorem dX7_countPath_18 : decode cX7_countPath 18 = .ok (.getfield 18, 3) := by decide +kernel
theorem dX7_countPath_21 : decode cX7_countPath 21 = .ok (.aload_n 0, 1) := by decide +kernel
theorem dX7_countPath_22 : decode cX7_countPath 22 = .ok (.getfield 15, 3) := by decide +kernel
theorem dX7_countPath_25 : decode cX7_countPath 25 = .ok (.dup2, 1) := by decide +kernel
theorem dX7_countPath_26 : decode cX7_countPath 26 = .ok (.iaload, 1) := by decide +kernel
theorem dX7_countPath_27 : decode cX7_countPath 27 = .ok (.iconst 1, 1) := by decide +kernel
theorem dX7_countPath_28 : decode cX7_countPath 28 = .ok (.iadd, 1) := by decide +kernel
theorem dX7_countPath_29 : decode cX7_countPath 29 = .ok (.iastore, 1) := by decide +kernel
theorem dX7_countPath_30 : decode cX7_countPath 30 = .ok (.aload_n 0, 1) := by decide +kernel
theorem dX7_countPath_31 : decode cX7_countPath 31 = .ok (.dup, 1) := by decide +kernel
theorem dX7_countPath_32 : decode cX7_countPath 32 = .ok (.getfield 22, 3) := by decide +kernel
theorem dX7_countPath_35 : decode cX7_countPath 35 = .ok (.iconst 1, 1) := by decide +kernel
theorem dX7_countPath_36 : decode cX7_countPath 36 = .ok (.iadd, 1) := by decide +kernel
theorem dX7_countPath_37 : decode cX7_countPath 37 = .ok (.putfield 22, 3) := by decide +kernel
theorem dX7_countPath_40 : decode cX7_countPath 40 = .ok (.return_, 1) := by decide +kernel
theorem dX7_mostCounted_0 : decode cX7_mostCounted 0 = .ok (.iconst (-1), 1) := by decide +kernel
theorem dX7_mostCounted_1 : decode cX7_mostCounted 1 = .ok (.istore_n 1, 1) := by decide +kernel
theorem dX7_mostCounted_2 : decode cX7_mostCounted 2 = .ok (.iconst 0, 1) := by decide +kernel
theorem dX7_mostCounted_3 : decode cX7_mostCounted 3 = .ok (.istore_n 2, 1) := by decide +kernel
theorem dX7_mostCounted_4 : decode cX7_mostCounted 4 = .ok (.iconst 0, 1) := by decide +kernel
theorem dX7_mostCounted_5 : decode cX7_mostCounted 5 = .ok (.istore_n 3, 1) := by decide +kernel
theorem dX7_mostCounted_6 : decode cX7_mostCounted 6 = .ok (.iload_n 3, 1) := by decide +kernel
theorem dX7_mostCounted_7 : decode cX7_mostCounted 7 = .ok (.sipush 200, 3) := by decide +kernel
theorem dX7_mostCounted_10 : decode cX7_mostCounted 10 = .ok (.if_icmp .ge 28, 3) := by decide +kernel
theorem dX7_mostCounted_13 : decode cX7_mostCounted 13 = .ok (.aload_n 0, 1) := by decide +kernel
theorem dX7_mostCounted_14 : decode cX7_mostCounted 14 = .ok (.getfield 18, 3) := by decide +kernel
theorem dX7_mostCounted_17 : decode cX7_mostCounted 17 = .ok (.iload_n 3, 1) := by decide +kernel
end
section
theorem dX7_mostCounted_18 : decode cX7_mostCounted 18 = .ok (.iaload, 1) := by decide +kernel
theorem dX7_mostCounted_19 : decode cX7_mostCounted 19 = .ok (.iload_n 2, 1) := by decide +kernel
theorem dX7_mostCounted_20 : decode cX7_mostCounted 20 = .ok (.if_icmp .le 12, 3) := by decide +kernel
theorem dX7_mostCounted_23 : decode cX7_mostCounted 23 = .ok (.aload_n 0, 1) := by decide +kernel
theorem dX7_mostCounted_24 : decode cX7_mostCounted 24 = .ok (.getfield 18, 3) := by decide +kernel
theorem dX7_mostCounted_27 : decode cX7_mostCounted 27 = .ok (.iload_n 3, 1) := by decide +kernel
theorem dX7_mostCounted_28 : decode cX7_mostCounted 28 = .ok (.iaload, 1) := by decide +kernel
theorem dX7_mostCounted_29 : decode cX7_mostCounted 29 = .ok (.istore_n 2, 1) := by decide +kernel
theorem dX7_mostCounted_30 : decode cX7_mostCounted 30 = .ok (.iload_n 3, 1) := by decide +kernel
theorem dX7_mostCounted_31 : decode cX7_mostCounted 31 = .ok (.istore_n 1, 1) := by decide +kernel
theorem dX7_mostCounted_32 : decode cX7_mostCounted 32 = .ok (.iinc 3 1, 3) := by decide +kernel
theorem dX7_mostCounted_35 : decode cX7_mostCounted 35 = .ok (.goto (-29), 3) := by decide +kernel
theorem dX7_mostCounted_38 : decode cX7_mostCounted 38 = .ok (.iload_n 1, 1) := by decide +kernel
theorem dX7_mostCounted_39 : decode cX7_mostCounted 39 = .ok (.ireturn, 1) := by decide +kernel
theorem dX8_init_0 : decode cX8_init 0 = .ok (.aload_n 0, 1) := by decide +kernel
theorem dX8_init_1 : decode cX8_init 1 = .ok (.invokespecial 3, 3) := by decide +kernel
theorem dX8_init_4 : decode cX8_init 4 = .ok (.aload_n 0, 1) := by decide +kernel
theorem dX8_init_5 : decode cX8_init 5 = .ok (.new 9, 3) := by decide +kernel
theorem dX8_init_8 : decode cX8_init 8 = .ok (.dup, 1) := by decide +kernel
theorem dX8_init_9 : decode cX8_init 9 = .ok (.invokespecial 11, 3) := by decide +kernel
theorem dX8_init_12 : decode cX8_init 12 = .ok (.putfield 12, 3) := by decide +kernel
theorem dX8_init_15 : decode cX8_init 15 = .ok (.aload_n 0, 1) := by decide +kernel
theorem dX8_init_16 : decode cX8_init 16 = .ok (.new 16, 3) := by decide +kernel
theorem dX8_init_19 : decode cX8_init 19 = .ok (.dup, 1) := by decide +kernel
theorem dX8_init_20 : decode cX8_init 20 = .ok (.invokespecial 18, 3) := by decide +kernel
theorem dX8_init_23 : decode cX8_init 23 = .ok (.putfield 19, 3) := by decide +kernel
theorem dX8_init_26 : decode cX8_init 26 = .ok (.aload_n 0, 1) := by decide +kernel
theorem dX8_init_27 : decode cX8_init 27 = .ok (.new 23, 3) := by decide +kernel
theorem dX8_init_30 : decode cX8_init 30 = .ok (.dup, 1) := by decide +kernel
theorem dX8_init_31 : decode cX8_init 31 = .ok (.invokespecial 25, 3) := by decide +kernel
theorem dX8_init_34 : decode cX8_init 34 = .ok (.putfield 26, 3) := by decide +kernel
theorem dX8_init_37 : decode cX8_init 37 = .ok (.aload_n 0, 1) := by decide +kernel
theorem dX8_init_38 : decode cX8_init 38 = .ok (.new 30, 3) := by decide +kernel
theorem dX8_init_41 : decode cX8_init 41 = .ok (.dup, 1) := by decide +kernel
theorem dX8_init_42 : decode cX8_init 42 = .ok (.aload_n 0, 1) := by decide +kernel
theorem dX8_init_43 : decode cX8_init 43 = .ok (.getfield 12, 3) := by decide +kernel
theorem dX8_init_46 : decode cX8_init 46 = .ok (.invokespecial 32, 3) := by decide +kernel
theorem dX8_init_49 : decode cX8_init 49 = .ok (.putfield 35, 3) := by decide +kernel
theorem dX8_init_52 : decode cX8_init 52 = .ok (.aload_n 0, 1) := by decide +kernel
theorem dX8_init_53 : decode cX8_init 53 = .ok (.new 39, 3) := by decide +kernel
theorem dX8_init_56 : decode cX8_init 56 = .ok (.dup, 1) := by decide +kernel
theorem dX8_init_57 : decode cX8_init 57 = .ok (.aload_n 0, 1) := by decide +kernel
theorem dX8_init_58 : decode cX8_init 58 = .ok (.getfield 12, 3) := by decide +kernel
theorem dX8_init_61 : decode cX8_init 61 = .ok (.aload_n 0, 1) := by decide +kernel
theorem dX8_init_62 : decode cX8_init 62 = .ok (.getfield 35, 3) := by decide +kernel
theorem dX8_init_65 : decode cX8_init 65 = .ok (.invokespecial 41, 3) := by decide +kernel
theorem dX8_init_68 : decode cX8_init 68 = .ok (.putfield 44, 3) := by decide +kernel
theorem dX8_init_71 : decode cX8_init 71 = .ok (.aload_n 0, 1) := by decide +kernel
theorem dX8_init_72 : decode cX8_init 72 = .ok (.new 48, 3) := by decide +kernel
theorem dX8_init_75 : decode cX8_init 75 = .ok (.dup, 1) := by decide +kernel
theorem dX8_init_76 : decode cX8_init 76 = .ok (.aload_n 0, 1) := by decide +kernel
theorem dX8_init_77 : decode cX8_init 77 = .ok (.getfield 12, 3) := by decide +kernel
theorem dX8_init_80 : decode cX8_init 80 = .ok (.aload_n 0, 1) := by decide +kernel
theorem dX8_init_81 : decode cX8_init 81 = .ok (.getfield 44, 3) := by decide +kernel
theorem dX8_init_84 : decode cX8_init 84 = .ok (.invokespecial 50, 3) := by decide +kernel
theorem dX8_init_87 : decode cX8_init 87 = .ok (.putfield 53, 3) := by decide +kernel
theorem dX8_init_90 : decode cX8_init 90 = .ok (.aload_n 0, 1) := by decide +kernel
theorem dX8_init_91 : decode cX8_init 91 = .ok (.new 57, 3) := by decide +kernel
theorem dX8_init_94 : decode cX8_init 94 = .ok (.dup, 1) := by decide +kernel
theorem dX8_init_95 : decode cX8_init 95 = .ok (.aload_n 0, 1) := by decide +kernel
theorem dX8_init_96 : decode cX8_init 96 = .ok (.getfield 12, 3) := by decide +kernel
theorem dX8_init_99 : decode cX8_init 99 = .ok (.aload_n 0, 1) := by decide +kernel
theorem dX8_init_100 : decode cX8_init 100 = .ok (.getfield 44, 3) := by decide +kernel
theorem dX8_init_103 : decode cX8_init 103 = .ok (.invokespecial 59, 3) := by decide +kernel
theorem dX8_init_106 : decode cX8_init 106 = .ok (.putfield 60, 3) := by decide +kernel
theorem dX8_init_109 : decode cX8_init 109 = .ok (.aload_n 0, 1) := by decide +kernel
theorem dX8_init_110 : decode cX8_init 110 = .ok (.new 64, 3) := by decide +kernel
theorem dX8_init_113 : decode cX8_init 113 = .ok (.dup, 1) := by decide +kernel
theorem dX8_init_114 : decode cX8_init 114 = .ok (.invokespecial 66, 3) := by decide +kernel
theorem dX8_init_117 : decode cX8_init 117 = .ok (.putfield 67, 3) := by decide +kernel
theorem dX8_init_120 : decode cX8_init 120 = .ok (.aload_n 0, 1) := by decide +kernel
theorem dX8_init_121 : decode cX8_init 121 = .ok (.iconst 0, 1) := by decide +kernel
theorem dX8_init_122 : decode cX8_init 122 = .ok (.putfield 71, 3) := by decide +kernel
theorem dX8_init_125 : decode cX8_init 125 = .ok (.return_, 1) := by decide +kernel
theorem dX8_setNodes_0 : decode cX8_setNodes 0 = .ok (.iload_n 1, 1) := by decide +kernel
theorem dX8_setNodes_1 : decode cX8_setNodes 1 = .ok (.iconst 2, 1) := by decide +kernel
theorem dX8_setNodes_2 : decode cX8_setNodes 2 = .ok (.if_icmp .lt 9, 3) := by decide +kernel
theorem dX8_setNodes_5 : decode cX8_setNodes 5 = .ok (.iload_n 1, 1) := by decide +kernel
theorem dX8_setNodes_6 : decode cX8_setNodes 6 = .ok (.bipush 12, 2) := by decide +kernel
theorem dX8_setNodes_8 : decode cX8_setNodes 8 = .ok (.if_icmp .le 13, 3) := by decide +kernel
theorem dX8_setNodes_11 : decode cX8_setNodes 11 = .ok (.new 75, 3) := by decide +kernel
theorem dX8_setNodes_14 : decode cX8_setNodes 14 = .ok (.dup, 1) := by decide +kernel
theorem dX8_setNodes_15 : decode cX8_setNodes 15 = .ok (.ldc 77, 2) := by decide +kernel
theorem dX8_setNodes_17 : decode cX8_setNodes 17 = .ok (.invokespecial 79, 3) := by decide +kernel
theorem dX8_setNodes_20 : decode cX8_setNodes 20 = .ok (.athrow, 1) := by decide +kernel
theorem dX8_setNodes_21 : decode cX8_setNodes 21 = .ok (.aload_n 0, 1) := by decide +kernel
theorem dX8_setNodes_22 : decode cX8_setNodes 22 = .ok (.getfield 12, 3) := by decide +kernel
theorem dX8_setNodes_25 : decode cX8_setNodes 25 = .ok (.iload_n 1, 1) := by decide +kernel
theorem dX8_setNodes_26 : decode cX8_setNodes 26 = .ok (.invokevirtual 82, 3) := by decide +kernel
theorem dX8_setNodes_29 : decode cX8_setNodes 29 = .ok (.aload_n 0, 1) := by decide +kernel
theorem dX8_setNodes_30 : decode cX8_setNodes 30 = .ok (.invokevirtual 86, 3) := by decide +kernel
theorem dX8_setNodes_33 : decode cX8_setNodes 33 = .ok (.return_, 1) := by decide +kernel
theorem dX8_addEdge_0 : decode cX8_addEdge 0 = .ok (.aload_n 0, 1) := by decide +kernel
theorem dX8_addEdge_1 : decode cX8_addEdge 1 = .ok (.getfield 12, 3) := by decide +kernel
theorem dX8_addEdge_4 : decode cX8_addEdge 4 = .ok (.iload_n 1, 1) := by decide +kernel
theorem dX8_addEdge_5 : decode cX8_addEdge 5 = .ok (.iload_n 2, 1) := by decide +kernel
theorem dX8_addEdge_6 : decode cX8_addEdge 6 = .ok (.invokevirtual 89, 3) := by decide +kernel
theorem dX8_addEdge_9 : decode cX8_addEdge 9 = .ok (.ifCond .ne 13, 3) := by decide +kernel
theorem dX8_addEdge_12 : decode cX8_addEdge 12 = .ok (.new 75, 3) := by decide +kernel
theorem dX8_addEdge_15 : decode cX8_addEdge 15 = .ok (.dup, 1) := by decide +kernel
theorem dX8_addEdge_16 : decode cX8_addEdge 16 = .ok (.ldc 93, 2) := by decide +kernel
theorem dX8_addEdge_18 : decode cX8_addEdge 18 = .ok (.invokespecial 79, 3) := by decide +kernel
theorem dX8_addEdge_21 : decode cX8_addEdge 21 = .ok (.athrow, 1) := by decide +kernel
theorem dX8_addEdge_22 : decode cX8_addEdge 22 = .ok (.aload_n 0, 1) := by decide +kernel
theorem dX8_addEdge_23 : decode cX8_addEdge 23 = .ok (.getfield 12, 3) := by decide +kernel
theorem dX8_addEdge_26 : decode cX8_addEdge 26 = .ok (.invokevirtual 95, 3) := by decide +kernel
theorem dX8_addEdge_29 : decode cX8_addEdge 29 = .ok (.ifCond .eq 13, 3) := by decide +kernel
theorem dX8_addEdge_32 : decode cX8_addEdge 32 = .ok (.new 99, 3) := by decide +kernel
theorem dX8_addEdge_35 : decode cX8_addEdge 35 = .ok (.dup, 1) := by decide +kernel
theorem dX8_addEdge_36 : decode cX8_addEdge 36 = .ok (.ldc 101, 2) := by decide +kernel
theorem dX8_addEdge_38 : decode cX8_addEdge 38 = .ok (.invokespecial 103, 3) := by decide +kernel
theorem dX8_addEdge_41 : decode cX8_addEdge 41 = .ok (.athrow, 1) := by decide +kernel
theorem dX8_addEdge_42 : decode cX8_addEdge 42 = .ok (.aload_n 0, 1) := by decide +kernel
theorem dX8_addEdge_43 : decode cX8_addEdge 43 = .ok (.invokevirtual 86, 3) := by decide +kernel
theorem dX8_addEdge_46 : decode cX8_addEdge 46 = .ok (.aload_n 0, 1) := by decide +kernel
theorem dX8_addEdge_47 : decode cX8_addEdge 47 = .ok (.getfield 12, 3) := by decide +kernel
theorem dX8_addEdge_50 : decode cX8_addEdge 50 = .ok (.iload_n 1, 1) := by decide +kernel
theorem dX8_addEdge_51 : decode cX8_addEdge 51 = .ok (.iload_n 2, 1) := by decide +kernel
theorem dX8_addEdge_52 : decode cX8_addEdge 52 = .ok (.invokevirtual 104, 3) := by decide +kernel
theorem dX8_addEdge_55 : decode cX8_addEdge 55 = .ok (.ireturn, 1) := by decide +kernel
theorem dX8_setWeight_0 : decode cX8_setWeight 0 = .ok (.aload_n 0, 1) := by decide +kernel
theorem dX8_setWeight_1 : decode cX8_setWeight 1 = .ok (.iload_n 1, 1) := by decide +kernel
theorem dX8_setWeight_2 : decode cX8_setWeight 2 = .ok (.invokevirtual 108, 3) := by decide +kernel
theorem dX8_setWeight_5 : decode cX8_setWeight 5 = .ok (.iload_n 2, 1) := by decide +kernel
theorem dX8_setWeight_6 : decode cX8_setWeight 6 = .ok (.ifCond .lt 9, 3) := by decide +kernel
theorem dX8_setWeight_9 : decode cX8_setWeight 9 = .ok (.iload_n 2, 1) := by decide +kernel
theorem dX8_setWeight_10 : decode cX8_setWeight 10 = .ok (.bipush 99, 2) := by decide +kernel
theorem dX8_setWeight_12 : decode cX8_setWeight 12 = .ok (.if_icmp .le 13, 3) := by decide +kernel
theorem dX8_setWeight_15 : decode cX8_setWeight 15 = .ok (.new 75, 3) := by decide +kernel
theorem dX8_setWeight_18 : decode cX8_setWeight 18 = .ok (.dup, 1) := by decide +kernel
theorem dX8_setWeight_19 : decode cX8_setWeight 19 = .ok (.ldc 111, 2) := by decide +kernel
theorem dX8_setWeight_21 : decode cX8_setWeight 21 = .ok (.invokespecial 79, 3) := by decide +kernel
theorem dX8_setWeight_24 : decode cX8_setWeight 24 = .ok (.athrow, 1) := by decide +kernel
theorem dX8_setWeight_25 : decode cX8_setWeight 25 = .ok (.aload_n 0, 1) := by decide +kernel
theorem dX8_setWeight_26 : decode cX8_setWeight 26 = .ok (.getfield 12, 3) := by decide +kernel
theorem dX8_setWeight_29 : decode cX8_setWeight 29 = .ok (.getfield 113, 3) := by decide +kernel
theorem dX8_setWeight_32 : decode cX8_setWeight 32 = .ok (.iload_n 1, 1) := by decide +kernel
theorem dX8_setWeight_33 : decode cX8_setWeight 33 = .ok (.iaload, 1) := by decide +kernel
theorem dX8_setWeight_34 : decode cX8_setWeight 34 = .ok (.istore_n 3, 1) := by decide +kernel
theorem dX8_setWeight_35 : decode cX8_setWeight 35 = .ok (.aload_n 0, 1) := by decide +kernel
theorem dX8_setWeight_36 : decode cX8_setWeight 36 = .ok (.getfield 12, 3) := by decide +kernel
theorem dX8_setWeight_39 : decode cX8_setWeight 39 = .ok (.getfield 113, 3) := by decide +kernel
theorem dX8_setWeight_42 : decode cX8_setWeight 42 = .ok (.iload_n 1, 1) := by decide +kernel
theorem dX8_setWeight_43 : decode cX8_setWeight 43 = .ok (.iload_n 2, 1) := by decide +kernel
theorem dX8_setWeight_44 : decode cX8_setWeight 44 = .ok (.iastore, 1) := by decide +kernel
theorem dX8_setWeight_45 : decode cX8_setWeight 45 = .ok (.aload_n 0, 1) := by decide +kernel
theorem dX8_setWeight_46 : decode cX8_setWeight 46 = .ok (.invokevirtual 86, 3) := by decide +kernel
theorem dX8_setWeight_49 : decode cX8_setWeight 49 = .ok (.iload_n 3, 1) := by decide +kernel
theorem dX8_setWeight_50 : decode cX8_setWeight 50 = .ok (.ireturn, 1) := by decide +kernel
theorem dX8_edgeCount_0 : decode cX8_edgeCount 0 = .ok (.aload_n 0, 1) := by decide +kernel
theorem dX8_edgeCount_1 : decode cX8_edgeCount 1 = .ok (.getfield 12, 3) := by decide +kernel
theorem dX8_edgeCount_4 : decode cX8_edgeCount 4 = .ok (.getfield 117, 3) := by decide +kernel
theorem dX8_edgeCount_7 : decode cX8_edgeCount 7 = .ok (.ireturn, 1) := by decide +kernel
theorem dX8_append_0 : decode cX8_append 0 = .ok (.iload_n 1, 1) := by decide +kernel
theorem dX8_append_1 : decode cX8_append 1 = .ok (.bipush 32, 2) := by decide +kernel
theorem dX8_append_3 : decode cX8_append 3 = .ok (.if_icmp .lt 9, 3) := by decide +kernel
theorem dX8_append_6 : decode cX8_append 6 = .ok (.iload_n 1, 1) := by decide +kernel
theorem dX8_append_7 : decode cX8_append 7 = .ok (.bipush 126, 2) := by decide +kernel
theorem dX8_append_9 : decode cX8_append 9 = .ok (.if_icmp .le 13, 3) := by decide +kernel
theorem dX8_append_12 : decode cX8_append 12 = .ok (.new 75, 3) := by decide +kernel
theorem dX8_append_15 : decode cX8_append 15 = .ok (.dup, 1) := by decide +kernel
theorem dX8_append_16 : decode cX8_append 16 = .ok (.ldc 121, 2) := by decide +kernel
theorem dX8_append_18 : decode cX8_append 18 = .ok (.invokespecial 79, 3) := by decide +kernel
theorem dX8_append_21 : decode cX8_append 21 = .ok (.athrow, 1) := by decide +kernel
theorem dX8_append_22 : decode cX8_append 22 = .ok (.aload_n 0, 1) := by decide +kernel
theorem dX8_append_23 : decode cX8_append 23 = .ok (.getfield 19, 3) := by decide +kernel
theorem dX8_append_26 : decode cX8_append 26 = .ok (.invokevirtual 123, 3) := by decide +kernel
theorem dX8_append_29 : decode cX8_append 29 = .ok (.ifCond .eq 13, 3) := by decide +kernel
theorem dX8_append_32 : decode cX8_append 32 = .ok (.new 99, 3) := by decide +kernel
theorem dX8_append_35 : decode cX8_append 35 = .ok (.dup, 1) := by decide +kernel
theorem dX8_append_36 : decode cX8_append 36 = .ok (.ldc 124, 2) := by decide +kernel
theorem dX8_append_38 : decode cX8_append 38 = .ok (.invokespecial 103, 3) := by decide +kernel
theorem dX8_append_41 : decode cX8_append 41 = .ok (.athrow, 1) := by decide +kernel
theorem dX8_append_42 : decode cX8_append 42 = .ok (.aload_n 0, 1) := by decide +kernel
theorem dX8_append_43 : decode cX8_append 43 = .ok (.getfield 19, 3) := by decide +kernel
theorem dX8_append_46 : decode cX8_append 46 = .ok (.iload_n 1, 1) := by decide +kernel
theorem dX8_append_47 : decode cX8_append 47 = .ok (.invokevirtual 126, 3) := by decide +kernel
theorem dX8_append_50 : decode cX8_append 50 = .ok (.aload_n 0, 1) := by decide +kernel
theorem dX8_append_51 : decode cX8_append 51 = .ok (.getfield 19, 3) := by decide +kernel
theorem dX8_append_54 : decode cX8_append 54 = .ok (.getfield 128, 3) := by decide +kernel
theorem dX8_append_57 : decode cX8_append 57 = .ok (.ireturn, 1) := by decide +kernel
theorem dX8_clearInput_0 : decode cX8_clearInput 0 = .ok (.aload_n 0, 1) := by decide +kernel
theorem dX8_clearInput_1 : decode cX8_clearInput 1 = .ok (.getfield 19, 3) := by decide +kernel
theorem dX8_clearInput_4 : decode cX8_clearInput 4 = .ok (.getfield 128, 3) := by decide +kernel
theorem dX8_clearInput_7 : decode cX8_clearInput 7 = .ok (.istore_n 1, 1) := by decide +kernel
theorem dX8_clearInput_8 : decode cX8_clearInput 8 = .ok (.aload_n 0, 1) := by decide +kernel
theorem dX8_clearInput_9 : decode cX8_clearInput 9 = .ok (.getfield 19, 3) := by decide +kernel
theorem dX8_clearInput_12 : decode cX8_clearInput 12 = .ok (.iconst 0, 1) := by decide +kernel
theorem dX8_clearInput_13 : decode cX8_clearInput 13 = .ok (.putfield 128, 3) := by decide +kernel
theorem dX8_clearInput_16 : decode cX8_clearInput 16 = .ok (.iload_n 1, 1) := by decide +kernel
theorem dX8_clearInput_17 : decode cX8_clearInput 17 = .ok (.ireturn, 1) := by decide +kernel
theorem dX8_firstError_0 : decode cX8_firstError 0 = .ok (.aload_n 0, 1) := by decide +kernel
theorem dX8_firstError_1 : decode cX8_firstError 1 = .ok (.getfield 26, 3) := by decide +kernel
theorem dX8_firstError_4 : decode cX8_firstError 4 = .ok (.aload_n 0, 1) := by decide +kernel
theorem dX8_firstError_5 : decode cX8_firstError 5 = .ok (.getfield 19, 3) := by decide +kernel
theorem dX8_firstError_8 : decode cX8_firstError 8 = .ok (.invokevirtual 131, 3) := by decide +kernel
theorem dX8_firstError_11 : decode cX8_firstError 11 = .ok (.ireturn, 1) := by decide +kernel
theorem dX8_load_0 : decode cX8_load 0 = .ok (.aload_n 0, 1) := by decide +kernel
theorem dX8_load_1 : decode cX8_load 1 = .ok (.getfield 26, 3) := by decide +kernel
theorem dX8_load_4 : decode cX8_load 4 = .ok (.aload_n 0, 1) := by decide +kernel
theorem dX8_load_5 : decode cX8_load 5 = .ok (.getfield 19, 3) := by decide +kernel
theorem dX8_load_8 : decode cX8_load 8 = .ok (.invokevirtual 135, 3) := by decide +kernel
theorem dX8_load_11 : decode cX8_load 11 = .ok (.ifCond .ne 13, 3) := by decide +kernel
theorem dX8_load_14 : decode cX8_load 14 = .ok (.new 99, 3) := by decide +kernel
theorem dX8_load_17 : decode cX8_load 17 = .ok (.dup, 1) := by decide +kernel
theorem dX8_load_18 : decode cX8_load 18 = .ok (.ldc 139, 2) := by decide +kernel
theorem dX8_load_20 : decode cX8_load 20 = .ok (.invokespecial 103, 3) := by decide +kernel
theorem dX8_load_23 : decode cX8_load 23 = .ok (.athrow, 1) := by decide +kernel
theorem dX8_load_24 : decode cX8_load 24 = .ok (.aload_n 0, 1) := by decide +kernel
theorem dX8_load_25 : decode cX8_load 25 = .ok (.getfield 12, 3) := by decide +kernel
theorem dX8_load_28 : decode cX8_load 28 = .ok (.aload_n 0, 1) := by decide +kernel
theorem dX8_load_29 : decode cX8_load 29 = .ok (.getfield 26, 3) := by decide +kernel
theorem dX8_load_32 : decode cX8_load 32 = .ok (.getfield 141, 3) := by decide +kernel
theorem dX8_load_35 : decode cX8_load 35 = .ok (.invokevirtual 144, 3) := by decide +kernel
theorem dX8_load_38 : decode cX8_load 38 = .ok (.aload_n 0, 1) := by decide +kernel
theorem dX8_load_39 : decode cX8_load 39 = .ok (.getfield 19, 3) := by decide +kernel
theorem dX8_load_42 : decode cX8_load 42 = .ok (.iconst 0, 1) := by decide +kernel
theorem dX8_load_43 : decode cX8_load 43 = .ok (.putfield 128, 3) := by decide +kernel
theorem dX8_load_46 : decode cX8_load 46 = .ok (.aload_n 0, 1) := by decide +kernel
theorem dX8_load_47 : decode cX8_load 47 = .ok (.invokevirtual 86, 3) := by decide +kernel
theorem dX8_load_50 : decode cX8_load 50 = .ok (.aload_n 0, 1) := by decide +kernel
theorem dX8_load_51 : decode cX8_load 51 = .ok (.getfield 12, 3) := by decide +kernel
theorem dX8_load_54 : decode cX8_load 54 = .ok (.getfield 117, 3) := by decide +kernel
theorem dX8_load_57 : decode cX8_load 57 = .ok (.ireturn, 1) := by decide +kernel
theorem dX8_analyse_0 : decode cX8_analyse 0 = .ok (.aload_n 0, 1) := by decide +kernel
theorem dX8_analyse_1 : decode cX8_analyse 1 = .ok (.invokevirtual 86, 3) := by decide +kernel
theorem dX8_analyse_4 : decode cX8_analyse 4 = .ok (.aload_n 0, 1) := by decide +kernel
theorem dX8_analyse_5 : decode cX8_analyse 5 = .ok (.getfield 35, 3) := by decide +kernel
theorem dX8_analyse_8 : decode cX8_analyse 8 = .ok (.invokevirtual 147, 3) := by decide +kernel
theorem dX8_analyse_11 : decode cX8_analyse 11 = .ok (.aload_n 0, 1) := by decide +kernel
theorem dX8_analyse_12 : decode cX8_analyse 12 = .ok (.getfield 35, 3) := by decide +kernel
theorem dX8_analyse_15 : decode cX8_analyse 15 = .ok (.invokevirtual 150, 3) := by decide +kernel
theorem dX8_analyse_18 : decode cX8_analyse 18 = .ok (.ifCond .eq 13, 3) := by decide +kernel
theorem dX8_analyse_21 : decode cX8_analyse 21 = .ok (.aload_n 0, 1) := by decide +kernel
theorem dX8_analyse_22 : decode cX8_analyse 22 = .ok (.getfield 35, 3) := by decide +kernel
theorem dX8_analyse_25 : decode cX8_analyse 25 = .ok (.invokevirtual 153, 3) := by decide +kernel
theorem dX8_analyse_28 : decode cX8_analyse 28 = .ok (.ifCond .ne 5, 3) := by decide +kernel
theorem dX8_analyse_31 : decode cX8_analyse 31 = .ok (.iconst 0, 1) := by decide +kernel
theorem dX8_analyse_32 : decode cX8_analyse 32 = .ok (.ireturn, 1) := by decide +kernel
theorem dX8_analyse_33 : decode cX8_analyse 33 = .ok (.aload_n 0, 1) := by decide +kernel
theorem dX8_analyse_34 : decode cX8_analyse 34 = .ok (.getfield 44, 3) := by decide +kernel
theorem dX8_analyse_37 : decode cX8_analyse 37 = .ok (.invokevirtual 156, 3) := by decide +kernel
theorem dX8_analyse_40 : decode cX8_analyse 40 = .ok (.aload_n 0, 1) := by decide +kernel
theorem dX8_analyse_41 : decode cX8_analyse 41 = .ok (.getfield 53, 3) := by decide +kernel
theorem dX8_analyse_44 : decode cX8_analyse 44 = .ok (.invokevirtual 159, 3) := by decide +kernel
theorem dX8_analyse_47 : decode cX8_analyse 47 = .ok (.aload_n 0, 1) := by decide +kernel
theorem dX8_analyse_48 : decode cX8_analyse 48 = .ok (.iconst 1, 1) := by decide +kernel
theorem dX8_analyse_49 : decode cX8_analyse 49 = .ok (.putfield 71, 3) := by decide +kernel
theorem dX8_analyse_52 : decode cX8_analyse 52 = .ok (.aload_n 0, 1) := by decide +kernel
theorem dX8_analyse_53 : decode cX8_analyse 53 = .ok (.getfield 44, 3) := by decide +kernel
theorem dX8_analyse_56 : decode cX8_analyse 56 = .ok (.invokevirtual 160, 3) := by decide +kernel
theorem dX8_analyse_59 : decode cX8_analyse 59 = .ok (.ireturn, 1) := by decide +kernel
theorem dX8_pathsFrom_0 : decode cX8_pathsFrom 0 = .ok (.aload_n 0, 1) := by decide +kernel
theorem dX8_pathsFrom_1 : decode cX8_pathsFrom 1 = .ok (.invokevirtual 164, 3) := by decide +kernel
theorem dX8_pathsFrom_4 : decode cX8_pathsFrom 4 = .ok (.aload_n 0, 1) := by decide +kernel
theorem dX8_pathsFrom_5 : decode cX8_pathsFrom 5 = .ok (.getfield 12, 3) := by decide +kernel
theorem dX8_pathsFrom_8 : decode cX8_pathsFrom 8 = .ok (.iload_n 1, 1) := by decide +kernel
theorem dX8_pathsFrom_9 : decode cX8_pathsFrom 9 = .ok (.invokevirtual 167, 3) := by decide +kernel
theorem dX8_pathsFrom_12 : decode cX8_pathsFrom 12 = .ok (.ifCond .ne 13, 3) := by decide +kernel
theorem dX8_pathsFrom_15 : decode cX8_pathsFrom 15 = .ok (.new 171, 3) := by decide +kernel
theorem dX8_pathsFrom_18 : decode cX8_pathsFrom 18 = .ok (.dup, 1) := by decide +kernel
theorem dX8_pathsFrom_19 : decode cX8_pathsFrom 19 = .ok (.ldc 173, 2) := by decide +kernel
theorem dX8_pathsFrom_21 : decode cX8_pathsFrom 21 = .ok (.invokespecial 175, 3) := by decide +kernel
theorem dX8_pathsFrom_24 : decode cX8_pathsFrom 24 = .ok (.athrow, 1) := by decide +kernel
theorem dX8_pathsFrom_25 : decode cX8_pathsFrom 25 = .ok (.aload_n 0, 1) := by decide +kernel
theorem dX8_pathsFrom_26 : decode cX8_pathsFrom 26 = .ok (.getfield 44, 3) := by decide +kernel
theorem dX8_pathsFrom_29 : decode cX8_pathsFrom 29 = .ok (.getfield 176, 3) := by decide +kernel
theorem dX8_pathsFrom_32 : decode cX8_pathsFrom 32 = .ok (.iload_n 1, 1) := by decide +kernel
theorem dX8_pathsFrom_33 : decode cX8_pathsFrom 33 = .ok (.iaload, 1) := by decide +kernel
theorem dX8_pathsFrom_34 : decode cX8_pathsFrom 34 = .ok (.ireturn, 1) := by decide +kernel
theorem dX8_isBack_0 : decode cX8_isBack 0 = .ok (.aload_n 0, 1) := by decide +kernel
theorem dX8_isBack_1 : decode cX8_isBack 1 = .ok (.invokevirtual 164, 3) := by decide +kernel
theorem dX8_isBack_4 : decode cX8_isBack 4 = .ok (.aload_n 0, 1) := by decide +kernel
theorem dX8_isBack_5 : decode cX8_isBack 5 = .ok (.iload_n 1, 1) := by decide +kernel
theorem dX8_isBack_6 : decode cX8_isBack 6 = .ok (.invokevirtual 108, 3) := by decide +kernel
theorem dX8_isBack_9 : decode cX8_isBack 9 = .ok (.aload_n 0, 1) := by decide +kernel
theorem dX8_isBack_10 : decode cX8_isBack 10 = .ok (.getfield 35, 3) := by decide +kernel
theorem dX8_isBack_13 : decode cX8_isBack 13 = .ok (.getfield 179, 3) := by decide +kernel
theorem dX8_isBack_16 : decode cX8_isBack 16 = .ok (.iload_n 1, 1) := by decide +kernel
theorem dX8_isBack_17 : decode cX8_isBack 17 = .ok (.baload, 1) := by decide +kernel
theorem dX8_isBack_18 : decode cX8_isBack 18 = .ok (.ireturn, 1) := by decide +kernel
theorem dX8_value_0 : decode cX8_value 0 = .ok (.aload_n 0, 1) := by decide +kernel
theorem dX8_value_1 : decode cX8_value 1 = .ok (.invokevirtual 164, 3) := by decide +kernel
theorem dX8_value_4 : decode cX8_value 4 = .ok (.aload_n 0, 1) := by decide +kernel
theorem dX8_value_5 : decode cX8_value 5 = .ok (.iload_n 1, 1) := by decide +kernel
theorem dX8_value_6 : decode cX8_value 6 = .ok (.invokevirtual 108, 3) := by decide +kernel
theorem dX8_value_9 : decode cX8_value 9 = .ok (.aload_n 0, 1) := by decide +kernel
theorem dX8_value_10 : decode cX8_value 10 = .ok (.getfield 44, 3) := by decide +kernel
theorem dX8_value_13 : decode cX8_value 13 = .ok (.getfield 183, 3) := by decide +kernel
theorem dX8_value_16 : decode cX8_value 16 = .ok (.aload_n 0, 1) := by decide +kernel
theorem dX8_value_17 : decode cX8_value 17 = .ok (.getfield 44, 3) := by decide +kernel
theorem dX8_value_20 : decode cX8_value 20 = .ok (.iload_n 1, 1) := by decide +kernel
theorem dX8_value_21 : decode cX8_value 21 = .ok (.iload_n 2, 1) := by decide +kernel
theorem dX8_value_22 : decode cX8_value 22 = .ok (.invokevirtual 186, 3) := by decide +kernel
theorem dX8_value_25 : decode cX8_value 25 = .ok (.iaload, 1) := by decide +kernel
theorem dX8_value_26 : decode cX8_value 26 = .ok (.ireturn, 1) := by decide +kernel
theorem dX8_increment_0 : decode cX8_increment 0 = .ok (.aload_n 0, 1) := by decide +kernel
theorem dX8_increment_1 : decode cX8_increment 1 = .ok (.invokevirtual 164, 3) := by decide +kernel
theorem dX8_increment_4 : decode cX8_increment 4 = .ok (.aload_n 0, 1) := by decide +kernel
theorem dX8_increment_5 : decode cX8_increment 5 = .ok (.iload_n 1, 1) := by decide +kernel
theorem dX8_increment_6 : decode cX8_increment 6 = .ok (.invokevirtual 108, 3) := by decide +kernel
theorem dX8_increment_9 : decode cX8_increment 9 = .ok (.aload_n 0, 1) := by decide +kernel
theorem dX8_increment_10 : decode cX8_increment 10 = .ok (.getfield 53, 3) := by decide +kernel
theorem dX8_increment_13 : decode cX8_increment 13 = .ok (.getfield 190, 3) := by decide +kernel
theorem dX8_increment_16 : decode cX8_increment 16 = .ok (.aload_n 0, 1) := by decide +kernel
theorem dX8_increment_17 : decode cX8_increment 17 = .ok (.getfield 44, 3) := by decide +kernel
theorem dX8_increment_20 : decode cX8_increment 20 = .ok (.iload_n 1, 1) := by decide +kernel
theorem dX8_increment_21 : decode cX8_increment 21 = .ok (.iload_n 2, 1) := by decide +kernel
theorem dX8_increment_22 : decode cX8_increment 22 = .ok (.invokevirtual 186, 3) := by decide +kernel
theorem dX8_increment_25 : decode cX8_increment 25 = .ok (.iaload, 1) := by decide +kernel
theorem dX8_increment_26 : decode cX8_increment 26 = .ok (.ireturn, 1) := by decide +kernel
theorem dX8_chords_0 : decode cX8_chords 0 = .ok (.aload_n 0, 1) := by decide +kernel
theorem dX8_chords_1 : decode cX8_chords 1 = .ok (.invokevirtual 164, 3) := by decide +kernel
theorem dX8_chords_4 : decode cX8_chords 4 = .ok (.iload_n 1, 1) := by decide +kernel
theorem dX8_chords_5 : decode cX8_chords 5 = .ok (.ifCond .eq 13, 3) := by decide +kernel
theorem dX8_chords_8 : decode cX8_chords 8 = .ok (.aload_n 0, 1) := by decide +kernel
theorem dX8_chords_9 : decode cX8_chords 9 = .ok (.getfield 53, 3) := by decide +kernel
theorem dX8_chords_12 : decode cX8_chords 12 = .ok (.getfield 193, 3) := by decide +kernel
theorem dX8_chords_15 : decode cX8_chords 15 = .ok (.goto 10, 3) := by decide +kernel
theorem dX8_chords_18 : decode cX8_chords 18 = .ok (.aload_n 0, 1) := by decide +kernel
theorem dX8_chords_19 : decode cX8_chords 19 = .ok (.getfield 53, 3) := by decide +kernel
theorem dX8_chords_22 : decode cX8_chords 22 = .ok (.getfield 196, 3) := by decide +kernel
theorem dX8_chords_25 : decode cX8_chords 25 = .ok (.ireturn, 1) := by decide +kernel
theorem dX8_pathLength_0 : decode cX8_pathLength 0 = .ok (.aload_n 0, 1) := by decide +kernel
theorem dX8_pathLength_1 : decode cX8_pathLength 1 = .ok (.invokevirtual 164, 3) := by decide +kernel
theorem dX8_pathLength_4 : decode cX8_pathLength 4 = .ok (.aload_n 0, 1) := by decide +kernel
theorem dX8_pathLength_5 : decode cX8_pathLength 5 = .ok (.iload_n 1, 1) := by decide +kernel
theorem dX8_pathLength_6 : decode cX8_pathLength 6 = .ok (.invokevirtual 199, 3) := by decide +kernel
theorem dX8_pathLength_9 : decode cX8_pathLength 9 = .ok (.aload_n 0, 1) := by decide +kernel
theorem dX8_pathLength_10 : decode cX8_pathLength 10 = .ok (.getfield 60, 3) := by decide +kernel
theorem dX8_pathLength_13 : decode cX8_pathLength 13 = .ok (.iload_n 1, 1) := by decide +kernel
theorem dX8_pathLength_14 : decode cX8_pathLength 14 = .ok (.invokevirtual 202, 3) := by decide +kernel
theorem dX8_pathLength_17 : decode cX8_pathLength 17 = .ok (.aload_n 0, 1) := by decide +kernel
theorem dX8_pathLength_18 : decode cX8_pathLength 18 = .ok (.getfield 60, 3) := by decide +kernel
theorem dX8_pathLength_21 : decode cX8_pathLength 21 = .ok (.invokevirtual 205, 3) := by decide +kernel
theorem dX8_pathLength_24 : decode cX8_pathLength 24 = .ok (.ireturn, 1) := by decide +kernel
theorem dX8_pathNode_0 : decode cX8_pathNode 0 = .ok (.aload_n 0, 1) := by decide +kernel
theorem dX8_pathNode_1 : decode cX8_pathNode 1 = .ok (.invokevirtual 164, 3) := by decide +kernel
theorem dX8_pathNode_4 : decode cX8_pathNode 4 = .ok (.aload_n 0, 1) := by decide +kernel
theorem dX8_pathNode_5 : decode cX8_pathNode 5 = .ok (.iload_n 1, 1) := by decide +kernel
theorem dX8_pathNode_6 : decode cX8_pathNode 6 = .ok (.invokevirtual 199, 3) := by decide +kernel
theorem dX8_pathNode_9 : decode cX8_pathNode 9 = .ok (.aload_n 0, 1) := by decide +kernel
theorem dX8_pathNode_10 : decode cX8_pathNode 10 = .ok (.getfield 60, 3) := by decide +kernel
theorem dX8_pathNode_13 : decode cX8_pathNode 13 = .ok (.iload_n 1, 1) := by decide +kernel
theorem dX8_pathNode_14 : decode cX8_pathNode 14 = .ok (.invokevirtual 202, 3) := by decide +kernel
theorem dX8_pathNode_17 : decode cX8_pathNode 17 = .ok (.iload_n 2, 1) := by decide +kernel
theorem dX8_pathNode_18 : decode cX8_pathNode 18 = .ok (.ifCond .lt 14, 3) := by decide +kernel
theorem dX8_pathNode_21 : decode cX8_pathNode 21 = .ok (.iload_n 2, 1) := by decide +kernel
theorem dX8_pathNode_22 : decode cX8_pathNode 22 = .ok (.aload_n 0, 1) := by decide +kernel
theorem dX8_pathNode_23 : decode cX8_pathNode 23 = .ok (.getfield 60, 3) := by decide +kernel
theorem dX8_pathNode_26 : decode cX8_pathNode 26 = .ok (.invokevirtual 205, 3) := by decide +kernel
theorem dX8_pathNode_29 : decode cX8_pathNode 29 = .ok (.if_icmp .lt 13, 3) := by decide +kernel
theorem dX8_pathNode_32 : decode cX8_pathNode 32 = .ok (.new 171, 3) := by decide +kernel
theorem dX8_pathNode_35 : decode cX8_pathNode 35 = .ok (.dup, 1) := by decide +kernel
theorem dX8_pathNode_36 : decode cX8_pathNode 36 = .ok (.ldc 208, 2) := by decide +kernel
theorem dX8_pathNode_38 : decode cX8_pathNode 38 = .ok (.invokespecial 175, 3) := by decide +kernel
theorem dX8_pathNode_41 : decode cX8_pathNode 41 = .ok (.athrow, 1) := by decide +kernel
theorem dX8_pathNode_42 : decode cX8_pathNode 42 = .ok (.aload_n 0, 1) := by decide +kernel
theorem dX8_pathNode_43 : decode cX8_pathNode 43 = .ok (.getfield 60, 3) := by decide +kernel
theorem dX8_pathNode_46 : decode cX8_pathNode 46 = .ok (.iload_n 2, 1) := by decide +kernel
theorem dX8_pathNode_47 : decode cX8_pathNode 47 = .ok (.invokevirtual 210, 3) := by decide +kernel
theorem dX8_pathNode_50 : decode cX8_pathNode 50 = .ok (.ireturn, 1) := by decide +kernel
theorem dX8_pathEdge_0 : decode cX8_pathEdge 0 = .ok (.aload_n 0, 1) := by decide +kernel
theorem dX8_pathEdge_1 : decode cX8_pathEdge 1 = .ok (.invokevirtual 164, 3) := by decide +kernel
theorem dX8_pathEdge_4 : decode cX8_pathEdge 4 = .ok (.aload_n 0, 1) := by decide +kernel
theorem dX8_pathEdge_5 : decode cX8_pathEdge 5 = .ok (.iload_n 1, 1) := by decide +kernel
theorem dX8_pathEdge_6 : decode cX8_pathEdge 6 = .ok (.invokevirtual 199, 3) := by decide +kernel
theorem dX8_pathEdge_9 : decode cX8_pathEdge 9 = .ok (.aload_n 0, 1) := by decide +kernel
theorem dX8_pathEdge_10 : decode cX8_pathEdge 10 = .ok (.getfield 60, 3) := by decide +kernel
theorem dX8_pathEdge_13 : decode cX8_pathEdge 13 = .ok (.iload_n 1, 1) := by decide +kernel
theorem dX8_pathEdge_14 : decode cX8_pathEdge 14 = .ok (.invokevirtual 202, 3) := by decide +kernel
theorem dX8_pathEdge_17 : decode cX8_pathEdge 17 = .ok (.iload_n 2, 1) := by decide +kernel
theorem dX8_pathEdge_18 : decode cX8_pathEdge 18 = .ok (.ifCond .eq 13, 3) := by decide +kernel
theorem dX8_pathEdge_21 : decode cX8_pathEdge 21 = .ok (.aload_n 0, 1) := by decide +kernel
theorem dX8_pathEdge_22 : decode cX8_pathEdge 22 = .ok (.getfield 60, 3) := by decide +kernel
theorem dX8_pathEdge_25 : decode cX8_pathEdge 25 = .ok (.invokevirtual 214, 3) := by decide +kernel
theorem dX8_pathEdge_28 : decode cX8_pathEdge 28 = .ok (.goto 10, 3) := by decide +kernel
theorem dX8_pathEdge_31 : decode cX8_pathEdge 31 = .ok (.aload_n 0, 1) := by decide +kernel
theorem dX8_pathEdge_32 : decode cX8_pathEdge 32 = .ok (.getfield 60, 3) := by decide +kernel
theorem dX8_pathEdge_35 : decode cX8_pathEdge 35 = .ok (.invokevirtual 217, 3) := by decide +kernel
theorem dX8_pathEdge_38 : decode cX8_pathEdge 38 = .ok (.ireturn, 1) := by decide +kernel
theorem dX8_findPath_0 : decode cX8_findPath 0 = .ok (.aload_n 0, 1) := by decide +kernel
theorem dX8_findPath_1 : decode cX8_findPath 1 = .ok (.invokevirtual 164, 3) := by decide +kernel
theorem dX8_findPath_4 : decode cX8_findPath 4 = .ok (.aload_n 0, 1) := by decide +kernel
theorem dX8_findPath_5 : decode cX8_findPath 5 = .ok (.getfield 60, 3) := by decide +kernel
theorem dX8_findPath_8 : decode cX8_findPath 8 = .ok (.aload_n 0, 1) := by decide +kernel
theorem dX8_findPath_9 : decode cX8_findPath 9 = .ok (.getfield 19, 3) := by decide +kernel
theorem dX8_findPath_12 : decode cX8_findPath 12 = .ok (.invokevirtual 220, 3) := by decide +kernel
theorem dX8_findPath_15 : decode cX8_findPath 15 = .ok (.ireturn, 1) := by decide +kernel
theorem dX8_start_0 : decode cX8_start 0 = .ok (.aload_n 0, 1) := by decide +kernel
theorem dX8_start_1 : decode cX8_start 1 = .ok (.invokevirtual 223, 3) := by decide +kernel
theorem dX8_start_4 : decode cX8_start 4 = .ok (.aload_n 0, 1) := by decide +kernel
theorem dX8_start_5 : decode cX8_start 5 = .ok (.getfield 67, 3) := by decide +kernel
theorem dX8_start_8 : decode cX8_start 8 = .ok (.invokevirtual 226, 3) := by decide +kernel
theorem dX8_start_11 : decode cX8_start 11 = .ok (.return_, 1) := by decide +kernel
theorem dX8_step_0 : decode cX8_step 0 = .ok (.aload_n 0, 1) := by decide +kernel
theorem dX8_step_1 : decode cX8_step 1 = .ok (.getfield 67, 3) := by decide +kernel
theorem dX8_step_4 : decode cX8_step 4 = .ok (.getfield 229, 3) := by decide +kernel
theorem dX8_step_7 : decode cX8_step 7 = .ok (.iconst (-1), 1) := by decide +kernel
theorem dX8_step_8 : decode cX8_step 8 = .ok (.if_icmp .eq 20, 3) := by decide +kernel
theorem dX8_step_11 : decode cX8_step 11 = .ok (.aload_n 0, 1) := by decide +kernel
theorem dX8_step_12 : decode cX8_step 12 = .ok (.getfield 67, 3) := by decide +kernel
theorem dX8_step_15 : decode cX8_step 15 = .ok (.getfield 229, 3) := by decide +kernel
theorem dX8_step_18 : decode cX8_step 18 = .ok (.aload_n 0, 1) := by decide +kernel
theorem dX8_step_19 : decode cX8_step 19 = .ok (.getfield 12, 3) := by decide +kernel
theorem dX8_step_22 : decode cX8_step 22 = .ok (.invokevirtual 232, 3) := by decide +kernel
theorem dX8_step_25 : decode cX8_step 25 = .ok (.if_icmp .ne 13, 3) := by decide +kernel
theorem dX8_step_28 : decode cX8_step 28 = .ok (.new 99, 3) := by decide +kernel
theorem dX8_step_31 : decode cX8_step 31 = .ok (.dup, 1) := by decide +kernel
theorem dX8_step_32 : decode cX8_step 32 = .ok (.ldc 235, 2) := by decide +kernel
theorem dX8_step_34 : decode cX8_step 34 = .ok (.invokespecial 103, 3) := by decide +kernel
theorem dX8_step_37 : decode cX8_step 37 = .ok (.athrow, 1) := by decide +kernel
theorem dX8_step_38 : decode cX8_step 38 = .ok (.aload_n 0, 1) := by decide +kernel
theorem dX8_step_39 : decode cX8_step 39 = .ok (.getfield 12, 3) := by decide +kernel
theorem dX8_step_42 : decode cX8_step 42 = .ok (.aload_n 0, 1) := by decide +kernel
theorem dX8_step_43 : decode cX8_step 43 = .ok (.getfield 67, 3) := by decide +kernel
theorem dX8_step_46 : decode cX8_step 46 = .ok (.getfield 229, 3) := by decide +kernel
theorem dX8_step_49 : decode cX8_step 49 = .ok (.iload_n 1, 1) := by decide +kernel
theorem dX8_step_50 : decode cX8_step 50 = .ok (.invokevirtual 237, 3) := by decide +kernel
theorem dX8_step_53 : decode cX8_step 53 = .ok (.istore_n 2, 1) := by decide +kernel
theorem dX8_step_54 : decode cX8_step 54 = .ok (.iload_n 2, 1) := by decide +kernel
theorem dX8_step_55 : decode cX8_step 55 = .ok (.iconst (-1), 1) := by decide +kernel
theorem dX8_step_56 : decode cX8_step 56 = .ok (.if_icmp .ne 13, 3) := by decide +kernel
theorem dX8_step_59 : decode cX8_step 59 = .ok (.new 171, 3) := by decide +kernel
theorem dX8_step_62 : decode cX8_step 62 = .ok (.dup, 1) := by decide +kernel
theorem dX8_step_63 : decode cX8_step 63 = .ok (.ldc 240, 2) := by decide +kernel
theorem dX8_step_65 : decode cX8_step 65 = .ok (.invokespecial 175, 3) := by decide +kernel
theorem dX8_step_68 : decode cX8_step 68 = .ok (.athrow, 1) := by decide +kernel
theorem dX8_step_69 : decode cX8_step 69 = .ok (.aload_n 0, 1) := by decide +kernel
theorem dX8_step_70 : decode cX8_step 70 = .ok (.iload_n 2, 1) := by decide +kernel
theorem dX8_step_71 : decode cX8_step 71 = .ok (.invokevirtual 242, 3) := by decide +kernel
theorem dX8_step_74 : decode cX8_step 74 = .ok (.aload_n 0, 1) := by decide +kernel
theorem dX8_step_75 : decode cX8_step 75 = .ok (.getfield 67, 3) := by decide +kernel
theorem dX8_step_78 : decode cX8_step 78 = .ok (.getfield 229, 3) := by decide +kernel
theorem dX8_step_81 : decode cX8_step 81 = .ok (.ireturn, 1) := by decide +kernel
theorem dX8_current_0 : decode cX8_current 0 = .ok (.aload_n 0, 1) := by decide +kernel
theorem dX8_current_1 : decode cX8_current 1 = .ok (.getfield 67, 3) := by decide +kernel
theorem dX8_current_4 : decode cX8_current 4 = .ok (.getfield 229, 3) := by decide +kernel
theorem dX8_current_7 : decode cX8_current 7 = .ok (.ireturn, 1) := by decide +kernel
theorem dX8_register_0 : decode cX8_register 0 = .ok (.aload_n 0, 1) := by decide +kernel
theorem dX8_register_1 : decode cX8_register 1 = .ok (.getfield 67, 3) := by decide +kernel
theorem dX8_register_4 : decode cX8_register 4 = .ok (.getfield 245, 3) := by decide +kernel
theorem dX8_register_7 : decode cX8_register 7 = .ok (.ireturn, 1) := by decide +kernel
theorem dX8_count_0 : decode cX8_count 0 = .ok (.aload_n 0, 1) := by decide +kernel
theorem dX8_count_1 : decode cX8_count 1 = .ok (.invokevirtual 223, 3) := by decide +kernel
theorem dX8_count_4 : decode cX8_count 4 = .ok (.aload_n 0, 1) := by decide +kernel
theorem dX8_count_5 : decode cX8_count 5 = .ok (.iload_n 1, 1) := by decide +kernel
theorem dX8_count_6 : decode cX8_count 6 = .ok (.invokevirtual 199, 3) := by decide +kernel
theorem dX8_count_9 : decode cX8_count 9 = .ok (.aload_n 0, 1) := by decide +kernel
theorem dX8_count_10 : decode cX8_count 10 = .ok (.getfield 67, 3) := by decide +kernel
theorem dX8_count_13 : decode cX8_count 13 = .ok (.getfield 248, 3) := by decide +kernel
theorem dX8_count_16 : decode cX8_count 16 = .ok (.iload_n 1, 1) := by decide +kernel
theorem dX8_count_17 : decode cX8_count 17 = .ok (.iaload, 1) := by decide +kernel
theorem dX8_count_18 : decode cX8_count 18 = .ok (.ireturn, 1) := by decide +kernel
theorem dX8_share_0 : decode cX8_share 0 = .ok (.aload_n 0, 1) := by decide +kernel
theorem dX8_share_1 : decode cX8_share 1 = .ok (.invokevirtual 223, 3) := by decide +kernel
theorem dX8_share_4 : decode cX8_share 4 = .ok (.aload_n 0, 1) := by decide +kernel
theorem dX8_share_5 : decode cX8_share 5 = .ok (.iload_n 1, 1) := by decide +kernel
theorem dX8_share_6 : decode cX8_share 6 = .ok (.invokevirtual 199, 3) := by decide +kernel
theorem dX8_share_9 : decode cX8_share 9 = .ok (.aload_n 0, 1) := by decide +kernel
theorem dX8_share_10 : decode cX8_share 10 = .ok (.getfield 67, 3) := by decide +kernel
theorem dX8_share_13 : decode cX8_share 13 = .ok (.getfield 251, 3) := by decide +kernel
theorem dX8_share_16 : decode cX8_share 16 = .ok (.ifCond .ne 5, 3) := by decide +kernel
theorem dX8_share_19 : decode cX8_share 19 = .ok (.dconst 0, 1) := by decide +kernel
theorem dX8_share_20 : decode cX8_share 20 = .ok (.dreturn, 1) := by decide +kernel
theorem dX8_share_21 : decode cX8_share 21 = .ok (.aload_n 0, 1) := by decide +kernel
theorem dX8_share_22 : decode cX8_share 22 = .ok (.getfield 67, 3) := by decide +kernel
theorem dX8_share_25 : decode cX8_share 25 = .ok (.getfield 248, 3) := by decide +kernel
theorem dX8_share_28 : decode cX8_share 28 = .ok (.iload_n 1, 1) := by decide +kernel
theorem dX8_share_29 : decode cX8_share 29 = .ok (.iaload, 1) := by decide +kernel
theorem dX8_share_30 : decode cX8_share 30 = .ok (.i2d, 1) := by decide +kernel
theorem dX8_share_31 : decode cX8_share 31 = .ok (.aload_n 0, 1) := by decide +kernel
theorem dX8_share_32 : decode cX8_share 32 = .ok (.getfield 67, 3) := by decide +kernel
theorem dX8_share_35 : decode cX8_share 35 = .ok (.getfield 251, 3) := by decide +kernel
theorem dX8_share_38 : decode cX8_share 38 = .ok (.i2d, 1) := by decide +kernel
theorem dX8_share_39 : decode cX8_share 39 = .ok (.ddiv, 1) := by decide +kernel
theorem dX8_share_40 : decode cX8_share 40 = .ok (.dreturn, 1) := by decide +kernel
theorem dX8_hottest_0 : decode cX8_hottest 0 = .ok (.aload_n 0, 1) := by decide +kernel
theorem dX8_hottest_1 : decode cX8_hottest 1 = .ok (.getfield 67, 3) := by decide +kernel
theorem dX8_hottest_4 : decode cX8_hottest 4 = .ok (.invokevirtual 254, 3) := by decide +kernel
theorem dX8_hottest_7 : decode cX8_hottest 7 = .ok (.ireturn, 1) := by decide +kernel
theorem dX8_edgeFrequency_0 : decode cX8_edgeFrequency 0 = .ok (.aload_n 0, 1) := by decide +kernel
theorem dX8_edgeFrequency_1 : decode cX8_edgeFrequency 1 = .ok (.invokevirtual 223, 3) := by decide +kernel
theorem dX8_edgeFrequency_4 : decode cX8_edgeFrequency 4 = .ok (.aload_n 0, 1) := by decide +kernel
theorem dX8_edgeFrequency_5 : decode cX8_edgeFrequency 5 = .ok (.iload_n 1, 1) := by decide +kernel
theorem dX8_edgeFrequency_6 : decode cX8_edgeFrequency 6 = .ok (.invokevirtual 108, 3) := by decide +kernel
theorem dX8_edgeFrequency_9 : decode cX8_edgeFrequency 9 = .ok (.aload_n 0, 1) := by decide +kernel
theorem dX8_edgeFrequency_10 : decode cX8_edgeFrequency 10 = .ok (.getfield 44, 3) := by decide +kernel
theorem dX8_edgeFrequency_13 : decode cX8_edgeFrequency 13 = .ok (.iload_n 1, 1) := by decide +kernel
theorem dX8_edgeFrequency_14 : decode cX8_edgeFrequency 14 = .ok (.iconst 1, 1) := by decide +kernel
theorem dX8_edgeFrequency_15 : decode cX8_edgeFrequency 15 = .ok (.invokevirtual 186, 3) := by decide +kernel
theorem dX8_edgeFrequency_18 : decode cX8_edgeFrequency 18 = .ok (.istore_n 2, 1) := by decide +kernel
theorem dX8_edgeFrequency_19 : decode cX8_edgeFrequency 19 = .ok (.iconst 0, 1) := by decide +kernel
theorem dX8_edgeFrequency_20 : decode cX8_edgeFrequency 20 = .ok (.istore_n 3, 1) := by decide +kernel
theorem dX8_edgeFrequency_21 : decode cX8_edgeFrequency 21 = .ok (.iconst 0, 1) := by decide +kernel
theorem dX8_edgeFrequency_22 : decode cX8_edgeFrequency 22 = .ok (.istore 4, 2) := by decide +kernel
theorem dX8_edgeFrequency_24 : decode cX8_edgeFrequency 24 = .ok (.iload 4, 2) := by decide +kernel
theorem dX8_edgeFrequency_26 : decode cX8_edgeFrequency 26 = .ok (.aload_n 0, 1) := by decide +kernel
theorem dX8_edgeFrequency_27 : decode cX8_edgeFrequency 27 = .ok (.getfield 44, 3) := by decide +kernel
theorem dX8_edgeFrequency_30 : decode cX8_edgeFrequency 30 = .ok (.invokevirtual 160, 3) := by decide +kernel
theorem dX8_edgeFrequency_33 : decode cX8_edgeFrequency 33 = .ok (.if_icmp .ge 67, 3) := by decide +kernel
theorem dX8_edgeFrequency_36 : decode cX8_edgeFrequency 36 = .ok (.iload 4, 2) := by decide +kernel
theorem dX8_edgeFrequency_38 : decode cX8_edgeFrequency 38 = .ok (.sipush 200, 3) := by decide +kernel
theorem dX8_edgeFrequency_41 : decode cX8_edgeFrequency 41 = .ok (.if_icmp .ge 59, 3) := by decide +kernel
theorem dX8_edgeFrequency_44 : decode cX8_edgeFrequency 44 = .ok (.aload_n 0, 1) := by decide +kernel
theorem dX8_edgeFrequency_45 : decode cX8_edgeFrequency 45 = .ok (.getfield 67, 3) := by decide +kernel
theorem dX8_edgeFrequency_48 : decode cX8_edgeFrequency 48 = .ok (.getfield 248, 3) := by decide +kernel
theorem dX8_edgeFrequency_51 : decode cX8_edgeFrequency 51 = .ok (.iload 4, 2) := by decide +kernel
theorem dX8_edgeFrequency_53 : decode cX8_edgeFrequency 53 = .ok (.iaload, 1) := by decide +kernel
theorem dX8_edgeFrequency_54 : decode cX8_edgeFrequency 54 = .ok (.ifCond .eq 40, 3) := by decide +kernel
theorem dX8_edgeFrequency_57 : decode cX8_edgeFrequency 57 = .ok (.aload_n 0, 1) := by decide +kernel
theorem dX8_edgeFrequency_58 : decode cX8_edgeFrequency 58 = .ok (.getfield 60, 3) := by decide +kernel
theorem dX8_edgeFrequency_61 : decode cX8_edgeFrequency 61 = .ok (.iload 4, 2) := by decide +kernel
theorem dX8_edgeFrequency_63 : decode cX8_edgeFrequency 63 = .ok (.invokevirtual 202, 3) := by decide +kernel
theorem dX8_edgeFrequency_66 : decode cX8_edgeFrequency 66 = .ok (.iload_n 3, 1) := by decide +kernel
theorem dX8_edgeFrequency_67 : decode cX8_edgeFrequency 67 = .ok (.aload_n 0, 1) := by decide +kernel
theorem dX8_edgeFrequency_68 : decode cX8_edgeFrequency 68 = .ok (.getfield 60, 3) := by decide +kernel
theorem dX8_edgeFrequency_71 : decode cX8_edgeFrequency 71 = .ok (.iload_n 2, 1) := by decide +kernel
theorem dX8_edgeFrequency_72 : decode cX8_edgeFrequency 72 = .ok (.invokevirtual 257, 3) := by decide +kernel
theorem dX8_edgeFrequency_75 : decode cX8_edgeFrequency 75 = .ok (.ifCond .eq 16, 3) := by decide +kernel
theorem dX8_edgeFrequency_78 : decode cX8_edgeFrequency 78 = .ok (.aload_n 0, 1) := by decide +kernel
theorem dX8_edgeFrequency_79 : decode cX8_edgeFrequency 79 = .ok (.getfield 67, 3) := by decide +kernel
theorem dX8_edgeFrequency_82 : decode cX8_edgeFrequency 82 = .ok (.getfield 248, 3) := by decide +kernel
theorem dX8_edgeFrequency_85 : decode cX8_edgeFrequency 85 = .ok (.iload 4, 2) := by decide +kernel
theorem dX8_edgeFrequency_87 : decode cX8_edgeFrequency 87 = .ok (.iaload, 1) := by decide +kernel
theorem dX8_edgeFrequency_88 : decode cX8_edgeFrequency 88 = .ok (.goto 4, 3) := by decide +kernel
theorem dX8_edgeFrequency_91 : decode cX8_edgeFrequency 91 = .ok (.iconst 0, 1) := by decide +kernel
theorem dX8_edgeFrequency_92 : decode cX8_edgeFrequency 92 = .ok (.iadd, 1) := by decide +kernel
theorem dX8_edgeFrequency_93 : decode cX8_edgeFrequency 93 = .ok (.istore_n 3, 1) := by decide +kernel
theorem dX8_edgeFrequency_94 : decode cX8_edgeFrequency 94 = .ok (.iinc 4 1, 3) := by decide +kernel
theorem dX8_edgeFrequency_97 : decode cX8_edgeFrequency 97 = .ok (.goto (-73), 3) := by decide +kernel
theorem dX8_edgeFrequency_100 : decode cX8_edgeFrequency 100 = .ok (.iload_n 3, 1) := by decide +kernel
theorem dX8_edgeFrequency_101 : decode cX8_edgeFrequency 101 = .ok (.ireturn, 1) := by decide +kernel
theorem dX8_digest_0 : decode cX8_digest 0 = .ok (.aload_n 0, 1) := by decide +kernel
theorem dX8_digest_1 : decode cX8_digest 1 = .ok (.ldc2_w 260, 3) := by decide +kernel
theorem dX8_digest_4 : decode cX8_digest 4 = .ok (.invokevirtual 262, 3) := by decide +kernel
theorem dX8_digest_7 : decode cX8_digest 7 = .ok (.lstore_n 1, 1) := by decide +kernel
theorem dX8_digest_8 : decode cX8_digest 8 = .ok (.lload_n 1, 1) := by decide +kernel
theorem dX8_digest_9 : decode cX8_digest 9 = .ok (.aload_n 0, 1) := by decide +kernel
theorem dX8_digest_10 : decode cX8_digest 10 = .ok (.getfield 71, 3) := by decide +kernel
theorem dX8_digest_13 : decode cX8_digest 13 = .ok (.ifCond .eq 7, 3) := by decide +kernel
theorem dX8_digest_16 : decode cX8_digest 16 = .ok (.iconst 1, 1) := by decide +kernel
theorem dX8_digest_17 : decode cX8_digest 17 = .ok (.goto 4, 3) := by decide +kernel
theorem dX8_digest_20 : decode cX8_digest 20 = .ok (.iconst 0, 1) := by decide +kernel
theorem dX8_digest_21 : decode cX8_digest 21 = .ok (.invokestatic 266, 3) := by decide +kernel
theorem dX8_digest_24 : decode cX8_digest 24 = .ok (.lstore_n 1, 1) := by decide +kernel
theorem dX8_digest_25 : decode cX8_digest 25 = .ok (.aload_n 0, 1) := by decide +kernel
theorem dX8_digest_26 : decode cX8_digest 26 = .ok (.getfield 71, 3) := by decide +kernel
theorem dX8_digest_29 : decode cX8_digest 29 = .ok (.ifCond .eq 15, 3) := by decide +kernel
theorem dX8_digest_32 : decode cX8_digest 32 = .ok (.aload_n 0, 1) := by decide +kernel
theorem dX8_digest_33 : decode cX8_digest 33 = .ok (.lload_n 1, 1) := by decide +kernel
theorem dX8_digest_34 : decode cX8_digest 34 = .ok (.invokevirtual 270, 3) := by decide +kernel
theorem dX8_digest_37 : decode cX8_digest 37 = .ok (.lstore_n 1, 1) := by decide +kernel
theorem dX8_digest_38 : decode cX8_digest 38 = .ok (.aload_n 0, 1) := by decide +kernel
theorem dX8_digest_39 : decode cX8_digest 39 = .ok (.lload_n 1, 1) := by decide +kernel
theorem dX8_digest_40 : decode cX8_digest 40 = .ok (.invokevirtual 273, 3) := by decide +kernel
theorem dX8_digest_43 : decode cX8_digest 43 = .ok (.lstore_n 1, 1) := by decide +kernel
theorem dX8_digest_44 : decode cX8_digest 44 = .ok (.lload_n 1, 1) := by decide +kernel
theorem dX8_digest_45 : decode cX8_digest 45 = .ok (.aload_n 0, 1) := by decide +kernel
theorem dX8_digest_46 : decode cX8_digest 46 = .ok (.getfield 67, 3) := by decide +kernel
theorem dX8_digest_49 : decode cX8_digest 49 = .ok (.getfield 229, 3) := by decide +kernel
theorem dX8_digest_52 : decode cX8_digest 52 = .ok (.invokestatic 266, 3) := by decide +kernel
theorem dX8_digest_55 : decode cX8_digest 55 = .ok (.lstore_n 1, 1) := by decide +kernel
theorem dX8_digest_56 : decode cX8_digest 56 = .ok (.lload_n 1, 1) := by decide +kernel
theorem dX8_digest_57 : decode cX8_digest 57 = .ok (.aload_n 0, 1) := by decide +kernel
theorem dX8_digest_58 : decode cX8_digest 58 = .ok (.getfield 67, 3) := by decide +kernel
theorem dX8_digest_61 : decode cX8_digest 61 = .ok (.getfield 245, 3) := by decide +kernel
theorem dX8_digest_64 : decode cX8_digest 64 = .ok (.invokestatic 266, 3) := by decide +kernel
theorem dX8_digest_67 : decode cX8_digest 67 = .ok (.lstore_n 1, 1) := by decide +kernel
theorem dX8_digest_68 : decode cX8_digest 68 = .ok (.lload_n 1, 1) := by decide +kernel
theorem dX8_digest_69 : decode cX8_digest 69 = .ok (.aload_n 0, 1) := by decide +kernel
theorem dX8_digest_70 : decode cX8_digest 70 = .ok (.getfield 67, 3) := by decide +kernel
theorem dX8_digest_73 : decode cX8_digest 73 = .ok (.invokevirtual 254, 3) := by decide +kernel
theorem dX8_digest_76 : decode cX8_digest 76 = .ok (.invokestatic 266, 3) := by decide +kernel
theorem dX8_digest_79 : decode cX8_digest 79 = .ok (.lstore_n 1, 1) := by decide +kernel
theorem dX8_digest_80 : decode cX8_digest 80 = .ok (.aload_n 0, 1) := by decide +kernel
theorem dX8_digest_81 : decode cX8_digest 81 = .ok (.lload_n 1, 1) := by decide +kernel
theorem dX8_digest_82 : decode cX8_digest 82 = .ok (.invokevirtual 276, 3) := by decide +kernel
theorem dX8_digest_85 : decode cX8_digest 85 = .ok (.lreturn, 1) := by decide +kernel
theorem dX8_discardAnalysis_0 : decode cX8_discardAnalysis 0 = .ok (.aload_n 0, 1) := by decide +kernel
theorem dX8_discardAnalysis_1 : decode cX8_discardAnalysis 1 = .ok (.iconst 0, 1) := by decide +kernel
theorem dX8_discardAnalysis_2 : decode cX8_discardAnalysis 2 = .ok (.putfield 71, 3) := by decide +kernel
theorem dX8_discardAnalysis_5 : decode cX8_discardAnalysis 5 = .ok (.aload_n 0, 1) := by decide +kernel
theorem dX8_discardAnalysis_6 : decode cX8_discardAnalysis 6 = .ok (.getfield 67, 3) := by decide +kernel
theorem dX8_discardAnalysis_9 : decode cX8_discardAnalysis 9 = .ok (.invokevirtual 279, 3) := by decide +kernel
theorem dX8_discardAnalysis_12 : decode cX8_discardAnalysis 12 = .ok (.return_, 1) := by decide +kernel
theorem dX8_isCountable_0 : decode cX8_isCountable 0 = .ok (.aload_n 0, 1) := by decide +kernel
theorem dX8_isCountable_1 : decode cX8_isCountable 1 = .ok (.getfield 71, 3) := by decide +kernel
theorem dX8_isCountable_4 : decode cX8_isCountable 4 = .ok (.ifCond .eq 20, 3) := by decide +kernel
theorem dX8_isCountable_7 : decode cX8_isCountable 7 = .ok (.aload_n 0, 1) := by decide +kernel
theorem dX8_isCountable_8 : decode cX8_isCountable 8 = .ok (.getfield 44, 3) := by decide +kernel
theorem dX8_isCountable_11 : decode cX8_isCountable 11 = .ok (.invokevirtual 160, 3) := by decide +kernel
theorem dX8_isCountable_14 : decode cX8_isCountable 14 = .ok (.sipush 200, 3) := by decide +kernel
theorem dX8_isCountable_17 : decode cX8_isCountable 17 = .ok (.if_icmp .gt 7, 3) := by decide +kernel
theorem dX8_isCountable_20 : decode cX8_isCountable 20 = .ok (.iconst 1, 1) := by decide +kernel
theorem dX8_isCountable_21 : decode cX8_isCountable 21 = .ok (.goto 4, 3) := by decide +kernel
theorem dX8_isCountable_24 : decode cX8_isCountable 24 = .ok (.iconst 0, 1) := by decide +kernel
theorem dX8_isCountable_25 : decode cX8_isCountable 25 = .ok (.ireturn, 1) := by decide +kernel
theorem dX8_requireAnalysis_0 : decode cX8_requireAnalysis 0 = .ok (.aload_n 0, 1) := by decide +kernel
theorem dX8_requireAnalysis_1 : decode cX8_requireAnalysis 1 = .ok (.getfield 71, 3) := by decide +kernel
theorem dX8_requireAnalysis_4 : decode cX8_requireAnalysis 4 = .ok (.ifCond .ne 14, 3) := by decide +kernel
theorem dX8_requireAnalysis_7 : decode cX8_requireAnalysis 7 = .ok (.new 99, 3) := by decide +kernel
theorem dX8_requireAnalysis_10 : decode cX8_requireAnalysis 10 = .ok (.dup, 1) := by decide +kernel
theorem dX8_requireAnalysis_11 : decode cX8_requireAnalysis 11 = .ok (.ldc_w 282, 3) := by decide +kernel
theorem dX8_requireAnalysis_14 : decode cX8_requireAnalysis 14 = .ok (.invokespecial 103, 3) := by decide +kernel
theorem dX8_requireAnalysis_17 : decode cX8_requireAnalysis 17 = .ok (.athrow, 1) := by decide +kernel
theorem dX8_requireAnalysis_18 : decode cX8_requireAnalysis 18 = .ok (.return_, 1) := by decide +kernel
theorem dX8_requireCounts_0 : decode cX8_requireCounts 0 = .ok (.aload_n 0, 1) := by decide +kernel
theorem dX8_requireCounts_1 : decode cX8_requireCounts 1 = .ok (.invokevirtual 284, 3) := by decide +kernel
theorem dX8_requireCounts_4 : decode cX8_requireCounts 4 = .ok (.ifCond .ne 14, 3) := by decide +kernel
theorem dX8_requireCounts_7 : decode cX8_requireCounts 7 = .ok (.new 99, 3) := by decide +kernel
theorem dX8_requireCounts_10 : decode cX8_requireCounts 10 = .ok (.dup, 1) := by decide +kernel
theorem dX8_requireCounts_11 : decode cX8_requireCounts 11 = .ok (.ldc_w 287, 3) := by decide +kernel
theorem dX8_requireCounts_14 : decode cX8_requireCounts 14 = .ok (.invokespecial 103, 3) := by decide +kernel
theorem dX8_requireCounts_17 : decode cX8_requireCounts 17 = .ok (.athrow, 1) := by decide +kernel
theorem dX8_requireCounts_18 : decode cX8_requireCounts 18 = .ok (.return_, 1) := by decide +kernel
theorem dX8_requireEdge_0 : decode cX8_requireEdge 0 = .ok (.aload_n 0, 1) := by decide +kernel
theorem dX8_requireEdge_1 : decode cX8_requireEdge 1 = .ok (.getfield 12, 3) := by decide +kernel
theorem dX8_requireEdge_4 : decode cX8_requireEdge 4 = .ok (.iload_n 1, 1) := by decide +kernel
theorem dX8_requireEdge_5 : decode cX8_requireEdge 5 = .ok (.invokevirtual 289, 3) := by decide +kernel
theorem dX8_requireEdge_8 : decode cX8_requireEdge 8 = .ok (.ifCond .ne 14, 3) := by decide +kernel
theorem dX8_requireEdge_11 : decode cX8_requireEdge 11 = .ok (.new 171, 3) := by decide +kernel
theorem dX8_requireEdge_14 : decode cX8_requireEdge 14 = .ok (.dup, 1) := by decide +kernel
theorem dX8_requireEdge_15 : decode cX8_requireEdge 15 = .ok (.ldc_w 292, 3) := by decide +kernel
theorem dX8_requireEdge_18 : decode cX8_requireEdge 18 = .ok (.invokespecial 175, 3) := by decide +kernel
theorem dX8_requireEdge_21 : decode cX8_requireEdge 21 = .ok (.athrow, 1) := by decide +kernel
theorem dX8_requireEdge_22 : decode cX8_requireEdge 22 = .ok (.return_, 1) := by decide +kernel
theorem dX8_requirePath_0 : decode cX8_requirePath 0 = .ok (.iload_n 1, 1) := by decide +kernel
theorem dX8_requirePath_1 : decode cX8_requirePath 1 = .ok (.ifCond .lt 14, 3) := by decide +kernel
theorem dX8_requirePath_4 : decode cX8_requirePath 4 = .ok (.iload_n 1, 1) := by decide +kernel
theorem dX8_requirePath_5 : decode cX8_requirePath 5 = .ok (.aload_n 0, 1) := by decide +kernel
theorem dX8_requirePath_6 : decode cX8_requirePath 6 = .ok (.getfield 44, 3) := by decide +kernel
theorem dX8_requirePath_9 : decode cX8_requirePath 9 = .ok (.invokevirtual 160, 3) := by decide +kernel
theorem dX8_requirePath_12 : decode cX8_requirePath 12 = .ok (.if_icmp .lt 14, 3) := by decide +kernel
theorem dX8_requirePath_15 : decode cX8_requirePath 15 = .ok (.new 171, 3) := by decide +kernel
theorem dX8_requirePath_18 : decode cX8_requirePath 18 = .ok (.dup, 1) := by decide +kernel
theorem dX8_requirePath_19 : decode cX8_requirePath 19 = .ok (.ldc_w 294, 3) := by decide +kernel
theorem dX8_requirePath_22 : decode cX8_requirePath 22 = .ok (.invokespecial 175, 3) := by decide +kernel
theorem dX8_requirePath_25 : decode cX8_requirePath 25 = .ok (.athrow, 1) := by decide +kernel
theorem dX8_requirePath_26 : decode cX8_requirePath 26 = .ok (.return_, 1) := by decide +kernel
theorem dX8_follow_0 : decode cX8_follow 0 = .ok (.aload_n 0, 1) := by decide +kernel
theorem dX8_follow_1 : decode cX8_follow 1 = .ok (.getfield 12, 3) := by decide +kernel
theorem dX8_follow_4 : decode cX8_follow 4 = .ok (.getfield 296, 3) := by decide +kernel
theorem dX8_follow_7 : decode cX8_follow 7 = .ok (.iload_n 1, 1) := by decide +kernel
theorem dX8_follow_8 : decode cX8_follow 8 = .ok (.iaload, 1) := by decide +kernel
theorem dX8_follow_9 : decode cX8_follow 9 = .ok (.istore_n 2, 1) := by decide +kernel
theorem dX8_follow_10 : decode cX8_follow 10 = .ok (.aload_n 0, 1) := by decide +kernel
theorem dX8_follow_11 : decode cX8_follow 11 = .ok (.getfield 67, 3) := by decide +kernel
theorem dX8_follow_14 : decode cX8_follow 14 = .ok (.dup, 1) := by decide +kernel
theorem dX8_follow_15 : decode cX8_follow 15 = .ok (.getfield 245, 3) := by decide +kernel
theorem dX8_follow_18 : decode cX8_follow 18 = .ok (.aload_n 0, 1) := by decide +kernel
theorem dX8_follow_19 : decode cX8_follow 19 = .ok (.getfield 53, 3) := by decide +kernel
theorem dX8_follow_22 : decode cX8_follow 22 = .ok (.getfield 190, 3) := by decide +kernel
theorem dX8_follow_25 : decode cX8_follow 25 = .ok (.aload_n 0, 1) := by decide +kernel
theorem dX8_follow_26 : decode cX8_follow 26 = .ok (.getfield 44, 3) := by decide +kernel
theorem dX8_follow_29 : decode cX8_follow 29 = .ok (.iload_n 1, 1) := by decide +kernel
theorem dX8_follow_30 : decode cX8_follow 30 = .ok (.iconst 1, 1) := by decide +kernel
theorem dX8_follow_31 : decode cX8_follow 31 = .ok (.invokevirtual 186, 3) := by decide +kernel
theorem dX8_follow_34 : decode cX8_follow 34 = .ok (.iaload, 1) := by decide +kernel
theorem dX8_follow_35 : decode cX8_follow 35 = .ok (.iadd, 1) := by decide +kernel
theorem dX8_follow_36 : decode cX8_follow 36 = .ok (.putfield 245, 3) := by decide +kernel
theorem dX8_follow_39 : decode cX8_follow 39 = .ok (.aload_n 0, 1) := by decide +kernel
theorem dX8_follow_40 : decode cX8_follow 40 = .ok (.getfield 35, 3) := by decide +kernel
theorem dX8_follow_43 : decode cX8_follow 43 = .ok (.getfield 179, 3) := by decide +kernel
theorem dX8_follow_46 : decode cX8_follow 46 = .ok (.iload_n 1, 1) := by decide +kernel
theorem dX8_follow_47 : decode cX8_follow 47 = .ok (.baload, 1) := by decide +kernel
theorem dX8_follow_48 : decode cX8_follow 48 = .ok (.ifCond .eq 37, 3) := by decide +kernel
theorem dX8_follow_51 : decode cX8_follow 51 = .ok (.aload_n 0, 1) := by decide +kernel
theorem dX8_follow_52 : decode cX8_follow 52 = .ok (.getfield 67, 3) := by decide +kernel
theorem dX8_follow_55 : decode cX8_follow 55 = .ok (.invokevirtual 299, 3) := by decide +kernel
theorem dX8_follow_58 : decode cX8_follow 58 = .ok (.aload_n 0, 1) := by decide +kernel
theorem dX8_follow_59 : decode cX8_follow 59 = .ok (.getfield 67, 3) := by decide +kernel
theorem dX8_follow_62 : decode cX8_follow 62 = .ok (.aload_n 0, 1) := by decide +kernel
theorem dX8_follow_63 : decode cX8_follow 63 = .ok (.getfield 53, 3) := by decide +kernel
theorem dX8_follow_66 : decode cX8_follow 66 = .ok (.getfield 190, 3) := by decide +kernel
theorem dX8_follow_69 : decode cX8_follow 69 = .ok (.aload_n 0, 1) := by decide +kernel
theorem dX8_follow_70 : decode cX8_follow 70 = .ok (.getfield 44, 3) := by decide +kernel
theorem dX8_follow_73 : decode cX8_follow 73 = .ok (.iload_n 1, 1) := by decide +kernel
theorem dX8_follow_74 : decode cX8_follow 74 = .ok (.iconst 0, 1) := by decide +kernel
theorem dX8_follow_75 : decode cX8_follow 75 = .ok (.invokevirtual 186, 3) := by decide +kernel
theorem dX8_follow_78 : decode cX8_follow 78 = .ok (.iaload, 1) := by decide +kernel
theorem dX8_follow_79 : decode cX8_follow 79 = .ok (.putfield 245, 3) := by decide +kernel
theorem dX8_follow_82 : decode cX8_follow 82 = .ok (.goto 21, 3) := by decide +kernel
theorem dX8_follow_85 : decode cX8_follow 85 = .ok (.iload_n 2, 1) := by decide +kernel
theorem dX8_follow_86 : decode cX8_follow 86 = .ok (.aload_n 0, 1) := by decide +kernel
theorem dX8_follow_87 : decode cX8_follow 87 = .ok (.getfield 12, 3) := by decide +kernel
theorem dX8_follow_90 : decode cX8_follow 90 = .ok (.invokevirtual 232, 3) := by decide +kernel
theorem dX8_follow_93 : decode cX8_follow 93 = .ok (.if_icmp .ne 10, 3) := by decide +kernel
theorem dX8_follow_96 : decode cX8_follow 96 = .ok (.aload_n 0, 1) := by decide +kernel
theorem dX8_follow_97 : decode cX8_follow 97 = .ok (.getfield 67, 3) := by decide +kernel
theorem dX8_follow_100 : decode cX8_follow 100 = .ok (.invokevirtual 299, 3) := by decide +kernel
theorem dX8_follow_103 : decode cX8_follow 103 = .ok (.aload_n 0, 1) := by decide +kernel
theorem dX8_follow_104 : decode cX8_follow 104 = .ok (.getfield 67, 3) := by decide +kernel
theorem dX8_follow_107 : decode cX8_follow 107 = .ok (.iload_n 2, 1) := by decide +kernel
theorem dX8_follow_108 : decode cX8_follow 108 = .ok (.putfield 229, 3) := by decide +kernel
theorem dX8_follow_111 : decode cX8_follow 111 = .ok (.return_, 1) := by decide +kernel
theorem dX8_mix_0 : decode cX8_mix 0 = .ok (.ldc2_w 302, 3) := by decide +kernel
theorem dX8_mix_3 : decode cX8_mix 3 = .ok (.lload_n 0, 1) := by decide +kernel
theorem dX8_mix_4 : decode cX8_mix 4 = .ok (.lmul, 1) := by decide +kernel
theorem dX8_mix_5 : decode cX8_mix 5 = .ok (.iload_n 2, 1) := by decide +kernel
theorem dX8_mix_6 : decode cX8_mix 6 = .ok (.i2l, 1) := by decide +kernel
theorem dX8_mix_7 : decode cX8_mix 7 = .ok (.ladd, 1) := by decide +kernel
theorem dX8_mix_8 : decode cX8_mix 8 = .ok (.lreturn, 1) := by decide +kernel
theorem dX8_mixGraph_0 : decode cX8_mixGraph 0 = .ok (.lload_n 1, 1) := by decide +kernel
theorem dX8_mixGraph_1 : decode cX8_mixGraph 1 = .ok (.aload_n 0, 1) := by decide +kernel
theorem dX8_mixGraph_2 : decode cX8_mixGraph 2 = .ok (.getfield 12, 3) := by decide +kernel
theorem dX8_mixGraph_5 : decode cX8_mixGraph 5 = .ok (.getfield 304, 3) := by decide +kernel
theorem dX8_mixGraph_8 : decode cX8_mixGraph 8 = .ok (.invokestatic 266, 3) := by decide +kernel
theorem dX8_mixGraph_11 : decode cX8_mixGraph 11 = .ok (.lstore_n 3, 1) := by decide +kernel
theorem dX8_mixGraph_12 : decode cX8_mixGraph 12 = .ok (.lload_n 3, 1) := by decide +kernel
theorem dX8_mixGraph_13 : decode cX8_mixGraph 13 = .ok (.aload_n 0, 1) := by decide +kernel
theorem dX8_mixGraph_14 : decode cX8_mixGraph 14 = .ok (.getfield 12, 3) := by decide +kernel
theorem dX8_mixGraph_17 : decode cX8_mixGraph 17 = .ok (.getfield 117, 3) := by decide +kernel
theorem dX8_mixGraph_20 : decode cX8_mixGraph 20 = .ok (.invokestatic 266, 3) := by decide +kernel
theorem dX8_mixGraph_23 : decode cX8_mixGraph 23 = .ok (.lstore_n 3, 1) := by decide +kernel
theorem dX8_mixGraph_24 : decode cX8_mixGraph 24 = .ok (.iconst 0, 1) := by decide +kernel
theorem dX8_mixGraph_25 : decode cX8_mixGraph 25 = .ok (.istore 5, 2) := by decide +kernel
theorem dX8_mixGraph_27 : decode cX8_mixGraph 27 = .ok (.iload 5, 2) := by decide +kernel
theorem dX8_mixGraph_29 : decode cX8_mixGraph 29 = .ok (.aload_n 0, 1) := by decide +kernel
theorem dX8_mixGraph_30 : decode cX8_mixGraph 30 = .ok (.getfield 12, 3) := by decide +kernel
theorem dX8_mixGraph_33 : decode cX8_mixGraph 33 = .ok (.getfield 117, 3) := by decide +kernel
theorem dX8_mixGraph_36 : decode cX8_mixGraph 36 = .ok (.if_icmp .ge 54, 3) := by decide +kernel
theorem dX8_mixGraph_39 : decode cX8_mixGraph 39 = .ok (.lload_n 3, 1) := by decide +kernel
theorem dX8_mixGraph_40 : decode cX8_mixGraph 40 = .ok (.aload_n 0, 1) := by decide +kernel
theorem dX8_mixGraph_41 : decode cX8_mixGraph 41 = .ok (.getfield 12, 3) := by decide +kernel
theorem dX8_mixGraph_44 : decode cX8_mixGraph 44 = .ok (.getfield 307, 3) := by decide +kernel
theorem dX8_mixGraph_47 : decode cX8_mixGraph 47 = .ok (.iload 5, 2) := by decide +kernel
theorem dX8_mixGraph_49 : decode cX8_mixGraph 49 = .ok (.iaload, 1) := by decide +kernel
theorem dX8_mixGraph_50 : decode cX8_mixGraph 50 = .ok (.invokestatic 266, 3) := by decide +kernel
theorem dX8_mixGraph_53 : decode cX8_mixGraph 53 = .ok (.lstore_n 3, 1) := by decide +kernel
theorem dX8_mixGraph_54 : decode cX8_mixGraph 54 = .ok (.lload_n 3, 1) := by decide +kernel
theorem dX8_mixGraph_55 : decode cX8_mixGraph 55 = .ok (.aload_n 0, 1) := by decide +kernel
theorem dX8_mixGraph_56 : decode cX8_mixGraph 56 = .ok (.getfield 12, 3) := by decide +kernel
theorem dX8_mixGraph_59 : decode cX8_mixGraph 59 = .ok (.getfield 296, 3) := by decide +kernel
theorem dX8_mixGraph_62 : decode cX8_mixGraph 62 = .ok (.iload 5, 2) := by decide +kernel
theorem dX8_mixGraph_64 : decode cX8_mixGraph 64 = .ok (.iaload, 1) := by decide +kernel
theorem dX8_mixGraph_65 : decode cX8_mixGraph 65 = .ok (.invokestatic 266, 3) := by decide +kernel
theorem dX8_mixGraph_68 : decode cX8_mixGraph 68 = .ok (.lstore_n 3, 1) := by decide +kernel
theorem dX8_mixGraph_69 : decode cX8_mixGraph 69 = .ok (.lload_n 3, 1) := by decide +kernel
theorem dX8_mixGraph_70 : decode cX8_mixGraph 70 = .ok (.aload_n 0, 1) := by decide +kernel
theorem dX8_mixGraph_71 : decode cX8_mixGraph 71 = .ok (.getfield 12, 3) := by decide +kernel
theorem dX8_mixGraph_74 : decode cX8_mixGraph 74 = .ok (.getfield 113, 3) := by decide +kernel
theorem dX8_mixGraph_77 : decode cX8_mixGraph 77 = .ok (.iload 5, 2) := by decide +kernel
theorem dX8_mixGraph_79 : decode cX8_mixGraph 79 = .ok (.iaload, 1) := by decide +kernel
theorem dX8_mixGraph_80 : decode cX8_mixGraph 80 = .ok (.invokestatic 266, 3) := by decide +kernel
theorem dX8_mixGraph_83 : decode cX8_mixGraph 83 = .ok (.lstore_n 3, 1) := by decide +kernel
theorem dX8_mixGraph_84 : decode cX8_mixGraph 84 = .ok (.iinc 5 1, 3) := by decide +kernel
theorem dX8_mixGraph_87 : decode cX8_mixGraph 87 = .ok (.goto (-60), 3) := by decide +kernel
theorem dX8_mixGraph_90 : decode cX8_mixGraph 90 = .ok (.lload_n 3, 1) := by decide +kernel
theorem dX8_mixGraph_91 : decode cX8_mixGraph 91 = .ok (.lreturn, 1) := by decide +kernel
theorem dX8_mixAnalysis_0 : decode cX8_mixAnalysis 0 = .ok (.lload_n 1, 1) := by decide +kernel
theorem dX8_mixAnalysis_1 : decode cX8_mixAnalysis 1 = .ok (.lstore_n 3, 1) := by decide +kernel
theorem dX8_mixAnalysis_2 : decode cX8_mixAnalysis 2 = .ok (.iconst 0, 1) := by decide +kernel
theorem dX8_mixAnalysis_3 : decode cX8_mixAnalysis 3 = .ok (.istore 5, 2) := by decide +kernel
theorem dX8_mixAnalysis_5 : decode cX8_mixAnalysis 5 = .ok (.iload 5, 2) := by decide +kernel
theorem dX8_mixAnalysis_7 : decode cX8_mixAnalysis 7 = .ok (.aload_n 0, 1) := by decide +kernel
theorem dX8_mixAnalysis_8 : decode cX8_mixAnalysis 8 = .ok (.getfield 12, 3) := by decide +kernel
theorem dX8_mixAnalysis_11 : decode cX8_mixAnalysis 11 = .ok (.getfield 304, 3) := by decide +kernel
theorem dX8_mixAnalysis_14 : decode cX8_mixAnalysis 14 = .ok (.if_icmp .ge 24, 3) := by decide +kernel
theorem dX8_mixAnalysis_17 : decode cX8_mixAnalysis 17 = .ok (.lload_n 3, 1) := by decide +kernel
theorem dX8_mixAnalysis_18 : decode cX8_mixAnalysis 18 = .ok (.aload_n 0, 1) := by decide +kernel
theorem dX8_mixAnalysis_19 : decode cX8_mixAnalysis 19 = .ok (.getfield 44, 3) := by decide +kernel
theorem dX8_mixAnalysis_22 : decode cX8_mixAnalysis 22 = .ok (.getfield 176, 3) := by decide +kernel
theorem dX8_mixAnalysis_25 : decode cX8_mixAnalysis 25 = .ok (.iload 5, 2) := by decide +kernel
theorem dX8_mixAnalysis_27 : decode cX8_mixAnalysis 27 = .ok (.iaload, 1) := by decide +kernel
theorem dX8_mixAnalysis_28 : decode cX8_mixAnalysis 28 = .ok (.invokestatic 266, 3) := by decide +kernel
theorem dX8_mixAnalysis_31 : decode cX8_mixAnalysis 31 = .ok (.lstore_n 3, 1) := by decide +kernel
theorem dX8_mixAnalysis_32 : decode cX8_mixAnalysis 32 = .ok (.iinc 5 1, 3) := by decide +kernel
theorem dX8_mixAnalysis_35 : decode cX8_mixAnalysis 35 = .ok (.goto (-30), 3) := by decide +kernel
theorem dX8_mixAnalysis_38 : decode cX8_mixAnalysis 38 = .ok (.iconst 0, 1) := by decide +kernel
theorem dX8_mixAnalysis_39 : decode cX8_mixAnalysis 39 = .ok (.istore 5, 2) := by decide +kernel
theorem dX8_mixAnalysis_41 : decode cX8_mixAnalysis 41 = .ok (.iload 5, 2) := by decide +kernel
theorem dX8_mixAnalysis_43 : decode cX8_mixAnalysis 43 = .ok (.aload_n 0, 1) := by decide +kernel
theorem dX8_mixAnalysis_44 : decode cX8_mixAnalysis 44 = .ok (.getfield 12, 3) := by decide +kernel
theorem dX8_mixAnalysis_47 : decode cX8_mixAnalysis 47 = .ok (.getfield 117, 3) := by decide +kernel
theorem dX8_mixAnalysis_50 : decode cX8_mixAnalysis 50 = .ok (.if_icmp .ge 64, 3) := by decide +kernel
theorem dX8_mixAnalysis_53 : decode cX8_mixAnalysis 53 = .ok (.lload_n 3, 1) := by decide +kernel
theorem dX8_mixAnalysis_54 : decode cX8_mixAnalysis 54 = .ok (.aload_n 0, 1) := by decide +kernel
theorem dX8_mixAnalysis_55 : decode cX8_mixAnalysis 55 = .ok (.getfield 35, 3) := by decide +kernel
theorem dX8_mixAnalysis_58 : decode cX8_mixAnalysis 58 = .ok (.getfield 179, 3) := by decide +kernel
theorem dX8_mixAnalysis_61 : decode cX8_mixAnalysis 61 = .ok (.iload 5, 2) := by decide +kernel
theorem dX8_mixAnalysis_63 : decode cX8_mixAnalysis 63 = .ok (.baload, 1) := by decide +kernel
theorem dX8_mixAnalysis_64 : decode cX8_mixAnalysis 64 = .ok (.ifCond .eq 7, 3) := by decide +kernel
theorem dX8_mixAnalysis_67 : decode cX8_mixAnalysis 67 = .ok (.iconst 1, 1) := by decide +kernel
theorem dX8_mixAnalysis_68 : decode cX8_mixAnalysis 68 = .ok (.goto 4, 3) := by decide +kernel
theorem dX8_mixAnalysis_71 : decode cX8_mixAnalysis 71 = .ok (.iconst 0, 1) := by decide +kernel
theorem dX8_mixAnalysis_72 : decode cX8_mixAnalysis 72 = .ok (.invokestatic 266, 3) := by decide +kernel
theorem dX8_mixAnalysis_75 : decode cX8_mixAnalysis 75 = .ok (.lstore_n 3, 1) := by decide +kernel
theorem dX8_mixAnalysis_76 : decode cX8_mixAnalysis 76 = .ok (.aload_n 0, 1) := by decide +kernel
theorem dX8_mixAnalysis_77 : decode cX8_mixAnalysis 77 = .ok (.lload_n 3, 1) := by decide +kernel
theorem dX8_mixAnalysis_78 : decode cX8_mixAnalysis 78 = .ok (.aload_n 0, 1) := by decide +kernel
theorem dX8_mixAnalysis_79 : decode cX8_mixAnalysis 79 = .ok (.getfield 44, 3) := by decide +kernel
theorem dX8_mixAnalysis_82 : decode cX8_mixAnalysis 82 = .ok (.iload 5, 2) := by decide +kernel
theorem dX8_mixAnalysis_84 : decode cX8_mixAnalysis 84 = .ok (.iconst 0, 1) := by decide +kernel
theorem dX8_mixAnalysis_85 : decode cX8_mixAnalysis 85 = .ok (.invokevirtual 186, 3) := by decide +kernel
theorem dX8_mixAnalysis_88 : decode cX8_mixAnalysis 88 = .ok (.invokevirtual 310, 3) := by decide +kernel
theorem dX8_mixAnalysis_91 : decode cX8_mixAnalysis 91 = .ok (.lstore_n 3, 1) := by decide +kernel
theorem dX8_mixAnalysis_92 : decode cX8_mixAnalysis 92 = .ok (.aload_n 0, 1) := by decide +kernel
theorem dX8_mixAnalysis_93 : decode cX8_mixAnalysis 93 = .ok (.lload_n 3, 1) := by decide +kernel
theorem dX8_mixAnalysis_94 : decode cX8_mixAnalysis 94 = .ok (.aload_n 0, 1) := by decide +kernel
theorem dX8_mixAnalysis_95 : decode cX8_mixAnalysis 95 = .ok (.getfield 44, 3) := by decide +kernel
theorem dX8_mixAnalysis_98 : decode cX8_mixAnalysis 98 = .ok (.iload 5, 2) := by decide +kernel
theorem dX8_mixAnalysis_100 : decode cX8_mixAnalysis 100 = .ok (.iconst 1, 1) := by decide +kernel
theorem dX8_mixAnalysis_101 : decode cX8_mixAnalysis 101 = .ok (.invokevirtual 186, 3) := by decide +kernel
theorem dX8_mixAnalysis_104 : decode cX8_mixAnalysis 104 = .ok (.invokevirtual 310, 3) := by decide +kernel
theorem dX8_mixAnalysis_107 : decode cX8_mixAnalysis 107 = .ok (.lstore_n 3, 1) := by decide +kernel
theorem dX8_mixAnalysis_108 : decode cX8_mixAnalysis 108 = .ok (.iinc 5 1, 3) := by decide +kernel
theorem dX8_mixAnalysis_111 : decode cX8_mixAnalysis 111 = .ok (.goto (-70), 3) := by decide +kernel
theorem dX8_mixAnalysis_114 : decode cX8_mixAnalysis 114 = .ok (.lload_n 3, 1) := by decide +kernel
theorem dX8_mixAnalysis_115 : decode cX8_mixAnalysis 115 = .ok (.aload_n 0, 1) := by decide +kernel
theorem dX8_mixAnalysis_116 : decode cX8_mixAnalysis 116 = .ok (.getfield 53, 3) := by decide +kernel
theorem dX8_mixAnalysis_119 : decode cX8_mixAnalysis 119 = .ok (.getfield 196, 3) := by decide +kernel
theorem dX8_mixAnalysis_122 : decode cX8_mixAnalysis 122 = .ok (.invokestatic 266, 3) := by decide +kernel
theorem dX8_mixAnalysis_125 : decode cX8_mixAnalysis 125 = .ok (.lstore_n 3, 1) := by decide +kernel
theorem dX8_mixAnalysis_126 : decode cX8_mixAnalysis 126 = .ok (.lload_n 3, 1) := by decide +kernel
theorem dX8_mixAnalysis_127 : decode cX8_mixAnalysis 127 = .ok (.aload_n 0, 1) := by decide +kernel
theorem dX8_mixAnalysis_128 : decode cX8_mixAnalysis 128 = .ok (.getfield 53, 3) := by decide +kernel
theorem dX8_mixAnalysis_131 : decode cX8_mixAnalysis 131 = .ok (.getfield 193, 3) := by decide +kernel
theorem dX8_mixAnalysis_134 : decode cX8_mixAnalysis 134 = .ok (.invokestatic 266, 3) := by decide +kernel
theorem dX8_mixAnalysis_137 : decode cX8_mixAnalysis 137 = .ok (.lreturn, 1) := by decide +kernel
theorem dX8_mixLink_0 : decode cX8_mixLink 0 = .ok (.lload_n 1, 1) := by decide +kernel
theorem dX8_mixLink_1 : decode cX8_mixLink 1 = .ok (.aload_n 0, 1) := by decide +kernel
theorem dX8_mixLink_2 : decode cX8_mixLink 2 = .ok (.getfield 44, 3) := by decide +kernel
theorem dX8_mixLink_5 : decode cX8_mixLink 5 = .ok (.getfield 183, 3) := by decide +kernel
theorem dX8_mixLink_8 : decode cX8_mixLink 8 = .ok (.iload_n 3, 1) := by decide +kernel
theorem dX8_mixLink_9 : decode cX8_mixLink 9 = .ok (.iaload, 1) := by decide +kernel
theorem dX8_mixLink_10 : decode cX8_mixLink 10 = .ok (.invokestatic 266, 3) := by decide +kernel
theorem dX8_mixLink_13 : decode cX8_mixLink 13 = .ok (.lstore 4, 2) := by decide +kernel
theorem dX8_mixLink_15 : decode cX8_mixLink 15 = .ok (.lload 4, 2) := by decide +kernel
theorem dX8_mixLink_17 : decode cX8_mixLink 17 = .ok (.aload_n 0, 1) := by decide +kernel
theorem dX8_mixLink_18 : decode cX8_mixLink 18 = .ok (.getfield 53, 3) := by decide +kernel
theorem dX8_mixLink_21 : decode cX8_mixLink 21 = .ok (.getfield 190, 3) := by decide +kernel
theorem dX8_mixLink_24 : decode cX8_mixLink 24 = .ok (.iload_n 3, 1) := by decide +kernel
theorem dX8_mixLink_25 : decode cX8_mixLink 25 = .ok (.iaload, 1) := by decide +kernel
theorem dX8_mixLink_26 : decode cX8_mixLink 26 = .ok (.invokestatic 266, 3) := by decide +kernel
theorem dX8_mixLink_29 : decode cX8_mixLink 29 = .ok (.lreturn, 1) := by decide +kernel
theorem dX8_mixCounts_0 : decode cX8_mixCounts 0 = .ok (.lload_n 1, 1) := by decide +kernel
theorem dX8_mixCounts_1 : decode cX8_mixCounts 1 = .ok (.lstore_n 3, 1) := by decide +kernel
theorem dX8_mixCounts_2 : decode cX8_mixCounts 2 = .ok (.aload_n 0, 1) := by decide +kernel
theorem dX8_mixCounts_3 : decode cX8_mixCounts 3 = .ok (.invokevirtual 284, 3) := by decide +kernel
theorem dX8_mixCounts_6 : decode cX8_mixCounts 6 = .ok (.ifCond .eq 39, 3) := by decide +kernel
theorem dX8_mixCounts_9 : decode cX8_mixCounts 9 = .ok (.iconst 0, 1) := by decide +kernel
theorem dX8_mixCounts_10 : decode cX8_mixCounts 10 = .ok (.istore 5, 2) := by decide +kernel
theorem dX8_mixCounts_12 : decode cX8_mixCounts 12 = .ok (.iload 5, 2) := by decide +kernel
theorem dX8_mixCounts_14 : decode cX8_mixCounts 14 = .ok (.aload_n 0, 1) := by decide +kernel
theorem dX8_mixCounts_15 : decode cX8_mixCounts 15 = .ok (.getfield 44, 3) := by decide +kernel
theorem dX8_mixCounts_18 : decode cX8_mixCounts 18 = .ok (.invokevirtual 160, 3) := by decide +kernel
theorem dX8_mixCounts_21 : decode cX8_mixCounts 21 = .ok (.if_icmp .ge 24, 3) := by decide +kernel
theorem dX8_mixCounts_24 : decode cX8_mixCounts 24 = .ok (.lload_n 3, 1) := by decide +kernel
theorem dX8_mixCounts_25 : decode cX8_mixCounts 25 = .ok (.aload_n 0, 1) := by decide +kernel
theorem dX8_mixCounts_26 : decode cX8_mixCounts 26 = .ok (.getfield 67, 3) := by decide +kernel
theorem dX8_mixCounts_29 : decode cX8_mixCounts 29 = .ok (.getfield 248, 3) := by decide +kernel
theorem dX8_mixCounts_32 : decode cX8_mixCounts 32 = .ok (.iload 5, 2) := by decide +kernel
theorem dX8_mixCounts_34 : decode cX8_mixCounts 34 = .ok (.iaload, 1) := by decide +kernel
theorem dX8_mixCounts_35 : decode cX8_mixCounts 35 = .ok (.invokestatic 266, 3) := by decide +kernel
theorem dX8_mixCounts_38 : decode cX8_mixCounts 38 = .ok (.lstore_n 3, 1) := by decide +kernel
theorem dX8_mixCounts_39 : decode cX8_mixCounts 39 = .ok (.iinc 5 1, 3) := by decide +kernel
theorem dX8_mixCounts_42 : decode cX8_mixCounts 42 = .ok (.goto (-30), 3) := by decide +kernel
theorem dX8_mixCounts_45 : decode cX8_mixCounts 45 = .ok (.lload_n 3, 1) := by decide +kernel
theorem dX8_mixCounts_46 : decode cX8_mixCounts 46 = .ok (.lreturn, 1) := by decide +kernel
theorem dX8_mixText_0 : decode cX8_mixText 0 = .ok (.lload_n 1, 1) := by decide +kernel
theorem dX8_mixText_1 : decode cX8_mixText 1 = .ok (.aload_n 0, 1) := by decide +kernel
theorem dX8_mixText_2 : decode cX8_mixText 2 = .ok (.getfield 19, 3) := by decide +kernel
theorem dX8_mixText_5 : decode cX8_mixText 5 = .ok (.getfield 128, 3) := by decide +kernel
theorem dX8_mixText_8 : decode cX8_mixText 8 = .ok (.invokestatic 266, 3) := by decide +kernel
theorem dX8_mixText_11 : decode cX8_mixText 11 = .ok (.lstore_n 3, 1) := by decide +kernel
theorem dX8_mixText_12 : decode cX8_mixText 12 = .ok (.iconst 0, 1) := by decide +kernel
theorem dX8_mixText_13 : decode cX8_mixText 13 = .ok (.istore 5, 2) := by decide +kernel
theorem dX8_mixText_15 : decode cX8_mixText 15 = .ok (.iload 5, 2) := by decide +kernel
theorem dX8_mixText_17 : decode cX8_mixText 17 = .ok (.aload_n 0, 1) := by decide +kernel
theorem dX8_mixText_18 : decode cX8_mixText 18 = .ok (.getfield 19, 3) := by decide +kernel
theorem dX8_mixText_21 : decode cX8_mixText 21 = .ok (.getfield 128, 3) := by decide +kernel
theorem dX8_mixText_24 : decode cX8_mixText 24 = .ok (.if_icmp .ge 24, 3) := by decide +kernel
theorem dX8_mixText_27 : decode cX8_mixText 27 = .ok (.lload_n 3, 1) := by decide +kernel
theorem dX8_mixText_28 : decode cX8_mixText 28 = .ok (.aload_n 0, 1) := by decide +kernel
theorem dX8_mixText_29 : decode cX8_mixText 29 = .ok (.getfield 19, 3) := by decide +kernel
theorem dX8_mixText_32 : decode cX8_mixText 32 = .ok (.getfield 313, 3) := by decide +kernel
theorem dX8_mixText_35 : decode cX8_mixText 35 = .ok (.iload 5, 2) := by decide +kernel
theorem dX8_mixText_37 : decode cX8_mixText 37 = .ok (.iaload, 1) := by decide +kernel
theorem dX8_mixText_38 : decode cX8_mixText 38 = .ok (.invokestatic 266, 3) := by decide +kernel
theorem dX8_mixText_41 : decode cX8_mixText 41 = .ok (.lstore_n 3, 1) := by decide +kernel
theorem dX8_mixText_42 : decode cX8_mixText 42 = .ok (.iinc 5 1, 3) := by decide +kernel
theorem dX8_mixText_45 : decode cX8_mixText 45 = .ok (.goto (-30), 3) := by decide +kernel
theorem dX8_mixText_48 : decode cX8_mixText 48 = .ok (.lload_n 3, 1) := by decide +kernel
theorem dX8_mixText_49 : decode cX8_mixText 49 = .ok (.lreturn, 1) := by decide +kernel
theorem dX9_init_0 : decode cX9_init 0 = .ok (.aload_n 0, 1) := by decide +kernel
theorem dX9_init_1 : decode cX9_init 1 = .ok (.invokespecial 1, 3) := by decide +kernel
theorem dX9_init_4 : decode cX9_init 4 = .ok (.aload_n 0, 1) := by decide +kernel
theorem dX9_init_5 : decode cX9_init 5 = .ok (.iconst 2, 1) := by decide +kernel
theorem dX9_init_6 : decode cX9_init 6 = .ok (.putfield 7, 3) := by decide +kernel
theorem dX9_init_9 : decode cX9_init 9 = .ok (.aload_n 0, 1) := by decide +kernel
theorem dX9_init_10 : decode cX9_init 10 = .ok (.bipush 24, 2) := by decide +kernel
theorem dX9_init_12 : decode cX9_init 12 = .ok (.newarray .int, 2) := by decide +kernel
theorem dX9_init_14 : decode cX9_init 14 = .ok (.putfield 13, 3) := by decide +kernel
theorem dX9_init_17 : decode cX9_init 17 = .ok (.aload_n 0, 1) := by decide +kernel
theorem dX9_init_18 : decode cX9_init 18 = .ok (.bipush 24, 2) := by decide +kernel
theorem dX9_init_20 : decode cX9_init 20 = .ok (.newarray .int, 2) := by decide +kernel
theorem dX9_init_22 : decode cX9_init 22 = .ok (.putfield 17, 3) := by decide +kernel
theorem dX9_init_25 : decode cX9_init 25 = .ok (.aload_n 0, 1) := by decide +kernel
theorem dX9_init_26 : decode cX9_init 26 = .ok (.bipush 24, 2) := by decide +kernel
theorem dX9_init_28 : decode cX9_init 28 = .ok (.newarray .int, 2) := by decide +kernel
theorem dX9_init_30 : decode cX9_init 30 = .ok (.putfield 20, 3) := by decide +kernel
theorem dX9_init_33 : decode cX9_init 33 = .ok (.aload_n 0, 1) := by decide +kernel
theorem dX9_init_34 : decode cX9_init 34 = .ok (.bipush 60, 2) := by decide +kernel
theorem dX9_init_36 : decode cX9_init 36 = .ok (.newarray .int, 2) := by decide +kernel
theorem dX9_init_38 : decode cX9_init 38 = .ok (.putfield 23, 3) := by decide +kernel
theorem dX9_init_41 : decode cX9_init 41 = .ok (.aload_n 0, 1) := by decide +kernel
theorem dX9_init_42 : decode cX9_init 42 = .ok (.bipush 24, 2) := by decide +kernel
theorem dX9_init_44 : decode cX9_init 44 = .ok (.newarray .boolean, 2) := by decide +kernel
theorem dX9_init_46 : decode cX9_init 46 = .ok (.putfield 26, 3) := by decide +kernel
theorem dX9_init_49 : decode cX9_init 49 = .ok (.aload_n 0, 1) := by decide +kernel
theorem dX9_init_50 : decode cX9_init 50 = .ok (.bipush 12, 2) := by decide +kernel
theorem dX9_init_52 : decode cX9_init 52 = .ok (.newarray .int, 2) := by decide +kernel
theorem dX9_init_54 : decode cX9_init 54 = .ok (.putfield 30, 3) := by decide +kernel
theorem dX9_init_57 : decode cX9_init 57 = .ok (.aload_n 0, 1) := by decide +kernel
theorem dX9_init_58 : decode cX9_init 58 = .ok (.bipush 48, 2) := by decide +kernel
theorem dX9_init_60 : decode cX9_init 60 = .ok (.newarray .int, 2) := by decide +kernel
theorem dX9_init_62 : decode cX9_init 62 = .ok (.putfield 33, 3) := by decide +kernel
theorem dX9_init_65 : decode cX9_init 65 = .ok (.aload_n 0, 1) := by decide +kernel
theorem dX9_init_66 : decode cX9_init 66 = .ok (.bipush 48, 2) := by decide +kernel
theorem dX9_init_68 : decode cX9_init 68 = .ok (.newarray .int, 2) := by decide +kernel
theorem dX9_init_70 : decode cX9_init 70 = .ok (.putfield 36, 3) := by decide +kernel
theorem dX9_init_73 : decode cX9_init 73 = .ok (.aload_n 0, 1) := by decide +kernel
theorem dX9_init_74 : decode cX9_init 74 = .ok (.bipush 48, 2) := by decide +kernel
theorem dX9_init_76 : decode cX9_init 76 = .ok (.newarray .boolean, 2) := by decide +kernel
theorem dX9_init_78 : decode cX9_init 78 = .ok (.putfield 39, 3) := by decide +kernel
theorem dX9_init_81 : decode cX9_init 81 = .ok (.aload_n 0, 1) := by decide +kernel
theorem dX9_init_82 : decode cX9_init 82 = .ok (.sipush 200, 3) := by decide +kernel
theorem dX9_init_85 : decode cX9_init 85 = .ok (.newarray .int, 2) := by decide +kernel
theorem dX9_init_87 : decode cX9_init 87 = .ok (.putfield 42, 3) := by decide +kernel
theorem dX9_init_90 : decode cX9_init 90 = .ok (.aload_n 0, 1) := by decide +kernel
theorem dX9_init_91 : decode cX9_init 91 = .ok (.bipush 24, 2) := by decide +kernel
theorem dX9_init_93 : decode cX9_init 93 = .ok (.newarray .int, 2) := by decide +kernel
theorem dX9_init_95 : decode cX9_init 95 = .ok (.putfield 45, 3) := by decide +kernel
theorem dX9_init_98 : decode cX9_init 98 = .ok (.aload_n 0, 1) := by decide +kernel
theorem dX9_init_99 : decode cX9_init 99 = .ok (.bipush 24, 2) := by decide +kernel
theorem dX9_init_101 : decode cX9_init 101 = .ok (.newarray .int, 2) := by decide +kernel
theorem dX9_init_103 : decode cX9_init 103 = .ok (.putfield 48, 3) := by decide +kernel
theorem dX9_init_106 : decode cX9_init 106 = .ok (.aload_n 0, 1) := by decide +kernel
theorem dX9_init_107 : decode cX9_init 107 = .ok (.bipush 12, 2) := by decide +kernel
theorem dX9_init_109 : decode cX9_init 109 = .ok (.newarray .boolean, 2) := by decide +kernel
theorem dX9_init_111 : decode cX9_init 111 = .ok (.putfield 51, 3) := by decide +kernel
theorem dX9_init_114 : decode cX9_init 114 = .ok (.aload_n 0, 1) := by decide +kernel
theorem dX9_init_115 : decode cX9_init 115 = .ok (.bipush 12, 2) := by decide +kernel
theorem dX9_init_117 : decode cX9_init 117 = .ok (.newarray .boolean, 2) := by decide +kernel
theorem dX9_init_119 : decode cX9_init 119 = .ok (.putfield 54, 3) := by decide +kernel
theorem dX9_init_122 : decode cX9_init 122 = .ok (.aload_n 0, 1) := by decide +kernel
theorem dX9_init_123 : decode cX9_init 123 = .ok (.bipush 12, 2) := by decide +kernel
theorem dX9_init_125 : decode cX9_init 125 = .ok (.newarray .int, 2) := by decide +kernel
theorem dX9_init_127 : decode cX9_init 127 = .ok (.putfield 57, 3) := by decide +kernel
theorem dX9_init_130 : decode cX9_init 130 = .ok (.aload_n 0, 1) := by decide +kernel
theorem dX9_init_131 : decode cX9_init 131 = .ok (.bipush 12, 2) := by decide +kernel
theorem dX9_init_133 : decode cX9_init 133 = .ok (.newarray .int, 2) := by decide +kernel
theorem dX9_init_135 : decode cX9_init 135 = .ok (.putfield 60, 3) := by decide +kernel
theorem dX9_init_138 : decode cX9_init 138 = .ok (.aload_n 0, 1) := by decide +kernel
theorem dX9_init_139 : decode cX9_init 139 = .ok (.bipush 12, 2) := by decide +kernel
theorem dX9_init_141 : decode cX9_init 141 = .ok (.newarray .int, 2) := by decide +kernel
theorem dX9_init_143 : decode cX9_init 143 = .ok (.putfield 63, 3) := by decide +kernel
theorem dX9_init_146 : decode cX9_init 146 = .ok (.aload_n 0, 1) := by decide +kernel
theorem dX9_init_147 : decode cX9_init 147 = .ok (.bipush 12, 2) := by decide +kernel
theorem dX9_init_149 : decode cX9_init 149 = .ok (.newarray .int, 2) := by decide +kernel
theorem dX9_init_151 : decode cX9_init 151 = .ok (.putfield 66, 3) := by decide +kernel
theorem dX9_init_154 : decode cX9_init 154 = .ok (.aload_n 0, 1) := by decide +kernel
theorem dX9_init_155 : decode cX9_init 155 = .ok (.bipush 12, 2) := by decide +kernel
theorem dX9_init_157 : decode cX9_init 157 = .ok (.newarray .int, 2) := by decide +kernel
theorem dX9_init_159 : decode cX9_init 159 = .ok (.putfield 69, 3) := by decide +kernel
theorem dX9_init_162 : decode cX9_init 162 = .ok (.aload_n 0, 1) := by decide +kernel
theorem dX9_init_163 : decode cX9_init 163 = .ok (.bipush 12, 2) := by decide +kernel
theorem dX9_init_165 : decode cX9_init 165 = .ok (.newarray .boolean, 2) := by decide +kernel
theorem dX9_init_167 : decode cX9_init 167 = .ok (.putfield 72, 3) := by decide +kernel
theorem dX9_init_170 : decode cX9_init 170 = .ok (.aload_n 0, 1) := by decide +kernel
theorem dX9_init_171 : decode cX9_init 171 = .ok (.bipush 48, 2) := by decide +kernel
theorem dX9_init_173 : decode cX9_init 173 = .ok (.newarray .boolean, 2) := by decide +kernel
theorem dX9_init_175 : decode cX9_init 175 = .ok (.putfield 75, 3) := by decide +kernel
theorem dX9_init_178 : decode cX9_init 178 = .ok (.aload_n 0, 1) := by decide +kernel
theorem dX9_init_179 : decode cX9_init 179 = .ok (.bipush 24, 2) := by decide +kernel
theorem dX9_init_181 : decode cX9_init 181 = .ok (.newarray .int, 2) := by decide +kernel
theorem dX9_init_183 : decode cX9_init 183 = .ok (.putfield 78, 3) := by decide +kernel
theorem dX9_init_186 : decode cX9_init 186 = .ok (.return_, 1) := by decide +kernel
theorem dX9_thrown_0 : decode cX9_thrown 0 = .ok (.aload_n 0, 1) := by decide +kernel
theorem dX9_thrown_1 : decode cX9_thrown 1 = .ok (.getfield 81, 3) := by decide +kernel
theorem dX9_thrown_4 : decode cX9_thrown 4 = .ok (.ireturn, 1) := by decide +kernel
theorem dX9_within_0 : decode cX9_within 0 = .ok (.iload_n 0, 1) := by decide +kernel
theorem dX9_within_1 : decode cX9_within 1 = .ok (.iload_n 1, 1) := by decide +kernel
theorem dX9_within_2 : decode cX9_within 2 = .ok (.if_icmp .lt 12, 3) := by decide +kernel
theorem dX9_within_5 : decode cX9_within 5 = .ok (.iload_n 0, 1) := by decide +kernel
theorem dX9_within_6 : decode cX9_within 6 = .ok (.iload_n 2, 1) := by decide +kernel
theorem dX9_within_7 : decode cX9_within 7 = .ok (.if_icmp .gt 7, 3) := by decide +kernel
theorem dX9_within_10 : decode cX9_within 10 = .ok (.iconst 1, 1) := by decide +kernel
theorem dX9_within_11 : decode cX9_within 11 = .ok (.goto 4, 3) := by decide +kernel
theorem dX9_within_14 : decode cX9_within 14 = .ok (.iconst 0, 1) := by decide +kernel
theorem dX9_within_15 : decode cX9_within 15 = .ok (.ireturn, 1) := by decide +kernel
theorem dX9_discard_0 : decode cX9_discard 0 = .ok (.aload_n 0, 1) := by decide +kernel
theorem dX9_discard_1 : decode cX9_discard 1 = .ok (.iconst 0, 1) := by decide +kernel
theorem dX9_discard_2 : decode cX9_discard 2 = .ok (.putfield 84, 3) := by decide +kernel
theorem dX9_discard_5 : decode cX9_discard 5 = .ok (.aload_n 0, 1) := by decide +kernel
theorem dX9_discard_6 : decode cX9_discard 6 = .ok (.iconst 0, 1) := by decide +kernel
theorem dX9_discard_7 : decode cX9_discard 7 = .ok (.putfield 88, 3) := by decide +kernel
theorem dX9_discard_10 : decode cX9_discard 10 = .ok (.aload_n 0, 1) := by decide +kernel
theorem dX9_discard_11 : decode cX9_discard 11 = .ok (.iconst 0, 1) := by decide +kernel
theorem dX9_discard_12 : decode cX9_discard 12 = .ok (.putfield 91, 3) := by decide +kernel
theorem dX9_discard_15 : decode cX9_discard 15 = .ok (.aload_n 0, 1) := by decide +kernel
theorem dX9_discard_16 : decode cX9_discard 16 = .ok (.iconst 0, 1) := by decide +kernel
theorem dX9_discard_17 : decode cX9_discard 17 = .ok (.putfield 94, 3) := by decide +kernel
theorem dX9_discard_20 : decode cX9_discard 20 = .ok (.iconst 0, 1) := by decide +kernel
theorem dX9_discard_21 : decode cX9_discard 21 = .ok (.istore_n 1, 1) := by decide +kernel
theorem dX9_discard_22 : decode cX9_discard 22 = .ok (.iload_n 1, 1) := by decide +kernel
theorem dX9_discard_23 : decode cX9_discard 23 = .ok (.sipush 200, 3) := by decide +kernel
theorem dX9_discard_26 : decode cX9_discard 26 = .ok (.if_icmp .ge 16, 3) := by decide +kernel
theorem dX9_discard_29 : decode cX9_discard 29 = .ok (.aload_n 0, 1) := by decide +kernel
theorem dX9_discard_30 : decode cX9_discard 30 = .ok (.getfield 42, 3) := by decide +kernel
theorem dX9_discard_33 : decode cX9_discard 33 = .ok (.iload_n 1, 1) := by decide +kernel
theorem dX9_discard_34 : decode cX9_discard 34 = .ok (.iconst 0, 1) := by decide +kernel
theorem dX9_discard_35 : decode cX9_discard 35 = .ok (.iastore, 1) := by decide +kernel
theorem dX9_discard_36 : decode cX9_discard 36 = .ok (.iinc 1 1, 3) := by decide +kernel
theorem dX9_discard_39 : decode cX9_discard 39 = .ok (.goto (-17), 3) := by decide +kernel
theorem dX9_discard_42 : decode cX9_discard 42 = .ok (.return_, 1) := by decide +kernel
theorem dX9_setNodes_0 : decode cX9_setNodes 0 = .ok (.aload_n 0, 1) := by decide +kernel
theorem dX9_setNodes_1 : decode cX9_setNodes 1 = .ok (.iload_n 1, 1) := by decide +kernel
theorem dX9_setNodes_2 : decode cX9_setNodes 2 = .ok (.iconst 2, 1) := by decide +kernel
theorem dX9_setNodes_3 : decode cX9_setNodes 3 = .ok (.bipush 12, 2) := by decide +kernel
theorem dX9_setNodes_5 : decode cX9_setNodes 5 = .ok (.invokestatic 97, 3) := by decide +kernel
theorem dX9_setNodes_8 : decode cX9_setNodes 8 = .ok (.ifCond .eq 7, 3) := by decide +kernel
theorem dX9_setNodes_11 : decode cX9_setNodes 11 = .ok (.iconst 0, 1) := by decide +kernel
theorem dX9_setNodes_12 : decode cX9_setNodes 12 = .ok (.goto 4, 3) := by decide +kernel
theorem dX9_setNodes_15 : decode cX9_setNodes 15 = .ok (.iconst 1, 1) := by decide +kernel
theorem dX9_setNodes_16 : decode cX9_setNodes 16 = .ok (.putfield 81, 3) := by decide +kernel
theorem dX9_setNodes_19 : decode cX9_setNodes 19 = .ok (.aload_n 0, 1) := by decide +kernel
theorem dX9_setNodes_20 : decode cX9_setNodes 20 = .ok (.getfield 81, 3) := by decide +kernel
theorem dX9_setNodes_23 : decode cX9_setNodes 23 = .ok (.ifCond .ne 17, 3) := by decide +kernel
theorem dX9_setNodes_26 : decode cX9_setNodes 26 = .ok (.aload_n 0, 1) := by decide +kernel
theorem dX9_setNodes_27 : decode cX9_setNodes 27 = .ok (.iload_n 1, 1) := by decide +kernel
theorem dX9_setNodes_28 : decode cX9_setNodes 28 = .ok (.putfield 7, 3) := by decide +kernel
theorem dX9_setNodes_31 : decode cX9_setNodes 31 = .ok (.aload_n 0, 1) := by decide +kernel
theorem dX9_setNodes_32 : decode cX9_setNodes 32 = .ok (.iconst 0, 1) := by decide +kernel
theorem dX9_setNodes_33 : decode cX9_setNodes 33 = .ok (.putfield 101, 3) := by decide +kernel
theorem dX9_setNodes_36 : decode cX9_setNodes 36 = .ok (.aload_n 0, 1) := by decide +kernel
theorem dX9_setNodes_37 : decode cX9_setNodes 37 = .ok (.invokevirtual 104, 3) := by decide +kernel
theorem dX9_setNodes_40 : decode cX9_setNodes 40 = .ok (.return_, 1) := by decide +kernel
theorem dX9_isNode_0 : decode cX9_isNode 0 = .ok (.iload_n 1, 1) := by decide +kernel
theorem dX9_isNode_1 : decode cX9_isNode 1 = .ok (.iconst 0, 1) := by decide +kernel
theorem dX9_isNode_2 : decode cX9_isNode 2 = .ok (.aload_n 0, 1) := by decide +kernel
theorem dX9_isNode_3 : decode cX9_isNode 3 = .ok (.getfield 7, 3) := by decide +kernel
theorem dX9_isNode_6 : decode cX9_isNode 6 = .ok (.iconst 1, 1) := by decide +kernel
theorem dX9_isNode_7 : decode cX9_isNode 7 = .ok (.isub, 1) := by decide +kernel
theorem dX9_isNode_8 : decode cX9_isNode 8 = .ok (.invokestatic 97, 3) := by decide +kernel
theorem dX9_isNode_11 : decode cX9_isNode 11 = .ok (.ireturn, 1) := by decide +kernel
theorem dX9_edgeBetween_0 : decode cX9_edgeBetween 0 = .ok (.iconst 0, 1) := by decide +kernel
theorem dX9_edgeBetween_1 : decode cX9_edgeBetween 1 = .ok (.istore_n 3, 1) := by decide +kernel
theorem dX9_edgeBetween_2 : decode cX9_edgeBetween 2 = .ok (.iload_n 3, 1) := by decide +kernel
theorem dX9_edgeBetween_3 : decode cX9_edgeBetween 3 = .ok (.aload_n 0, 1) := by decide +kernel
theorem dX9_edgeBetween_4 : decode cX9_edgeBetween 4 = .ok (.getfield 101, 3) := by decide +kernel
theorem dX9_edgeBetween_7 : decode cX9_edgeBetween 7 = .ok (.if_icmp .ge 31, 3) := by decide +kernel
theorem dX9_edgeBetween_10 : decode cX9_edgeBetween 10 = .ok (.aload_n 0, 1) := by decide +kernel
theorem dX9_edgeBetween_11 : decode cX9_edgeBetween 11 = .ok (.getfield 13, 3) := by decide +kernel
theorem dX9_edgeBetween_14 : decode cX9_edgeBetween 14 = .ok (.iload_n 3, 1) := by decide +kernel
theorem dX9_edgeBetween_15 : decode cX9_edgeBetween 15 = .ok (.iaload, 1) := by decide +kernel
theorem dX9_edgeBetween_16 : decode cX9_edgeBetween 16 = .ok (.iload_n 1, 1) := by decide +kernel
theorem dX9_edgeBetween_17 : decode cX9_edgeBetween 17 = .ok (.if_icmp .ne 15, 3) := by decide +kernel
theorem dX9_edgeBetween_20 : decode cX9_edgeBetween 20 = .ok (.aload_n 0, 1) := by decide +kernel
theorem dX9_edgeBetween_21 : decode cX9_edgeBetween 21 = .ok (.getfield 17, 3) := by decide +kernel
theorem dX9_edgeBetween_24 : decode cX9_edgeBetween 24 = .ok (.iload_n 3, 1) := by decide +kernel
theorem dX9_edgeBetween_25 : decode cX9_edgeBetween 25 = .ok (.iaload, 1) := by decide +kernel
theorem dX9_edgeBetween_26 : decode cX9_edgeBetween 26 = .ok (.iload_n 2, 1) := by decide +kernel
theorem dX9_edgeBetween_27 : decode cX9_edgeBetween 27 = .ok (.if_icmp .ne 5, 3) := by decide +kernel
theorem dX9_edgeBetween_30 : decode cX9_edgeBetween 30 = .ok (.iload_n 3, 1) := by decide +kernel
theorem dX9_edgeBetween_31 : decode cX9_edgeBetween 31 = .ok (.ireturn, 1) := by decide +kernel
theorem dX9_edgeBetween_32 : decode cX9_edgeBetween 32 = .ok (.iinc 3 1, 3) := by decide +kernel
theorem dX9_edgeBetween_35 : decode cX9_edgeBetween 35 = .ok (.goto (-33), 3) := by decide +kernel
theorem dX9_edgeBetween_38 : decode cX9_edgeBetween 38 = .ok (.iconst (-1), 1) := by decide +kernel
theorem dX9_edgeBetween_39 : decode cX9_edgeBetween 39 = .ok (.ireturn, 1) := by decide +kernel
theorem dX9_put_0 : decode cX9_put 0 = .ok (.aload_n 0, 1) := by decide +kernel
theorem dX9_put_1 : decode cX9_put 1 = .ok (.getfield 13, 3) := by decide +kernel
theorem dX9_put_4 : decode cX9_put 4 = .ok (.aload_n 0, 1) := by decide +kernel
theorem dX9_put_5 : decode cX9_put 5 = .ok (.getfield 101, 3) := by decide +kernel
theorem dX9_put_8 : decode cX9_put 8 = .ok (.iload_n 1, 1) := by decide +kernel
theorem dX9_put_9 : decode cX9_put 9 = .ok (.iastore, 1) := by decide +kernel
theorem dX9_put_10 : decode cX9_put 10 = .ok (.aload_n 0, 1) := by decide +kernel
theorem dX9_put_11 : decode cX9_put 11 = .ok (.getfield 17, 3) := by decide +kernel
theorem dX9_put_14 : decode cX9_put 14 = .ok (.aload_n 0, 1) := by decide +kernel
theorem dX9_put_15 : decode cX9_put 15 = .ok (.getfield 101, 3) := by decide +kernel
theorem dX9_put_18 : decode cX9_put 18 = .ok (.iload_n 2, 1) := by decide +kernel
theorem dX9_put_19 : decode cX9_put 19 = .ok (.iastore, 1) := by decide +kernel
theorem dX9_put_20 : decode cX9_put 20 = .ok (.aload_n 0, 1) := by decide +kernel
theorem dX9_put_21 : decode cX9_put 21 = .ok (.getfield 20, 3) := by decide +kernel
theorem dX9_put_24 : decode cX9_put 24 = .ok (.aload_n 0, 1) := by decide +kernel
theorem dX9_put_25 : decode cX9_put 25 = .ok (.getfield 101, 3) := by decide +kernel
theorem dX9_put_28 : decode cX9_put 28 = .ok (.iconst 1, 1) := by decide +kernel
theorem dX9_put_29 : decode cX9_put 29 = .ok (.iastore, 1) := by decide +kernel
theorem dX9_put_30 : decode cX9_put 30 = .ok (.aload_n 0, 1) := by decide +kernel
theorem dX9_put_31 : decode cX9_put 31 = .ok (.dup, 1) := by decide +kernel
theorem dX9_put_32 : decode cX9_put 32 = .ok (.getfield 101, 3) := by decide +kernel
theorem dX9_put_35 : decode cX9_put 35 = .ok (.iconst 1, 1) := by decide +kernel
theorem dX9_put_36 : decode cX9_put 36 = .ok (.iadd, 1) := by decide +kernel
theorem dX9_put_37 : decode cX9_put 37 = .ok (.putfield 101, 3) := by decide +kernel
theorem dX9_put_40 : decode cX9_put 40 = .ok (.return_, 1) := by decide +kernel
theorem dX9_addEdge_0 : decode cX9_addEdge 0 = .ok (.aload_n 0, 1) := by decide +kernel
theorem dX9_addEdge_1 : decode cX9_addEdge 1 = .ok (.iload_n 1, 1) := by decide +kernel
theorem dX9_addEdge_2 : decode cX9_addEdge 2 = .ok (.invokevirtual 107, 3) := by decide +kernel
theorem dX9_addEdge_5 : decode cX9_addEdge 5 = .ok (.ifCond .eq 39, 3) := by decide +kernel
theorem dX9_addEdge_8 : decode cX9_addEdge 8 = .ok (.aload_n 0, 1) := by decide +kernel
theorem dX9_addEdge_9 : decode cX9_addEdge 9 = .ok (.iload_n 2, 1) := by decide +kernel
theorem dX9_addEdge_10 : decode cX9_addEdge 10 = .ok (.invokevirtual 107, 3) := by decide +kernel
theorem dX9_addEdge_13 : decode cX9_addEdge 13 = .ok (.ifCond .eq 31, 3) := by decide +kernel
theorem dX9_addEdge_16 : decode cX9_addEdge 16 = .ok (.iload_n 1, 1) := by decide +kernel
theorem dX9_addEdge_17 : decode cX9_addEdge 17 = .ok (.aload_n 0, 1) := by decide +kernel
theorem dX9_addEdge_18 : decode cX9_addEdge 18 = .ok (.getfield 7, 3) := by decide +kernel
theorem dX9_addEdge_21 : decode cX9_addEdge 21 = .ok (.iconst 1, 1) := by decide +kernel
theorem dX9_addEdge_22 : decode cX9_addEdge 22 = .ok (.isub, 1) := by decide +kernel
theorem dX9_addEdge_23 : decode cX9_addEdge 23 = .ok (.if_icmp .eq 21, 3) := by decide +kernel
theorem dX9_addEdge_26 : decode cX9_addEdge 26 = .ok (.iload_n 2, 1) := by decide +kernel
theorem dX9_addEdge_27 : decode cX9_addEdge 27 = .ok (.ifCond .eq 17, 3) := by decide +kernel
theorem dX9_addEdge_30 : decode cX9_addEdge 30 = .ok (.aload_n 0, 1) := by decide +kernel
theorem dX9_addEdge_31 : decode cX9_addEdge 31 = .ok (.iload_n 1, 1) := by decide +kernel
theorem dX9_addEdge_32 : decode cX9_addEdge 32 = .ok (.iload_n 2, 1) := by decide +kernel
theorem dX9_addEdge_33 : decode cX9_addEdge 33 = .ok (.invokevirtual 111, 3) := by decide +kernel
theorem dX9_addEdge_36 : decode cX9_addEdge 36 = .ok (.iconst (-1), 1) := by decide +kernel
theorem dX9_addEdge_37 : decode cX9_addEdge 37 = .ok (.if_icmp .ne 7, 3) := by decide +kernel
theorem dX9_addEdge_40 : decode cX9_addEdge 40 = .ok (.iconst 1, 1) := by decide +kernel
theorem dX9_addEdge_41 : decode cX9_addEdge 41 = .ok (.goto 4, 3) := by decide +kernel
theorem dX9_addEdge_44 : decode cX9_addEdge 44 = .ok (.iconst 0, 1) := by decide +kernel
theorem dX9_addEdge_45 : decode cX9_addEdge 45 = .ok (.istore_n 3, 1) := by decide +kernel
theorem dX9_addEdge_46 : decode cX9_addEdge 46 = .ok (.aload_n 0, 1) := by decide +kernel
theorem dX9_addEdge_47 : decode cX9_addEdge 47 = .ok (.iload_n 3, 1) := by decide +kernel
theorem dX9_addEdge_48 : decode cX9_addEdge 48 = .ok (.ifCond .ne 7, 3) := by decide +kernel
theorem dX9_addEdge_51 : decode cX9_addEdge 51 = .ok (.iconst 1, 1) := by decide +kernel
theorem dX9_addEdge_52 : decode cX9_addEdge 52 = .ok (.goto 17, 3) := by decide +kernel
theorem dX9_addEdge_55 : decode cX9_addEdge 55 = .ok (.aload_n 0, 1) := by decide +kernel
theorem dX9_addEdge_56 : decode cX9_addEdge 56 = .ok (.getfield 101, 3) := by decide +kernel
theorem dX9_addEdge_59 : decode cX9_addEdge 59 = .ok (.bipush 24, 2) := by decide +kernel
theorem dX9_addEdge_61 : decode cX9_addEdge 61 = .ok (.if_icmp .ne 7, 3) := by decide +kernel
theorem dX9_addEdge_64 : decode cX9_addEdge 64 = .ok (.iconst 2, 1) := by decide +kernel
theorem dX9_addEdge_65 : decode cX9_addEdge 65 = .ok (.goto 4, 3) := by decide +kernel
theorem dX9_addEdge_68 : decode cX9_addEdge 68 = .ok (.iconst 0, 1) := by decide +kernel
theorem dX9_addEdge_69 : decode cX9_addEdge 69 = .ok (.putfield 81, 3) := by decide +kernel
theorem dX9_addEdge_72 : decode cX9_addEdge 72 = .ok (.aload_n 0, 1) := by decide +kernel
theorem dX9_addEdge_73 : decode cX9_addEdge 73 = .ok (.getfield 81, 3) := by decide +kernel
theorem dX9_addEdge_76 : decode cX9_addEdge 76 = .ok (.ifCond .le 5, 3) := by decide +kernel
theorem dX9_addEdge_79 : decode cX9_addEdge 79 = .ok (.iconst 0, 1) := by decide +kernel
theorem dX9_addEdge_80 : decode cX9_addEdge 80 = .ok (.ireturn, 1) := by decide +kernel
theorem dX9_addEdge_81 : decode cX9_addEdge 81 = .ok (.aload_n 0, 1) := by decide +kernel
theorem dX9_addEdge_82 : decode cX9_addEdge 82 = .ok (.iload_n 1, 1) := by decide +kernel
theorem dX9_addEdge_83 : decode cX9_addEdge 83 = .ok (.iload_n 2, 1) := by decide +kernel
theorem dX9_addEdge_84 : decode cX9_addEdge 84 = .ok (.invokevirtual 115, 3) := by decide +kernel
theorem dX9_addEdge_87 : decode cX9_addEdge 87 = .ok (.aload_n 0, 1) := by decide +kernel
theorem dX9_addEdge_88 : decode cX9_addEdge 88 = .ok (.invokevirtual 104, 3) := by decide +kernel
theorem dX9_addEdge_91 : decode cX9_addEdge 91 = .ok (.aload_n 0, 1) := by decide +kernel
theorem dX9_addEdge_92 : decode cX9_addEdge 92 = .ok (.getfield 101, 3) := by decide +kernel
theorem dX9_addEdge_95 : decode cX9_addEdge 95 = .ok (.iconst 1, 1) := by decide +kernel
theorem dX9_addEdge_96 : decode cX9_addEdge 96 = .ok (.isub, 1) := by decide +kernel
theorem dX9_addEdge_97 : decode cX9_addEdge 97 = .ok (.ireturn, 1) := by decide +kernel
theorem dX9_isEdge_0 : decode cX9_isEdge 0 = .ok (.iload_n 1, 1) := by decide +kernel
theorem dX9_isEdge_1 : decode cX9_isEdge 1 = .ok (.iconst 0, 1) := by decide +kernel
theorem dX9_isEdge_2 : decode cX9_isEdge 2 = .ok (.aload_n 0, 1) := by decide +kernel
theorem dX9_isEdge_3 : decode cX9_isEdge 3 = .ok (.getfield 101, 3) := by decide +kernel
theorem dX9_isEdge_6 : decode cX9_isEdge 6 = .ok (.iconst 1, 1) := by decide +kernel
theorem dX9_isEdge_7 : decode cX9_isEdge 7 = .ok (.isub, 1) := by decide +kernel
theorem dX9_isEdge_8 : decode cX9_isEdge 8 = .ok (.invokestatic 97, 3) := by decide +kernel
theorem dX9_isEdge_11 : decode cX9_isEdge 11 = .ok (.ireturn, 1) := by decide +kernel
theorem dX9_setWeight_0 : decode cX9_setWeight 0 = .ok (.aload_n 0, 1) := by decide +kernel
theorem dX9_setWeight_1 : decode cX9_setWeight 1 = .ok (.aload_n 0, 1) := by decide +kernel
theorem dX9_setWeight_2 : decode cX9_setWeight 2 = .ok (.iload_n 1, 1) := by decide +kernel
theorem dX9_setWeight_3 : decode cX9_setWeight 3 = .ok (.invokevirtual 119, 3) := by decide +kernel
theorem dX9_setWeight_6 : decode cX9_setWeight 6 = .ok (.ifCond .ne 7, 3) := by decide +kernel
theorem dX9_setWeight_9 : decode cX9_setWeight 9 = .ok (.iconst 1, 1) := by decide +kernel
theorem dX9_setWeight_10 : decode cX9_setWeight 10 = .ok (.goto 18, 3) := by decide +kernel
theorem dX9_setWeight_13 : decode cX9_setWeight 13 = .ok (.iload_n 2, 1) := by decide +kernel
theorem dX9_setWeight_14 : decode cX9_setWeight 14 = .ok (.iconst 0, 1) := by decide +kernel
theorem dX9_setWeight_15 : decode cX9_setWeight 15 = .ok (.bipush 99, 2) := by decide +kernel
theorem dX9_setWeight_17 : decode cX9_setWeight 17 = .ok (.invokestatic 97, 3) := by decide +kernel
theorem dX9_setWeight_20 : decode cX9_setWeight 20 = .ok (.ifCond .eq 7, 3) := by decide +kernel
theorem dX9_setWeight_23 : decode cX9_setWeight 23 = .ok (.iconst 0, 1) := by decide +kernel
theorem dX9_setWeight_24 : decode cX9_setWeight 24 = .ok (.goto 4, 3) := by decide +kernel
theorem dX9_setWeight_27 : decode cX9_setWeight 27 = .ok (.iconst 2, 1) := by decide +kernel
theorem dX9_setWeight_28 : decode cX9_setWeight 28 = .ok (.putfield 81, 3) := by decide +kernel
theorem dX9_setWeight_31 : decode cX9_setWeight 31 = .ok (.aload_n 0, 1) := by decide +kernel
theorem dX9_setWeight_32 : decode cX9_setWeight 32 = .ok (.getfield 81, 3) := by decide +kernel
theorem dX9_setWeight_35 : decode cX9_setWeight 35 = .ok (.ifCond .le 5, 3) := by decide +kernel
theorem dX9_setWeight_38 : decode cX9_setWeight 38 = .ok (.iconst 0, 1) := by decide +kernel
theorem dX9_setWeight_39 : decode cX9_setWeight 39 = .ok (.ireturn, 1) := by decide +kernel
theorem dX9_setWeight_40 : decode cX9_setWeight 40 = .ok (.aload_n 0, 1) := by decide +kernel
theorem dX9_setWeight_41 : decode cX9_setWeight 41 = .ok (.getfield 20, 3) := by decide +kernel
theorem dX9_setWeight_44 : decode cX9_setWeight 44 = .ok (.iload_n 1, 1) := by decide +kernel
theorem dX9_setWeight_45 : decode cX9_setWeight 45 = .ok (.iaload, 1) := by decide +kernel
theorem dX9_setWeight_46 : decode cX9_setWeight 46 = .ok (.istore_n 3, 1) := by decide +kernel
theorem dX9_setWeight_47 : decode cX9_setWeight 47 = .ok (.aload_n 0, 1) := by decide +kernel
theorem dX9_setWeight_48 : decode cX9_setWeight 48 = .ok (.getfield 20, 3) := by decide +kernel
theorem dX9_setWeight_51 : decode cX9_setWeight 51 = .ok (.iload_n 1, 1) := by decide +kernel
theorem dX9_setWeight_52 : decode cX9_setWeight 52 = .ok (.iload_n 2, 1) := by decide +kernel
theorem dX9_setWeight_53 : decode cX9_setWeight 53 = .ok (.iastore, 1) := by decide +kernel
theorem dX9_setWeight_54 : decode cX9_setWeight 54 = .ok (.aload_n 0, 1) := by decide +kernel
theorem dX9_setWeight_55 : decode cX9_setWeight 55 = .ok (.invokevirtual 104, 3) := by decide +kernel
theorem dX9_setWeight_58 : decode cX9_setWeight 58 = .ok (.iload_n 3, 1) := by decide +kernel
theorem dX9_setWeight_59 : decode cX9_setWeight 59 = .ok (.ireturn, 1) := by decide +kernel
theorem dX9_edgeCount_0 : decode cX9_edgeCount 0 = .ok (.aload_n 0, 1) := by decide +kernel
theorem dX9_edgeCount_1 : decode cX9_edgeCount 1 = .ok (.iconst 0, 1) := by decide +kernel
theorem dX9_edgeCount_2 : decode cX9_edgeCount 2 = .ok (.putfield 81, 3) := by decide +kernel
theorem dX9_edgeCount_5 : decode cX9_edgeCount 5 = .ok (.aload_n 0, 1) := by decide +kernel
theorem dX9_edgeCount_6 : decode cX9_edgeCount 6 = .ok (.getfield 101, 3) := by decide +kernel
theorem dX9_edgeCount_9 : decode cX9_edgeCount 9 = .ok (.ireturn, 1) := by decide +kernel
theorem dX9_append_0 : decode cX9_append 0 = .ok (.aload_n 0, 1) := by decide +kernel
theorem dX9_append_1 : decode cX9_append 1 = .ok (.iload_n 1, 1) := by decide +kernel
theorem dX9_append_2 : decode cX9_append 2 = .ok (.bipush 32, 2) := by decide +kernel
theorem dX9_append_4 : decode cX9_append 4 = .ok (.bipush 126, 2) := by decide +kernel
theorem dX9_append_6 : decode cX9_append 6 = .ok (.invokestatic 97, 3) := by decide +kernel
theorem dX9_append_9 : decode cX9_append 9 = .ok (.ifCond .ne 7, 3) := by decide +kernel
theorem dX9_append_12 : decode cX9_append 12 = .ok (.iconst 1, 1) := by decide +kernel
theorem dX9_append_13 : decode cX9_append 13 = .ok (.goto 17, 3) := by decide +kernel
theorem dX9_append_16 : decode cX9_append 16 = .ok (.aload_n 0, 1) := by decide +kernel
theorem dX9_append_17 : decode cX9_append 17 = .ok (.getfield 122, 3) := by decide +kernel
theorem dX9_append_20 : decode cX9_append 20 = .ok (.bipush 60, 2) := by decide +kernel
theorem dX9_append_22 : decode cX9_append 22 = .ok (.if_icmp .ne 7, 3) := by decide +kernel
theorem dX9_append_25 : decode cX9_append 25 = .ok (.iconst 2, 1) := by decide +kernel
theorem dX9_append_26 : decode cX9_append 26 = .ok (.goto 4, 3) := by decide +kernel
theorem dX9_append_29 : decode cX9_append 29 = .ok (.iconst 0, 1) := by decide +kernel
theorem dX9_append_30 : decode cX9_append 30 = .ok (.putfield 81, 3) := by decide +kernel
theorem dX9_append_33 : decode cX9_append 33 = .ok (.aload_n 0, 1) := by decide +kernel
theorem dX9_append_34 : decode cX9_append 34 = .ok (.getfield 81, 3) := by decide +kernel
theorem dX9_append_37 : decode cX9_append 37 = .ok (.ifCond .le 5, 3) := by decide +kernel
theorem dX9_append_40 : decode cX9_append 40 = .ok (.iconst 0, 1) := by decide +kernel
theorem dX9_append_41 : decode cX9_append 41 = .ok (.ireturn, 1) := by decide +kernel
theorem dX9_append_42 : decode cX9_append 42 = .ok (.aload_n 0, 1) := by decide +kernel
theorem dX9_append_43 : decode cX9_append 43 = .ok (.getfield 23, 3) := by decide +kernel
theorem dX9_append_46 : decode cX9_append 46 = .ok (.aload_n 0, 1) := by decide +kernel
theorem dX9_append_47 : decode cX9_append 47 = .ok (.getfield 122, 3) := by decide +kernel
theorem dX9_append_50 : decode cX9_append 50 = .ok (.iload_n 1, 1) := by decide +kernel
theorem dX9_append_51 : decode cX9_append 51 = .ok (.iastore, 1) := by decide +kernel
theorem dX9_append_52 : decode cX9_append 52 = .ok (.aload_n 0, 1) := by decide +kernel
theorem dX9_append_53 : decode cX9_append 53 = .ok (.dup, 1) := by decide +kernel
theorem dX9_append_54 : decode cX9_append 54 = .ok (.getfield 122, 3) := by decide +kernel
theorem dX9_append_57 : decode cX9_append 57 = .ok (.iconst 1, 1) := by decide +kernel
theorem dX9_append_58 : decode cX9_append 58 = .ok (.iadd, 1) := by decide +kernel
theorem dX9_append_59 : decode cX9_append 59 = .ok (.putfield 122, 3) := by decide +kernel
theorem dX9_append_62 : decode cX9_append 62 = .ok (.aload_n 0, 1) := by decide +kernel
theorem dX9_append_63 : decode cX9_append 63 = .ok (.getfield 122, 3) := by decide +kernel
theorem dX9_append_66 : decode cX9_append 66 = .ok (.ireturn, 1) := by decide +kernel
theorem dX9_clearInput_0 : decode cX9_clearInput 0 = .ok (.aload_n 0, 1) := by decide +kernel
theorem dX9_clearInput_1 : decode cX9_clearInput 1 = .ok (.iconst 0, 1) := by decide +kernel
theorem dX9_clearInput_2 : decode cX9_clearInput 2 = .ok (.putfield 81, 3) := by decide +kernel
theorem dX9_clearInput_5 : decode cX9_clearInput 5 = .ok (.aload_n 0, 1) := by decide +kernel
theorem dX9_clearInput_6 : decode cX9_clearInput 6 = .ok (.getfield 122, 3) := by decide +kernel
theorem dX9_clearInput_9 : decode cX9_clearInput 9 = .ok (.istore_n 1, 1) := by decide +kernel
theorem dX9_clearInput_10 : decode cX9_clearInput 10 = .ok (.aload_n 0, 1) := by decide +kernel
theorem dX9_clearInput_11 : decode cX9_clearInput 11 = .ok (.iconst 0, 1) := by decide +kernel
theorem dX9_clearInput_12 : decode cX9_clearInput 12 = .ok (.putfield 122, 3) := by decide +kernel
theorem dX9_clearInput_15 : decode cX9_clearInput 15 = .ok (.iload_n 1, 1) := by decide +kernel
theorem dX9_clearInput_16 : decode cX9_clearInput 16 = .ok (.ireturn, 1) := by decide +kernel
theorem dX9_isNew_0 : decode cX9_isNew 0 = .ok (.iconst 1, 1) := by decide +kernel
theorem dX9_isNew_1 : decode cX9_isNew 1 = .ok (.istore_n 1, 1) := by decide +kernel
theorem dX9_isNew_2 : decode cX9_isNew 2 = .ok (.iconst 0, 1) := by decide +kernel
theorem dX9_isNew_3 : decode cX9_isNew 3 = .ok (.istore_n 2, 1) := by decide +kernel
theorem dX9_isNew_4 : decode cX9_isNew 4 = .ok (.iload_n 2, 1) := by decide +kernel
theorem dX9_isNew_5 : decode cX9_isNew 5 = .ok (.aload_n 0, 1) := by decide +kernel
theorem dX9_isNew_6 : decode cX9_isNew 6 = .ok (.getfield 125, 3) := by decide +kernel
theorem dX9_isNew_9 : decode cX9_isNew 9 = .ok (.if_icmp .ge 55, 3) := by decide +kernel
theorem dX9_isNew_12 : decode cX9_isNew 12 = .ok (.iload_n 1, 1) := by decide +kernel
theorem dX9_isNew_13 : decode cX9_isNew 13 = .ok (.ifCond .eq 43, 3) := by decide +kernel
theorem dX9_isNew_16 : decode cX9_isNew 16 = .ok (.aload_n 0, 1) := by decide +kernel
theorem dX9_isNew_17 : decode cX9_isNew 17 = .ok (.getfield 45, 3) := by decide +kernel
theorem dX9_isNew_20 : decode cX9_isNew 20 = .ok (.iload_n 2, 1) := by decide +kernel
theorem dX9_isNew_21 : decode cX9_isNew 21 = .ok (.iaload, 1) := by decide +kernel
theorem dX9_isNew_22 : decode cX9_isNew 22 = .ok (.aload_n 0, 1) := by decide +kernel
theorem dX9_isNew_23 : decode cX9_isNew 23 = .ok (.getfield 45, 3) := by decide +kernel
theorem dX9_isNew_26 : decode cX9_isNew 26 = .ok (.aload_n 0, 1) := by decide +kernel
theorem dX9_isNew_27 : decode cX9_isNew 27 = .ok (.getfield 125, 3) := by decide +kernel
theorem dX9_isNew_30 : decode cX9_isNew 30 = .ok (.iaload, 1) := by decide +kernel
theorem dX9_isNew_31 : decode cX9_isNew 31 = .ok (.if_icmp .ne 21, 3) := by decide +kernel
theorem dX9_isNew_34 : decode cX9_isNew 34 = .ok (.aload_n 0, 1) := by decide +kernel
theorem dX9_isNew_35 : decode cX9_isNew 35 = .ok (.getfield 48, 3) := by decide +kernel
theorem dX9_isNew_38 : decode cX9_isNew 38 = .ok (.iload_n 2, 1) := by decide +kernel
theorem dX9_isNew_39 : decode cX9_isNew 39 = .ok (.iaload, 1) := by decide +kernel
theorem dX9_isNew_40 : decode cX9_isNew 40 = .ok (.aload_n 0, 1) := by decide +kernel
theorem dX9_isNew_41 : decode cX9_isNew 41 = .ok (.getfield 48, 3) := by decide +kernel
theorem dX9_isNew_44 : decode cX9_isNew 44 = .ok (.aload_n 0, 1) := by decide +kernel
theorem dX9_isNew_45 : decode cX9_isNew 45 = .ok (.getfield 125, 3) := by decide +kernel
theorem dX9_isNew_48 : decode cX9_isNew 48 = .ok (.iaload, 1) := by decide +kernel
theorem dX9_isNew_49 : decode cX9_isNew 49 = .ok (.if_icmp .eq 7, 3) := by decide +kernel
theorem dX9_isNew_52 : decode cX9_isNew 52 = .ok (.iconst 1, 1) := by decide +kernel
theorem dX9_isNew_53 : decode cX9_isNew 53 = .ok (.goto 4, 3) := by decide +kernel
theorem dX9_isNew_56 : decode cX9_isNew 56 = .ok (.iconst 0, 1) := by decide +kernel
theorem dX9_isNew_57 : decode cX9_isNew 57 = .ok (.istore_n 1, 1) := by decide +kernel
theorem dX9_isNew_58 : decode cX9_isNew 58 = .ok (.iinc 2 1, 3) := by decide +kernel
theorem dX9_isNew_61 : decode cX9_isNew 61 = .ok (.goto (-57), 3) := by decide +kernel
theorem dX9_isNew_64 : decode cX9_isNew 64 = .ok (.iload_n 1, 1) := by decide +kernel
theorem dX9_isNew_65 : decode cX9_isNew 65 = .ok (.ireturn, 1) := by decide +kernel
theorem dX9_takes_0 : decode cX9_takes 0 = .ok (.iload_n 1, 1) := by decide +kernel
theorem dX9_takes_1 : decode cX9_takes 1 = .ok (.bipush 97, 2) := by decide +kernel
theorem dX9_takes_3 : decode cX9_takes 3 = .ok (.isub, 1) := by decide +kernel
theorem dX9_takes_4 : decode cX9_takes 4 = .ok (.istore_n 2, 1) := by decide +kernel
theorem dX9_takes_5 : decode cX9_takes 5 = .ok (.aload_n 0, 1) := by decide +kernel
theorem dX9_takes_6 : decode cX9_takes 6 = .ok (.getfield 128, 3) := by decide +kernel
theorem dX9_takes_9 : decode cX9_takes 9 = .ok (.tableswitch 149 0 3 #[31, 51, 68, 95], 31) := by decide +kernel
theorem dX9_takes_40 : decode cX9_takes 40 = .ok (.aload_n 0, 1) := by decide +kernel
theorem dX9_takes_41 : decode cX9_takes 41 = .ok (.iload_n 2, 1) := by decide +kernel
theorem dX9_takes_42 : decode cX9_takes 42 = .ok (.iconst 1, 1) := by decide +kernel
theorem dX9_takes_43 : decode cX9_takes 43 = .ok (.iadd, 1) := by decide +kernel
theorem dX9_takes_44 : decode cX9_takes 44 = .ok (.putfield 131, 3) := by decide +kernel
theorem dX9_takes_47 : decode cX9_takes 47 = .ok (.aload_n 0, 1) := by decide +kernel
theorem dX9_takes_48 : decode cX9_takes 48 = .ok (.iconst 1, 1) := by decide +kernel
theorem dX9_takes_49 : decode cX9_takes 49 = .ok (.putfield 128, 3) := by decide +kernel
theorem dX9_takes_52 : decode cX9_takes 52 = .ok (.iload_n 2, 1) := by decide +kernel
theorem dX9_takes_53 : decode cX9_takes 53 = .ok (.iconst 1, 1) := by decide +kernel
theorem dX9_takes_54 : decode cX9_takes 54 = .ok (.bipush 11, 2) := by decide +kernel
theorem dX9_takes_56 : decode cX9_takes 56 = .ok (.invokestatic 97, 3) := by decide +kernel
theorem dX9_takes_59 : decode cX9_takes 59 = .ok (.ireturn, 1) := by decide +kernel
theorem dX9_takes_60 : decode cX9_takes 60 = .ok (.aload_n 0, 1) := by decide +kernel
theorem dX9_takes_61 : decode cX9_takes 61 = .ok (.iconst 2, 1) := by decide +kernel
theorem dX9_takes_62 : decode cX9_takes 62 = .ok (.putfield 128, 3) := by decide +kernel
theorem dX9_takes_65 : decode cX9_takes 65 = .ok (.iload_n 1, 1) := by decide +kernel
theorem dX9_takes_66 : decode cX9_takes 66 = .ok (.bipush 58, 2) := by decide +kernel
theorem dX9_takes_68 : decode cX9_takes 68 = .ok (.if_icmp .ne 7, 3) := by decide +kernel
theorem dX9_takes_71 : decode cX9_takes 71 = .ok (.iconst 1, 1) := by decide +kernel
theorem dX9_takes_72 : decode cX9_takes 72 = .ok (.goto 4, 3) := by decide +kernel
theorem dX9_takes_75 : decode cX9_takes 75 = .ok (.iconst 0, 1) := by decide +kernel
theorem dX9_takes_76 : decode cX9_takes 76 = .ok (.ireturn, 1) := by decide +kernel
theorem dX9_takes_77 : decode cX9_takes 77 = .ok (.aload_n 0, 1) := by decide +kernel
theorem dX9_takes_78 : decode cX9_takes 78 = .ok (.getfield 45, 3) := by decide +kernel
theorem dX9_takes_81 : decode cX9_takes 81 = .ok (.aload_n 0, 1) := by decide +kernel
theorem dX9_takes_82 : decode cX9_takes 82 = .ok (.getfield 125, 3) := by decide +kernel
theorem dX9_takes_85 : decode cX9_takes 85 = .ok (.iload_n 2, 1) := by decide +kernel
theorem dX9_takes_86 : decode cX9_takes 86 = .ok (.iastore, 1) := by decide +kernel
theorem dX9_takes_87 : decode cX9_takes 87 = .ok (.aload_n 0, 1) := by decide +kernel
theorem dX9_takes_88 : decode cX9_takes 88 = .ok (.iconst 3, 1) := by decide +kernel
theorem dX9_takes_89 : decode cX9_takes 89 = .ok (.putfield 128, 3) := by decide +kernel
theorem dX9_takes_92 : decode cX9_takes 92 = .ok (.iload_n 2, 1) := by decide +kernel
theorem dX9_takes_93 : decode cX9_takes 93 = .ok (.iconst 0, 1) := by decide +kernel
theorem dX9_takes_94 : decode cX9_takes 94 = .ok (.aload_n 0, 1) := by decide +kernel
theorem dX9_takes_95 : decode cX9_takes 95 = .ok (.getfield 131, 3) := by decide +kernel
theorem dX9_takes_98 : decode cX9_takes 98 = .ok (.iconst 2, 1) := by decide +kernel
theorem dX9_takes_99 : decode cX9_takes 99 = .ok (.isub, 1) := by decide +kernel
theorem dX9_takes_100 : decode cX9_takes 100 = .ok (.invokestatic 97, 3) := by decide +kernel
theorem dX9_takes_103 : decode cX9_takes 103 = .ok (.ireturn, 1) := by decide +kernel
theorem dX9_takes_104 : decode cX9_takes 104 = .ok (.aload_n 0, 1) := by decide +kernel
theorem dX9_takes_105 : decode cX9_takes 105 = .ok (.getfield 48, 3) := by decide +kernel
theorem dX9_takes_108 : decode cX9_takes 108 = .ok (.aload_n 0, 1) := by decide +kernel
theorem dX9_takes_109 : decode cX9_takes 109 = .ok (.getfield 125, 3) := by decide +kernel
theorem dX9_takes_112 : decode cX9_takes 112 = .ok (.iload_n 2, 1) := by decide +kernel
theorem dX9_takes_113 : decode cX9_takes 113 = .ok (.iastore, 1) := by decide +kernel
theorem dX9_takes_114 : decode cX9_takes 114 = .ok (.aload_n 0, 1) := by decide +kernel
theorem dX9_takes_115 : decode cX9_takes 115 = .ok (.iconst 4, 1) := by decide +kernel
theorem dX9_takes_116 : decode cX9_takes 116 = .ok (.putfield 128, 3) := by decide +kernel
theorem dX9_takes_119 : decode cX9_takes 119 = .ok (.iload_n 2, 1) := by decide +kernel
theorem dX9_takes_120 : decode cX9_takes 120 = .ok (.iconst 1, 1) := by decide +kernel
theorem dX9_takes_121 : decode cX9_takes 121 = .ok (.aload_n 0, 1) := by decide +kernel
theorem dX9_takes_122 : decode cX9_takes 122 = .ok (.getfield 131, 3) := by decide +kernel
theorem dX9_takes_125 : decode cX9_takes 125 = .ok (.iconst 1, 1) := by decide +kernel
theorem dX9_takes_126 : decode cX9_takes 126 = .ok (.isub, 1) := by decide +kernel
theorem dX9_takes_127 : decode cX9_takes 127 = .ok (.invokestatic 97, 3) := by decide +kernel
theorem dX9_takes_130 : decode cX9_takes 130 = .ok (.ifCond .eq 14, 3) := by decide +kernel
theorem dX9_takes_133 : decode cX9_takes 133 = .ok (.aload_n 0, 1) := by decide +kernel
theorem dX9_takes_134 : decode cX9_takes 134 = .ok (.invokevirtual 134, 3) := by decide +kernel
theorem dX9_takes_137 : decode cX9_takes 137 = .ok (.ifCond .eq 7, 3) := by decide +kernel
theorem dX9_takes_140 : decode cX9_takes 140 = .ok (.iconst 1, 1) := by decide +kernel
theorem dX9_takes_141 : decode cX9_takes 141 = .ok (.goto 4, 3) := by decide +kernel
theorem dX9_takes_144 : decode cX9_takes 144 = .ok (.iconst 0, 1) := by decide +kernel
theorem dX9_takes_145 : decode cX9_takes 145 = .ok (.istore_n 3, 1) := by decide +kernel
theorem dX9_takes_146 : decode cX9_takes 146 = .ok (.aload_n 0, 1) := by decide +kernel
theorem dX9_takes_147 : decode cX9_takes 147 = .ok (.dup, 1) := by decide +kernel
theorem dX9_takes_148 : decode cX9_takes 148 = .ok (.getfield 125, 3) := by decide +kernel
theorem dX9_takes_151 : decode cX9_takes 151 = .ok (.iconst 1, 1) := by decide +kernel
theorem dX9_takes_152 : decode cX9_takes 152 = .ok (.iadd, 1) := by decide +kernel
theorem dX9_takes_153 : decode cX9_takes 153 = .ok (.putfield 125, 3) := by decide +kernel
theorem dX9_takes_156 : decode cX9_takes 156 = .ok (.iload_n 3, 1) := by decide +kernel
theorem dX9_takes_157 : decode cX9_takes 157 = .ok (.ireturn, 1) := by decide +kernel
theorem dX9_takes_158 : decode cX9_takes 158 = .ok (.aload_n 0, 1) := by decide +kernel
theorem dX9_takes_159 : decode cX9_takes 159 = .ok (.iconst 2, 1) := by decide +kernel
theorem dX9_takes_160 : decode cX9_takes 160 = .ok (.putfield 128, 3) := by decide +kernel
theorem dX9_takes_163 : decode cX9_takes 163 = .ok (.iload_n 1, 1) := by decide +kernel
theorem dX9_takes_164 : decode cX9_takes 164 = .ok (.bipush 44, 2) := by decide +kernel
theorem dX9_takes_166 : decode cX9_takes 166 = .ok (.if_icmp .ne 16, 3) := by decide +kernel
theorem dX9_takes_169 : decode cX9_takes 169 = .ok (.aload_n 0, 1) := by decide +kernel
theorem dX9_takes_170 : decode cX9_takes 170 = .ok (.getfield 125, 3) := by decide +kernel
theorem dX9_takes_173 : decode cX9_takes 173 = .ok (.bipush 24, 2) := by decide +kernel
theorem dX9_takes_175 : decode cX9_takes 175 = .ok (.if_icmp .ge 7, 3) := by decide +kernel
theorem dX9_takes_178 : decode cX9_takes 178 = .ok (.iconst 1, 1) := by decide +kernel
theorem dX9_takes_179 : decode cX9_takes 179 = .ok (.goto 4, 3) := by decide +kernel
theorem dX9_takes_182 : decode cX9_takes 182 = .ok (.iconst 0, 1) := by decide +kernel
theorem dX9_takes_183 : decode cX9_takes 183 = .ok (.ireturn, 1) := by decide +kernel
theorem dX9_rightLength_0 : decode cX9_rightLength 0 = .ok (.aload_n 0, 1) := by decide +kernel
theorem dX9_rightLength_1 : decode cX9_rightLength 1 = .ok (.iconst 0, 1) := by decide +kernel
theorem dX9_rightLength_2 : decode cX9_rightLength 2 = .ok (.putfield 125, 3) := by decide +kernel
theorem dX9_rightLength_5 : decode cX9_rightLength 5 = .ok (.aload_n 0, 1) := by decide +kernel
theorem dX9_rightLength_6 : decode cX9_rightLength 6 = .ok (.iconst 0, 1) := by decide +kernel
theorem dX9_rightLength_7 : decode cX9_rightLength 7 = .ok (.putfield 128, 3) := by decide +kernel
theorem dX9_rightLength_10 : decode cX9_rightLength 10 = .ok (.iconst 0, 1) := by decide +kernel
theorem dX9_rightLength_11 : decode cX9_rightLength 11 = .ok (.istore_n 1, 1) := by decide +kernel
theorem dX9_rightLength_12 : decode cX9_rightLength 12 = .ok (.iload_n 1, 1) := by decide +kernel
theorem dX9_rightLength_13 : decode cX9_rightLength 13 = .ok (.aload_n 0, 1) := by decide +kernel
theorem dX9_rightLength_14 : decode cX9_rightLength 14 = .ok (.getfield 122, 3) := by decide +kernel
theorem dX9_rightLength_17 : decode cX9_rightLength 17 = .ok (.if_icmp .ge 22, 3) := by decide +kernel
theorem dX9_rightLength_20 : decode cX9_rightLength 20 = .ok (.aload_n 0, 1) := by decide +kernel
theorem dX9_rightLength_21 : decode cX9_rightLength 21 = .ok (.aload_n 0, 1) := by decide +kernel
theorem dX9_rightLength_22 : decode cX9_rightLength 22 = .ok (.getfield 23, 3) := by decide +kernel
theorem dX9_rightLength_25 : decode cX9_rightLength 25 = .ok (.iload_n 1, 1) := by decide +kernel
theorem dX9_rightLength_26 : decode cX9_rightLength 26 = .ok (.iaload, 1) := by decide +kernel
theorem dX9_rightLength_27 : decode cX9_rightLength 27 = .ok (.invokevirtual 138, 3) := by decide +kernel
theorem dX9_rightLength_30 : decode cX9_rightLength 30 = .ok (.ifCond .eq 9, 3) := by decide +kernel
theorem dX9_rightLength_33 : decode cX9_rightLength 33 = .ok (.iinc 1 1, 3) := by decide +kernel
theorem dX9_rightLength_36 : decode cX9_rightLength 36 = .ok (.goto (-24), 3) := by decide +kernel
theorem dX9_rightLength_39 : decode cX9_rightLength 39 = .ok (.iload_n 1, 1) := by decide +kernel
theorem dX9_rightLength_40 : decode cX9_rightLength 40 = .ok (.ireturn, 1) := by decide +kernel
theorem dX9_firstError_0 : decode cX9_firstError 0 = .ok (.aload_n 0, 1) := by decide +kernel
theorem dX9_firstError_1 : decode cX9_firstError 1 = .ok (.iconst 0, 1) := by decide +kernel
theorem dX9_firstError_2 : decode cX9_firstError 2 = .ok (.putfield 81, 3) := by decide +kernel
theorem dX9_firstError_5 : decode cX9_firstError 5 = .ok (.aload_n 0, 1) := by decide +kernel
theorem dX9_firstError_6 : decode cX9_firstError 6 = .ok (.invokevirtual 141, 3) := by decide +kernel
theorem dX9_firstError_9 : decode cX9_firstError 9 = .ok (.ireturn, 1) := by decide +kernel
theorem dX9_load_0 : decode cX9_load 0 = .ok (.aload_n 0, 1) := by decide +kernel
theorem dX9_load_1 : decode cX9_load 1 = .ok (.aload_n 0, 1) := by decide +kernel
theorem dX9_load_2 : decode cX9_load 2 = .ok (.invokevirtual 141, 3) := by decide +kernel
theorem dX9_load_5 : decode cX9_load 5 = .ok (.aload_n 0, 1) := by decide +kernel
theorem dX9_load_6 : decode cX9_load 6 = .ok (.getfield 122, 3) := by decide +kernel
theorem dX9_load_9 : decode cX9_load 9 = .ok (.if_icmp .ne 15, 3) := by decide +kernel
theorem dX9_load_12 : decode cX9_load 12 = .ok (.aload_n 0, 1) := by decide +kernel
theorem dX9_load_13 : decode cX9_load 13 = .ok (.getfield 128, 3) := by decide +kernel
theorem dX9_load_16 : decode cX9_load 16 = .ok (.iconst 4, 1) := by decide +kernel
theorem dX9_load_17 : decode cX9_load 17 = .ok (.if_icmp .ne 7, 3) := by decide +kernel
theorem dX9_load_20 : decode cX9_load 20 = .ok (.iconst 0, 1) := by decide +kernel
theorem dX9_load_21 : decode cX9_load 21 = .ok (.goto 4, 3) := by decide +kernel
theorem dX9_load_24 : decode cX9_load 24 = .ok (.iconst 1, 1) := by decide +kernel
theorem dX9_load_25 : decode cX9_load 25 = .ok (.putfield 81, 3) := by decide +kernel
theorem dX9_load_28 : decode cX9_load 28 = .ok (.aload_n 0, 1) := by decide +kernel
theorem dX9_load_29 : decode cX9_load 29 = .ok (.getfield 81, 3) := by decide +kernel
theorem dX9_load_32 : decode cX9_load 32 = .ok (.ifCond .le 5, 3) := by decide +kernel
theorem dX9_load_35 : decode cX9_load 35 = .ok (.iconst 0, 1) := by decide +kernel
theorem dX9_load_36 : decode cX9_load 36 = .ok (.ireturn, 1) := by decide +kernel
theorem dX9_load_37 : decode cX9_load 37 = .ok (.aload_n 0, 1) := by decide +kernel
theorem dX9_load_38 : decode cX9_load 38 = .ok (.aload_n 0, 1) := by decide +kernel
theorem dX9_load_39 : decode cX9_load 39 = .ok (.getfield 131, 3) := by decide +kernel
theorem dX9_load_42 : decode cX9_load 42 = .ok (.putfield 7, 3) := by decide +kernel
theorem dX9_load_45 : decode cX9_load 45 = .ok (.aload_n 0, 1) := by decide +kernel
theorem dX9_load_46 : decode cX9_load 46 = .ok (.iconst 0, 1) := by decide +kernel
theorem dX9_load_47 : decode cX9_load 47 = .ok (.putfield 101, 3) := by decide +kernel
theorem dX9_load_50 : decode cX9_load 50 = .ok (.iconst 0, 1) := by decide +kernel
theorem dX9_load_51 : decode cX9_load 51 = .ok (.istore_n 1, 1) := by decide +kernel
theorem dX9_load_52 : decode cX9_load 52 = .ok (.iload_n 1, 1) := by decide +kernel
theorem dX9_load_53 : decode cX9_load 53 = .ok (.aload_n 0, 1) := by decide +kernel
theorem dX9_load_54 : decode cX9_load 54 = .ok (.getfield 125, 3) := by decide +kernel
theorem dX9_load_57 : decode cX9_load 57 = .ok (.if_icmp .ge 25, 3) := by decide +kernel
theorem dX9_load_60 : decode cX9_load 60 = .ok (.aload_n 0, 1) := by decide +kernel
theorem dX9_load_61 : decode cX9_load 61 = .ok (.aload_n 0, 1) := by decide +kernel
theorem dX9_load_62 : decode cX9_load 62 = .ok (.getfield 45, 3) := by decide +kernel
theorem dX9_load_65 : decode cX9_load 65 = .ok (.iload_n 1, 1) := by decide +kernel
theorem dX9_load_66 : decode cX9_load 66 = .ok (.iaload, 1) := by decide +kernel
theorem dX9_load_67 : decode cX9_load 67 = .ok (.aload_n 0, 1) := by decide +kernel
theorem dX9_load_68 : decode cX9_load 68 = .ok (.getfield 48, 3) := by decide +kernel
theorem dX9_load_71 : decode cX9_load 71 = .ok (.iload_n 1, 1) := by decide +kernel
theorem dX9_load_72 : decode cX9_load 72 = .ok (.iaload, 1) := by decide +kernel
theorem dX9_load_73 : decode cX9_load 73 = .ok (.invokevirtual 115, 3) := by decide +kernel
theorem dX9_load_76 : decode cX9_load 76 = .ok (.iinc 1 1, 3) := by decide +kernel
theorem dX9_load_79 : decode cX9_load 79 = .ok (.goto (-27), 3) := by decide +kernel
theorem dX9_load_82 : decode cX9_load 82 = .ok (.aload_n 0, 1) := by decide +kernel
theorem dX9_load_83 : decode cX9_load 83 = .ok (.iconst 0, 1) := by decide +kernel
theorem dX9_load_84 : decode cX9_load 84 = .ok (.putfield 122, 3) := by decide +kernel
theorem dX9_load_87 : decode cX9_load 87 = .ok (.aload_n 0, 1) := by decide +kernel
theorem dX9_load_88 : decode cX9_load 88 = .ok (.invokevirtual 104, 3) := by decide +kernel
theorem dX9_load_91 : decode cX9_load 91 = .ok (.aload_n 0, 1) := by decide +kernel
theorem dX9_load_92 : decode cX9_load 92 = .ok (.getfield 101, 3) := by decide +kernel
theorem dX9_load_95 : decode cX9_load 95 = .ok (.ireturn, 1) := by decide +kernel
theorem dX9_search_0 : decode cX9_search 0 = .ok (.iconst 0, 1) := by decide +kernel
theorem dX9_search_1 : decode cX9_search 1 = .ok (.istore_n 1, 1) := by decide +kernel
theorem dX9_search_2 : decode cX9_search 2 = .ok (.iload_n 1, 1) := by decide +kernel
theorem dX9_search_3 : decode cX9_search 3 = .ok (.bipush 12, 2) := by decide +kernel
theorem dX9_search_5 : decode cX9_search 5 = .ok (.if_icmp .ge 30, 3) := by decide +kernel
theorem dX9_search_8 : decode cX9_search 8 = .ok (.aload_n 0, 1) := by decide +kernel
theorem dX9_search_9 : decode cX9_search 9 = .ok (.getfield 51, 3) := by decide +kernel
theorem dX9_search_12 : decode cX9_search 12 = .ok (.iload_n 1, 1) := by decide +kernel
theorem dX9_search_13 : decode cX9_search 13 = .ok (.iconst 0, 1) := by decide +kernel
theorem dX9_search_14 : decode cX9_search 14 = .ok (.bastore, 1) := by decide +kernel
theorem dX9_search_15 : decode cX9_search 15 = .ok (.aload_n 0, 1) := by decide +kernel
theorem dX9_search_16 : decode cX9_search 16 = .ok (.getfield 54, 3) := by decide +kernel
theorem dX9_search_19 : decode cX9_search 19 = .ok (.iload_n 1, 1) := by decide +kernel
theorem dX9_search_20 : decode cX9_search 20 = .ok (.iconst 0, 1) := by decide +kernel
theorem dX9_search_21 : decode cX9_search 21 = .ok (.bastore, 1) := by decide +kernel
theorem dX9_search_22 : decode cX9_search 22 = .ok (.aload_n 0, 1) := by decide +kernel
theorem dX9_search_23 : decode cX9_search 23 = .ok (.getfield 60, 3) := by decide +kernel
theorem dX9_search_26 : decode cX9_search 26 = .ok (.iload_n 1, 1) := by decide +kernel
theorem dX9_search_27 : decode cX9_search 27 = .ok (.iconst 0, 1) := by decide +kernel
theorem dX9_search_28 : decode cX9_search 28 = .ok (.iastore, 1) := by decide +kernel
theorem dX9_search_29 : decode cX9_search 29 = .ok (.iinc 1 1, 3) := by decide +kernel
theorem dX9_search_32 : decode cX9_search 32 = .ok (.goto (-30), 3) := by decide +kernel
theorem dX9_search_35 : decode cX9_search 35 = .ok (.aload_n 0, 1) := by decide +kernel
theorem dX9_search_36 : decode cX9_search 36 = .ok (.iconst 0, 1) := by decide +kernel
theorem dX9_search_37 : decode cX9_search 37 = .ok (.putfield 145, 3) := by decide +kernel
theorem dX9_search_40 : decode cX9_search 40 = .ok (.aload_n 0, 1) := by decide +kernel
theorem dX9_search_41 : decode cX9_search 41 = .ok (.getfield 57, 3) := by decide +kernel
theorem dX9_search_44 : decode cX9_search 44 = .ok (.iconst 0, 1) := by decide +kernel
theorem dX9_search_45 : decode cX9_search 45 = .ok (.iconst 0, 1) := by decide +kernel
theorem dX9_search_46 : decode cX9_search 46 = .ok (.iastore, 1) := by decide +kernel
theorem dX9_search_47 : decode cX9_search 47 = .ok (.aload_n 0, 1) := by decide +kernel
theorem dX9_search_48 : decode cX9_search 48 = .ok (.getfield 51, 3) := by decide +kernel
theorem dX9_search_51 : decode cX9_search 51 = .ok (.iconst 0, 1) := by decide +kernel
theorem dX9_search_52 : decode cX9_search 52 = .ok (.iconst 1, 1) := by decide +kernel
theorem dX9_search_53 : decode cX9_search 53 = .ok (.bastore, 1) := by decide +kernel
theorem dX9_search_54 : decode cX9_search 54 = .ok (.aload_n 0, 1) := by decide +kernel
theorem dX9_search_55 : decode cX9_search 55 = .ok (.getfield 54, 3) := by decide +kernel
theorem dX9_search_58 : decode cX9_search 58 = .ok (.iconst 0, 1) := by decide +kernel
theorem dX9_search_59 : decode cX9_search 59 = .ok (.iconst 1, 1) := by decide +kernel
theorem dX9_search_60 : decode cX9_search 60 = .ok (.bastore, 1) := by decide +kernel
theorem dX9_search_61 : decode cX9_search 61 = .ok (.iconst 1, 1) := by decide +kernel
theorem dX9_search_62 : decode cX9_search 62 = .ok (.istore_n 1, 1) := by decide +kernel
theorem dX9_search_63 : decode cX9_search 63 = .ok (.iload_n 1, 1) := by decide +kernel
theorem dX9_search_64 : decode cX9_search 64 = .ok (.ifCond .le 166, 3) := by decide +kernel
theorem dX9_search_67 : decode cX9_search 67 = .ok (.aload_n 0, 1) := by decide +kernel
theorem dX9_search_68 : decode cX9_search 68 = .ok (.getfield 57, 3) := by decide +kernel
theorem dX9_search_71 : decode cX9_search 71 = .ok (.iload_n 1, 1) := by decide +kernel
theorem dX9_search_72 : decode cX9_search 72 = .ok (.iconst 1, 1) := by decide +kernel
theorem dX9_search_73 : decode cX9_search 73 = .ok (.isub, 1) := by decide +kernel
theorem dX9_search_74 : decode cX9_search 74 = .ok (.iaload, 1) := by decide +kernel
theorem dX9_search_75 : decode cX9_search 75 = .ok (.istore_n 2, 1) := by decide +kernel
theorem dX9_search_76 : decode cX9_search 76 = .ok (.aload_n 0, 1) := by decide +kernel
theorem dX9_search_77 : decode cX9_search 77 = .ok (.getfield 60, 3) := by decide +kernel
theorem dX9_search_80 : decode cX9_search 80 = .ok (.iload_n 2, 1) := by decide +kernel
theorem dX9_search_81 : decode cX9_search 81 = .ok (.iaload, 1) := by decide +kernel
theorem dX9_search_82 : decode cX9_search 82 = .ok (.istore_n 3, 1) := by decide +kernel
theorem dX9_search_83 : decode cX9_search 83 = .ok (.iload_n 3, 1) := by decide +kernel
theorem dX9_search_84 : decode cX9_search 84 = .ok (.aload_n 0, 1) := by decide +kernel
theorem dX9_search_85 : decode cX9_search 85 = .ok (.getfield 101, 3) := by decide +kernel
theorem dX9_search_88 : decode cX9_search 88 = .ok (.if_icmp .ge 19, 3) := by decide +kernel
theorem dX9_search_91 : decode cX9_search 91 = .ok (.aload_n 0, 1) := by decide +kernel
theorem dX9_search_92 : decode cX9_search 92 = .ok (.getfield 13, 3) := by decide +kernel
theorem dX9_search_95 : decode cX9_search 95 = .ok (.iload_n 3, 1) := by decide +kernel
theorem dX9_search_96 : decode cX9_search 96 = .ok (.iaload, 1) := by decide +kernel
theorem dX9_search_97 : decode cX9_search 97 = .ok (.iload_n 2, 1) := by decide +kernel
theorem dX9_search_98 : decode cX9_search 98 = .ok (.if_icmp .eq 9, 3) := by decide +kernel
theorem dX9_search_101 : decode cX9_search 101 = .ok (.iinc 3 1, 3) := by decide +kernel
theorem dX9_search_104 : decode cX9_search 104 = .ok (.goto (-21), 3) := by decide +kernel
theorem dX9_search_107 : decode cX9_search 107 = .ok (.aload_n 0, 1) := by decide +kernel
theorem dX9_search_108 : decode cX9_search 108 = .ok (.getfield 60, 3) := by decide +kernel
theorem dX9_search_111 : decode cX9_search 111 = .ok (.iload_n 2, 1) := by decide +kernel
theorem dX9_search_112 : decode cX9_search 112 = .ok (.iload_n 3, 1) := by decide +kernel
theorem dX9_search_113 : decode cX9_search 113 = .ok (.iconst 1, 1) := by decide +kernel
theorem dX9_search_114 : decode cX9_search 114 = .ok (.iadd, 1) := by decide +kernel
theorem dX9_search_115 : decode cX9_search 115 = .ok (.iastore, 1) := by decide +kernel
theorem dX9_search_116 : decode cX9_search 116 = .ok (.iload_n 3, 1) := by decide +kernel
theorem dX9_search_117 : decode cX9_search 117 = .ok (.aload_n 0, 1) := by decide +kernel
theorem dX9_search_118 : decode cX9_search 118 = .ok (.getfield 101, 3) := by decide +kernel
theorem dX9_search_121 : decode cX9_search 121 = .ok (.if_icmp .lt 36, 3) := by decide +kernel
theorem dX9_search_124 : decode cX9_search 124 = .ok (.aload_n 0, 1) := by decide +kernel
theorem dX9_search_125 : decode cX9_search 125 = .ok (.getfield 54, 3) := by decide +kernel
theorem dX9_search_128 : decode cX9_search 128 = .ok (.iload_n 2, 1) := by decide +kernel
theorem dX9_search_129 : decode cX9_search 129 = .ok (.iconst 0, 1) := by decide +kernel
theorem dX9_search_130 : decode cX9_search 130 = .ok (.bastore, 1) := by decide +kernel
theorem dX9_search_131 : decode cX9_search 131 = .ok (.aload_n 0, 1) := by decide +kernel
theorem dX9_search_132 : decode cX9_search 132 = .ok (.getfield 63, 3) := by decide +kernel
theorem dX9_search_135 : decode cX9_search 135 = .ok (.aload_n 0, 1) := by decide +kernel
theorem dX9_search_136 : decode cX9_search 136 = .ok (.getfield 145, 3) := by decide +kernel
theorem dX9_search_139 : decode cX9_search 139 = .ok (.iload_n 2, 1) := by decide +kernel
theorem dX9_search_140 : decode cX9_search 140 = .ok (.iastore, 1) := by decide +kernel
theorem dX9_search_141 : decode cX9_search 141 = .ok (.aload_n 0, 1) := by decide +kernel
theorem dX9_search_142 : decode cX9_search 142 = .ok (.dup, 1) := by decide +kernel
theorem dX9_search_143 : decode cX9_search 143 = .ok (.getfield 145, 3) := by decide +kernel
theorem dX9_search_146 : decode cX9_search 146 = .ok (.iconst 1, 1) := by decide +kernel
theorem dX9_search_147 : decode cX9_search 147 = .ok (.iadd, 1) := by decide +kernel
theorem dX9_search_148 : decode cX9_search 148 = .ok (.putfield 145, 3) := by decide +kernel
theorem dX9_search_151 : decode cX9_search 151 = .ok (.iinc 1 (-1), 3) := by decide +kernel
theorem dX9_search_154 : decode cX9_search 154 = .ok (.goto 73, 3) := by decide +kernel
theorem dX9_search_157 : decode cX9_search 157 = .ok (.aload_n 0, 1) := by decide +kernel
theorem dX9_search_158 : decode cX9_search 158 = .ok (.getfield 26, 3) := by decide +kernel
theorem dX9_search_161 : decode cX9_search 161 = .ok (.iload_n 3, 1) := by decide +kernel
theorem dX9_search_162 : decode cX9_search 162 = .ok (.aload_n 0, 1) := by decide +kernel
theorem dX9_search_163 : decode cX9_search 163 = .ok (.getfield 54, 3) := by decide +kernel
theorem dX9_search_166 : decode cX9_search 166 = .ok (.aload_n 0, 1) := by decide +kernel
theorem dX9_search_167 : decode cX9_search 167 = .ok (.getfield 17, 3) := by decide +kernel
theorem dX9_search_170 : decode cX9_search 170 = .ok (.iload_n 3, 1) := by decide +kernel
theorem dX9_search_171 : decode cX9_search 171 = .ok (.iaload, 1) := by decide +kernel
theorem dX9_search_172 : decode cX9_search 172 = .ok (.baload, 1) := by decide +kernel
theorem dX9_search_173 : decode cX9_search 173 = .ok (.bastore, 1) := by decide +kernel
theorem dX9_search_174 : decode cX9_search 174 = .ok (.aload_n 0, 1) := by decide +kernel
theorem dX9_search_175 : decode cX9_search 175 = .ok (.getfield 51, 3) := by decide +kernel
theorem dX9_search_178 : decode cX9_search 178 = .ok (.aload_n 0, 1) := by decide +kernel
theorem dX9_search_179 : decode cX9_search 179 = .ok (.getfield 17, 3) := by decide +kernel
theorem dX9_search_182 : decode cX9_search 182 = .ok (.iload_n 3, 1) := by decide +kernel
theorem dX9_search_183 : decode cX9_search 183 = .ok (.iaload, 1) := by decide +kernel
theorem dX9_search_184 : decode cX9_search 184 = .ok (.baload, 1) := by decide +kernel
theorem dX9_search_185 : decode cX9_search 185 = .ok (.ifCond .ne 42, 3) := by decide +kernel
theorem dX9_search_188 : decode cX9_search 188 = .ok (.aload_n 0, 1) := by decide +kernel
theorem dX9_search_189 : decode cX9_search 189 = .ok (.getfield 51, 3) := by decide +kernel
theorem dX9_search_192 : decode cX9_search 192 = .ok (.aload_n 0, 1) := by decide +kernel
theorem dX9_search_193 : decode cX9_search 193 = .ok (.getfield 17, 3) := by decide +kernel
theorem dX9_search_196 : decode cX9_search 196 = .ok (.iload_n 3, 1) := by decide +kernel
theorem dX9_search_197 : decode cX9_search 197 = .ok (.iaload, 1) := by decide +kernel
theorem dX9_search_198 : decode cX9_search 198 = .ok (.iconst 1, 1) := by decide +kernel
theorem dX9_search_199 : decode cX9_search 199 = .ok (.bastore, 1) := by decide +kernel
theorem dX9_search_200 : decode cX9_search 200 = .ok (.aload_n 0, 1) := by decide +kernel
theorem dX9_search_201 : decode cX9_search 201 = .ok (.getfield 54, 3) := by decide +kernel
theorem dX9_search_204 : decode cX9_search 204 = .ok (.aload_n 0, 1) := by decide +kernel
theorem dX9_search_205 : decode cX9_search 205 = .ok (.getfield 17, 3) := by decide +kernel
theorem dX9_search_208 : decode cX9_search 208 = .ok (.iload_n 3, 1) := by decide +kernel
theorem dX9_search_209 : decode cX9_search 209 = .ok (.iaload, 1) := by decide +kernel
theorem dX9_search_210 : decode cX9_search 210 = .ok (.iconst 1, 1) := by decide +kernel
theorem dX9_search_211 : decode cX9_search 211 = .ok (.bastore, 1) := by decide +kernel
theorem dX9_search_212 : decode cX9_search 212 = .ok (.aload_n 0, 1) := by decide +kernel
theorem dX9_search_213 : decode cX9_search 213 = .ok (.getfield 57, 3) := by decide +kernel
theorem dX9_search_216 : decode cX9_search 216 = .ok (.iload_n 1, 1) := by decide +kernel
theorem dX9_search_217 : decode cX9_search 217 = .ok (.aload_n 0, 1) := by decide +kernel
theorem dX9_search_218 : decode cX9_search 218 = .ok (.getfield 17, 3) := by decide +kernel
theorem dX9_search_221 : decode cX9_search 221 = .ok (.iload_n 3, 1) := by decide +kernel
theorem dX9_search_222 : decode cX9_search 222 = .ok (.iaload, 1) := by decide +kernel
theorem dX9_search_223 : decode cX9_search 223 = .ok (.iastore, 1) := by decide +kernel
end
section
theorem dX9_search_224 : decode cX9_search 224 = .ok (.iinc 1 1, 3) := by decide +kernel
theorem dX9_search_227 : decode cX9_search 227 = .ok (.goto (-164), 3) := by decide +kernel
theorem dX9_search_230 : decode cX9_search 230 = .ok (.return_, 1) := by decide +kernel
theorem dX9_allEnd_0 : decode cX9_allEnd 0 = .ok (.iconst 1, 1) := by decide +kernel
theorem dX9_allEnd_1 : decode cX9_allEnd 1 = .ok (.aload_n 0, 1) := by decide +kernel
theorem dX9_allEnd_2 : decode cX9_allEnd 2 = .ok (.getfield 7, 3) := by decide +kernel
theorem dX9_allEnd_5 : decode cX9_allEnd 5 = .ok (.iconst 1, 1) := by decide +kernel
theorem dX9_allEnd_6 : decode cX9_allEnd 6 = .ok (.isub, 1) := by decide +kernel
theorem dX9_allEnd_7 : decode cX9_allEnd 7 = .ok (.ishl, 1) := by decide +kernel
theorem dX9_allEnd_8 : decode cX9_allEnd 8 = .ok (.istore_n 1, 1) := by decide +kernel
theorem dX9_allEnd_9 : decode cX9_allEnd 9 = .ok (.iconst 0, 1) := by decide +kernel
theorem dX9_allEnd_10 : decode cX9_allEnd 10 = .ok (.istore_n 2, 1) := by decide +kernel
theorem dX9_allEnd_11 : decode cX9_allEnd 11 = .ok (.iload_n 2, 1) := by decide +kernel
theorem dX9_allEnd_12 : decode cX9_allEnd 12 = .ok (.aload_n 0, 1) := by decide +kernel
theorem dX9_allEnd_13 : decode cX9_allEnd 13 = .ok (.getfield 7, 3) := by decide +kernel
theorem dX9_allEnd_16 : decode cX9_allEnd 16 = .ok (.if_icmp .ge 54, 3) := by decide +kernel
theorem dX9_allEnd_19 : decode cX9_allEnd 19 = .ok (.iconst 0, 1) := by decide +kernel
theorem dX9_allEnd_20 : decode cX9_allEnd 20 = .ok (.istore_n 3, 1) := by decide +kernel
theorem dX9_allEnd_21 : decode cX9_allEnd 21 = .ok (.iload_n 3, 1) := by decide +kernel
theorem dX9_allEnd_22 : decode cX9_allEnd 22 = .ok (.aload_n 0, 1) := by decide +kernel
theorem dX9_allEnd_23 : decode cX9_allEnd 23 = .ok (.getfield 101, 3) := by decide +kernel
theorem dX9_allEnd_26 : decode cX9_allEnd 26 = .ok (.if_icmp .ge 38, 3) := by decide +kernel
theorem dX9_allEnd_29 : decode cX9_allEnd 29 = .ok (.iload_n 1, 1) := by decide +kernel
theorem dX9_allEnd_30 : decode cX9_allEnd 30 = .ok (.iload_n 1, 1) := by decide +kernel
theorem dX9_allEnd_31 : decode cX9_allEnd 31 = .ok (.aload_n 0, 1) := by decide +kernel
theorem dX9_allEnd_32 : decode cX9_allEnd 32 = .ok (.getfield 17, 3) := by decide +kernel
theorem dX9_allEnd_35 : decode cX9_allEnd 35 = .ok (.iload_n 3, 1) := by decide +kernel
theorem dX9_allEnd_36 : decode cX9_allEnd 36 = .ok (.iaload, 1) := by decide +kernel
theorem dX9_allEnd_37 : decode cX9_allEnd 37 = .ok (.ishr, 1) := by decide +kernel
theorem dX9_allEnd_38 : decode cX9_allEnd 38 = .ok (.iconst 1, 1) := by decide +kernel
theorem dX9_allEnd_39 : decode cX9_allEnd 39 = .ok (.iand, 1) := by decide +kernel
theorem dX9_allEnd_40 : decode cX9_allEnd 40 = .ok (.iconst 1, 1) := by decide +kernel
theorem dX9_allEnd_41 : decode cX9_allEnd 41 = .ok (.if_icmp .ne 14, 3) := by decide +kernel
theorem dX9_allEnd_44 : decode cX9_allEnd 44 = .ok (.iconst 1, 1) := by decide +kernel
theorem dX9_allEnd_45 : decode cX9_allEnd 45 = .ok (.aload_n 0, 1) := by decide +kernel
theorem dX9_allEnd_46 : decode cX9_allEnd 46 = .ok (.getfield 13, 3) := by decide +kernel
theorem dX9_allEnd_49 : decode cX9_allEnd 49 = .ok (.iload_n 3, 1) := by decide +kernel
theorem dX9_allEnd_50 : decode cX9_allEnd 50 = .ok (.iaload, 1) := by decide +kernel
theorem dX9_allEnd_51 : decode cX9_allEnd 51 = .ok (.ishl, 1) := by decide +kernel
theorem dX9_allEnd_52 : decode cX9_allEnd 52 = .ok (.goto 4, 3) := by decide +kernel
theorem dX9_allEnd_55 : decode cX9_allEnd 55 = .ok (.iconst 0, 1) := by decide +kernel
theorem dX9_allEnd_56 : decode cX9_allEnd 56 = .ok (.ior, 1) := by decide +kernel
theorem dX9_allEnd_57 : decode cX9_allEnd 57 = .ok (.istore_n 1, 1) := by decide +kernel
theorem dX9_allEnd_58 : decode cX9_allEnd 58 = .ok (.iinc 3 1, 3) := by decide +kernel
theorem dX9_allEnd_61 : decode cX9_allEnd 61 = .ok (.goto (-40), 3) := by decide +kernel
theorem dX9_allEnd_64 : decode cX9_allEnd 64 = .ok (.iinc 2 1, 3) := by decide +kernel
theorem dX9_allEnd_67 : decode cX9_allEnd 67 = .ok (.goto (-56), 3) := by decide +kernel
theorem dX9_allEnd_70 : decode cX9_allEnd 70 = .ok (.iload_n 1, 1) := by decide +kernel
theorem dX9_allEnd_71 : decode cX9_allEnd 71 = .ok (.iconst 1, 1) := by decide +kernel
theorem dX9_allEnd_72 : decode cX9_allEnd 72 = .ok (.aload_n 0, 1) := by decide +kernel
theorem dX9_allEnd_73 : decode cX9_allEnd 73 = .ok (.getfield 7, 3) := by decide +kernel
theorem dX9_allEnd_76 : decode cX9_allEnd 76 = .ok (.ishl, 1) := by decide +kernel
theorem dX9_allEnd_77 : decode cX9_allEnd 77 = .ok (.iconst 1, 1) := by decide +kernel
theorem dX9_allEnd_78 : decode cX9_allEnd 78 = .ok (.isub, 1) := by decide +kernel
theorem dX9_allEnd_79 : decode cX9_allEnd 79 = .ok (.if_icmp .ne 7, 3) := by decide +kernel
theorem dX9_allEnd_82 : decode cX9_allEnd 82 = .ok (.iconst 1, 1) := by decide +kernel
theorem dX9_allEnd_83 : decode cX9_allEnd 83 = .ok (.goto 4, 3) := by decide +kernel
theorem dX9_allEnd_86 : decode cX9_allEnd 86 = .ok (.iconst 0, 1) := by decide +kernel
theorem dX9_allEnd_87 : decode cX9_allEnd 87 = .ok (.ireturn, 1) := by decide +kernel
theorem dX9_linkFrom_0 : decode cX9_linkFrom 0 = .ok (.iload_n 1, 1) := by decide +kernel
theorem dX9_linkFrom_1 : decode cX9_linkFrom 1 = .ok (.iconst 2, 1) := by decide +kernel
theorem dX9_linkFrom_2 : decode cX9_linkFrom 2 = .ok (.irem, 1) := by decide +kernel
theorem dX9_linkFrom_3 : decode cX9_linkFrom 3 = .ok (.iconst 1, 1) := by decide +kernel
theorem dX9_linkFrom_4 : decode cX9_linkFrom 4 = .ok (.if_icmp .ne 7, 3) := by decide +kernel
theorem dX9_linkFrom_7 : decode cX9_linkFrom 7 = .ok (.iconst 0, 1) := by decide +kernel
theorem dX9_linkFrom_8 : decode cX9_linkFrom 8 = .ok (.goto 11, 3) := by decide +kernel
theorem dX9_linkFrom_11 : decode cX9_linkFrom 11 = .ok (.aload_n 0, 1) := by decide +kernel
theorem dX9_linkFrom_12 : decode cX9_linkFrom 12 = .ok (.getfield 13, 3) := by decide +kernel
theorem dX9_linkFrom_15 : decode cX9_linkFrom 15 = .ok (.iload_n 1, 1) := by decide +kernel
theorem dX9_linkFrom_16 : decode cX9_linkFrom 16 = .ok (.iconst 2, 1) := by decide +kernel
theorem dX9_linkFrom_17 : decode cX9_linkFrom 17 = .ok (.idiv, 1) := by decide +kernel
theorem dX9_linkFrom_18 : decode cX9_linkFrom 18 = .ok (.iaload, 1) := by decide +kernel
theorem dX9_linkFrom_19 : decode cX9_linkFrom 19 = .ok (.ireturn, 1) := by decide +kernel
theorem dX9_linkTo_0 : decode cX9_linkTo 0 = .ok (.iload_n 1, 1) := by decide +kernel
theorem dX9_linkTo_1 : decode cX9_linkTo 1 = .ok (.iconst 2, 1) := by decide +kernel
theorem dX9_linkTo_2 : decode cX9_linkTo 2 = .ok (.irem, 1) := by decide +kernel
theorem dX9_linkTo_3 : decode cX9_linkTo 3 = .ok (.ifCond .ne 23, 3) := by decide +kernel
theorem dX9_linkTo_6 : decode cX9_linkTo 6 = .ok (.aload_n 0, 1) := by decide +kernel
theorem dX9_linkTo_7 : decode cX9_linkTo 7 = .ok (.getfield 26, 3) := by decide +kernel
theorem dX9_linkTo_10 : decode cX9_linkTo 10 = .ok (.iload_n 1, 1) := by decide +kernel
theorem dX9_linkTo_11 : decode cX9_linkTo 11 = .ok (.iconst 2, 1) := by decide +kernel
theorem dX9_linkTo_12 : decode cX9_linkTo 12 = .ok (.idiv, 1) := by decide +kernel
theorem dX9_linkTo_13 : decode cX9_linkTo 13 = .ok (.baload, 1) := by decide +kernel
theorem dX9_linkTo_14 : decode cX9_linkTo 14 = .ok (.ifCond .eq 12, 3) := by decide +kernel
theorem dX9_linkTo_17 : decode cX9_linkTo 17 = .ok (.aload_n 0, 1) := by decide +kernel
theorem dX9_linkTo_18 : decode cX9_linkTo 18 = .ok (.getfield 7, 3) := by decide +kernel
theorem dX9_linkTo_21 : decode cX9_linkTo 21 = .ok (.iconst 1, 1) := by decide +kernel
theorem dX9_linkTo_22 : decode cX9_linkTo 22 = .ok (.isub, 1) := by decide +kernel
theorem dX9_linkTo_23 : decode cX9_linkTo 23 = .ok (.goto 11, 3) := by decide +kernel
theorem dX9_linkTo_26 : decode cX9_linkTo 26 = .ok (.aload_n 0, 1) := by decide +kernel
theorem dX9_linkTo_27 : decode cX9_linkTo 27 = .ok (.getfield 17, 3) := by decide +kernel
theorem dX9_linkTo_30 : decode cX9_linkTo 30 = .ok (.iload_n 1, 1) := by decide +kernel
theorem dX9_linkTo_31 : decode cX9_linkTo 31 = .ok (.iconst 2, 1) := by decide +kernel
theorem dX9_linkTo_32 : decode cX9_linkTo 32 = .ok (.idiv, 1) := by decide +kernel
theorem dX9_linkTo_33 : decode cX9_linkTo 33 = .ok (.iaload, 1) := by decide +kernel
theorem dX9_linkTo_34 : decode cX9_linkTo 34 = .ok (.ireturn, 1) := by decide +kernel
theorem dX9_isLink_0 : decode cX9_isLink 0 = .ok (.iload_n 1, 1) := by decide +kernel
theorem dX9_isLink_1 : decode cX9_isLink 1 = .ok (.iconst 2, 1) := by decide +kernel
theorem dX9_isLink_2 : decode cX9_isLink 2 = .ok (.idiv, 1) := by decide +kernel
theorem dX9_isLink_3 : decode cX9_isLink 3 = .ok (.aload_n 0, 1) := by decide +kernel
theorem dX9_isLink_4 : decode cX9_isLink 4 = .ok (.getfield 101, 3) := by decide +kernel
theorem dX9_isLink_7 : decode cX9_isLink 7 = .ok (.if_icmp .ge 24, 3) := by decide +kernel
theorem dX9_isLink_10 : decode cX9_isLink 10 = .ok (.iload_n 1, 1) := by decide +kernel
theorem dX9_isLink_11 : decode cX9_isLink 11 = .ok (.iconst 2, 1) := by decide +kernel
theorem dX9_isLink_12 : decode cX9_isLink 12 = .ok (.irem, 1) := by decide +kernel
theorem dX9_isLink_13 : decode cX9_isLink 13 = .ok (.ifCond .eq 14, 3) := by decide +kernel
theorem dX9_isLink_16 : decode cX9_isLink 16 = .ok (.aload_n 0, 1) := by decide +kernel
theorem dX9_isLink_17 : decode cX9_isLink 17 = .ok (.getfield 26, 3) := by decide +kernel
theorem dX9_isLink_20 : decode cX9_isLink 20 = .ok (.iload_n 1, 1) := by decide +kernel
theorem dX9_isLink_21 : decode cX9_isLink 21 = .ok (.iconst 2, 1) := by decide +kernel
theorem dX9_isLink_22 : decode cX9_isLink 22 = .ok (.idiv, 1) := by decide +kernel
theorem dX9_isLink_23 : decode cX9_isLink 23 = .ok (.baload, 1) := by decide +kernel
theorem dX9_isLink_24 : decode cX9_isLink 24 = .ok (.ifCond .eq 7, 3) := by decide +kernel
theorem dX9_isLink_27 : decode cX9_isLink 27 = .ok (.iconst 1, 1) := by decide +kernel
theorem dX9_isLink_28 : decode cX9_isLink 28 = .ok (.goto 4, 3) := by decide +kernel
theorem dX9_isLink_31 : decode cX9_isLink 31 = .ok (.iconst 0, 1) := by decide +kernel
theorem dX9_isLink_32 : decode cX9_isLink 32 = .ok (.ireturn, 1) := by decide +kernel
theorem dX9_kind_0 : decode cX9_kind 0 = .ok (.iload_n 1, 1) := by decide +kernel
theorem dX9_kind_1 : decode cX9_kind 1 = .ok (.iconst 2, 1) := by decide +kernel
theorem dX9_kind_2 : decode cX9_kind 2 = .ok (.irem, 1) := by decide +kernel
theorem dX9_kind_3 : decode cX9_kind 3 = .ok (.iconst 1, 1) := by decide +kernel
theorem dX9_kind_4 : decode cX9_kind 4 = .ok (.if_icmp .ne 7, 3) := by decide +kernel
theorem dX9_kind_7 : decode cX9_kind 7 = .ok (.iconst 2, 1) := by decide +kernel
theorem dX9_kind_8 : decode cX9_kind 8 = .ok (.goto 19, 3) := by decide +kernel
theorem dX9_kind_11 : decode cX9_kind 11 = .ok (.aload_n 0, 1) := by decide +kernel
theorem dX9_kind_12 : decode cX9_kind 12 = .ok (.getfield 26, 3) := by decide +kernel
theorem dX9_kind_15 : decode cX9_kind 15 = .ok (.iload_n 1, 1) := by decide +kernel
theorem dX9_kind_16 : decode cX9_kind 16 = .ok (.iconst 2, 1) := by decide +kernel
theorem dX9_kind_17 : decode cX9_kind 17 = .ok (.idiv, 1) := by decide +kernel
theorem dX9_kind_18 : decode cX9_kind 18 = .ok (.baload, 1) := by decide +kernel
theorem dX9_kind_19 : decode cX9_kind 19 = .ok (.ifCond .eq 7, 3) := by decide +kernel
theorem dX9_kind_22 : decode cX9_kind 22 = .ok (.iconst 1, 1) := by decide +kernel
theorem dX9_kind_23 : decode cX9_kind 23 = .ok (.goto 4, 3) := by decide +kernel
theorem dX9_kind_26 : decode cX9_kind 26 = .ok (.iconst 0, 1) := by decide +kernel
theorem dX9_kind_27 : decode cX9_kind 27 = .ok (.ireturn, 1) := by decide +kernel
theorem dX9_linkBehind_0 : decode cX9_linkBehind 0 = .ok (.iconst (-1), 1) := by decide +kernel
theorem dX9_linkBehind_1 : decode cX9_linkBehind 1 = .ok (.istore_n 3, 1) := by decide +kernel
theorem dX9_linkBehind_2 : decode cX9_linkBehind 2 = .ok (.iconst 0, 1) := by decide +kernel
theorem dX9_linkBehind_3 : decode cX9_linkBehind 3 = .ok (.istore 4, 2) := by decide +kernel
theorem dX9_linkBehind_5 : decode cX9_linkBehind 5 = .ok (.iload 4, 2) := by decide +kernel
theorem dX9_linkBehind_7 : decode cX9_linkBehind 7 = .ok (.iconst 2, 1) := by decide +kernel
theorem dX9_linkBehind_8 : decode cX9_linkBehind 8 = .ok (.aload_n 0, 1) := by decide +kernel
theorem dX9_linkBehind_9 : decode cX9_linkBehind 9 = .ok (.getfield 101, 3) := by decide +kernel
theorem dX9_linkBehind_12 : decode cX9_linkBehind 12 = .ok (.imul, 1) := by decide +kernel
theorem dX9_linkBehind_13 : decode cX9_linkBehind 13 = .ok (.if_icmp .ge 89, 3) := by decide +kernel
theorem dX9_linkBehind_16 : decode cX9_linkBehind 16 = .ok (.aload_n 0, 1) := by decide +kernel
theorem dX9_linkBehind_17 : decode cX9_linkBehind 17 = .ok (.iload 4, 2) := by decide +kernel
theorem dX9_linkBehind_19 : decode cX9_linkBehind 19 = .ok (.invokevirtual 148, 3) := by decide +kernel
theorem dX9_linkBehind_22 : decode cX9_linkBehind 22 = .ok (.ifCond .eq 17, 3) := by decide +kernel
theorem dX9_linkBehind_25 : decode cX9_linkBehind 25 = .ok (.aload_n 0, 1) := by decide +kernel
theorem dX9_linkBehind_26 : decode cX9_linkBehind 26 = .ok (.iload 4, 2) := by decide +kernel
theorem dX9_linkBehind_28 : decode cX9_linkBehind 28 = .ok (.invokevirtual 151, 3) := by decide +kernel
theorem dX9_linkBehind_31 : decode cX9_linkBehind 31 = .ok (.iload_n 1, 1) := by decide +kernel
theorem dX9_linkBehind_32 : decode cX9_linkBehind 32 = .ok (.if_icmp .ne 7, 3) := by decide +kernel
theorem dX9_linkBehind_35 : decode cX9_linkBehind 35 = .ok (.iconst 1, 1) := by decide +kernel
theorem dX9_linkBehind_36 : decode cX9_linkBehind 36 = .ok (.goto 4, 3) := by decide +kernel
theorem dX9_linkBehind_39 : decode cX9_linkBehind 39 = .ok (.iconst 0, 1) := by decide +kernel
theorem dX9_linkBehind_40 : decode cX9_linkBehind 40 = .ok (.istore 5, 2) := by decide +kernel
theorem dX9_linkBehind_42 : decode cX9_linkBehind 42 = .ok (.iload_n 2, 1) := by decide +kernel
theorem dX9_linkBehind_43 : decode cX9_linkBehind 43 = .ok (.iconst (-1), 1) := by decide +kernel
theorem dX9_linkBehind_44 : decode cX9_linkBehind 44 = .ok (.if_icmp .eq 13, 3) := by decide +kernel
theorem dX9_linkBehind_47 : decode cX9_linkBehind 47 = .ok (.aload_n 0, 1) := by decide +kernel
theorem dX9_linkBehind_48 : decode cX9_linkBehind 48 = .ok (.iload_n 2, 1) := by decide +kernel
theorem dX9_linkBehind_49 : decode cX9_linkBehind 49 = .ok (.iload 4, 2) := by decide +kernel
theorem dX9_linkBehind_51 : decode cX9_linkBehind 51 = .ok (.invokevirtual 155, 3) := by decide +kernel
theorem dX9_linkBehind_54 : decode cX9_linkBehind 54 = .ok (.ifCond .eq 7, 3) := by decide +kernel
theorem dX9_linkBehind_57 : decode cX9_linkBehind 57 = .ok (.iconst 1, 1) := by decide +kernel
theorem dX9_linkBehind_58 : decode cX9_linkBehind 58 = .ok (.goto 4, 3) := by decide +kernel
theorem dX9_linkBehind_61 : decode cX9_linkBehind 61 = .ok (.iconst 0, 1) := by decide +kernel
theorem dX9_linkBehind_62 : decode cX9_linkBehind 62 = .ok (.istore 6, 2) := by decide +kernel
theorem dX9_linkBehind_64 : decode cX9_linkBehind 64 = .ok (.iload 5, 2) := by decide +kernel
theorem dX9_linkBehind_66 : decode cX9_linkBehind 66 = .ok (.ifCond .eq 28, 3) := by decide +kernel
theorem dX9_linkBehind_69 : decode cX9_linkBehind 69 = .ok (.iload 6, 2) := by decide +kernel
theorem dX9_linkBehind_71 : decode cX9_linkBehind 71 = .ok (.ifCond .eq 23, 3) := by decide +kernel
theorem dX9_linkBehind_74 : decode cX9_linkBehind 74 = .ok (.iload_n 3, 1) := by decide +kernel
theorem dX9_linkBehind_75 : decode cX9_linkBehind 75 = .ok (.iconst (-1), 1) := by decide +kernel
theorem dX9_linkBehind_76 : decode cX9_linkBehind 76 = .ok (.if_icmp .eq 13, 3) := by decide +kernel
theorem dX9_linkBehind_79 : decode cX9_linkBehind 79 = .ok (.aload_n 0, 1) := by decide +kernel
theorem dX9_linkBehind_80 : decode cX9_linkBehind 80 = .ok (.iload 4, 2) := by decide +kernel
theorem dX9_linkBehind_82 : decode cX9_linkBehind 82 = .ok (.iload_n 3, 1) := by decide +kernel
theorem dX9_linkBehind_83 : decode cX9_linkBehind 83 = .ok (.invokevirtual 155, 3) := by decide +kernel
theorem dX9_linkBehind_86 : decode cX9_linkBehind 86 = .ok (.ifCond .eq 8, 3) := by decide +kernel
theorem dX9_linkBehind_89 : decode cX9_linkBehind 89 = .ok (.iload 4, 2) := by decide +kernel
theorem dX9_linkBehind_91 : decode cX9_linkBehind 91 = .ok (.goto 4, 3) := by decide +kernel
theorem dX9_linkBehind_94 : decode cX9_linkBehind 94 = .ok (.iload_n 3, 1) := by decide +kernel
theorem dX9_linkBehind_95 : decode cX9_linkBehind 95 = .ok (.istore_n 3, 1) := by decide +kernel
theorem dX9_linkBehind_96 : decode cX9_linkBehind 96 = .ok (.iinc 4 1, 3) := by decide +kernel
theorem dX9_linkBehind_99 : decode cX9_linkBehind 99 = .ok (.goto (-94), 3) := by decide +kernel
theorem dX9_linkBehind_102 : decode cX9_linkBehind 102 = .ok (.iload_n 3, 1) := by decide +kernel
theorem dX9_linkBehind_103 : decode cX9_linkBehind 103 = .ok (.ireturn, 1) := by decide +kernel
theorem dX9_comesBefore_0 : decode cX9_comesBefore 0 = .ok (.aload_n 0, 1) := by decide +kernel
theorem dX9_comesBefore_1 : decode cX9_comesBefore 1 = .ok (.iload_n 1, 1) := by decide +kernel
theorem dX9_comesBefore_2 : decode cX9_comesBefore 2 = .ok (.invokevirtual 159, 3) := by decide +kernel
theorem dX9_comesBefore_5 : decode cX9_comesBefore 5 = .ok (.aload_n 0, 1) := by decide +kernel
theorem dX9_comesBefore_6 : decode cX9_comesBefore 6 = .ok (.iload_n 2, 1) := by decide +kernel
theorem dX9_comesBefore_7 : decode cX9_comesBefore 7 = .ok (.invokevirtual 159, 3) := by decide +kernel
theorem dX9_comesBefore_10 : decode cX9_comesBefore 10 = .ok (.if_icmp .ne 16, 3) := by decide +kernel
theorem dX9_comesBefore_13 : decode cX9_comesBefore 13 = .ok (.iload_n 1, 1) := by decide +kernel
theorem dX9_comesBefore_14 : decode cX9_comesBefore 14 = .ok (.iload_n 2, 1) := by decide +kernel
theorem dX9_comesBefore_15 : decode cX9_comesBefore 15 = .ok (.if_icmp .ge 7, 3) := by decide +kernel
theorem dX9_comesBefore_18 : decode cX9_comesBefore 18 = .ok (.iconst 1, 1) := by decide +kernel
theorem dX9_comesBefore_19 : decode cX9_comesBefore 19 = .ok (.goto 25, 3) := by decide +kernel
theorem dX9_comesBefore_22 : decode cX9_comesBefore 22 = .ok (.iconst 0, 1) := by decide +kernel
theorem dX9_comesBefore_23 : decode cX9_comesBefore 23 = .ok (.goto 21, 3) := by decide +kernel
theorem dX9_comesBefore_26 : decode cX9_comesBefore 26 = .ok (.aload_n 0, 1) := by decide +kernel
theorem dX9_comesBefore_27 : decode cX9_comesBefore 27 = .ok (.iload_n 1, 1) := by decide +kernel
theorem dX9_comesBefore_28 : decode cX9_comesBefore 28 = .ok (.invokevirtual 159, 3) := by decide +kernel
theorem dX9_comesBefore_31 : decode cX9_comesBefore 31 = .ok (.aload_n 0, 1) := by decide +kernel
theorem dX9_comesBefore_32 : decode cX9_comesBefore 32 = .ok (.iload_n 2, 1) := by decide +kernel
theorem dX9_comesBefore_33 : decode cX9_comesBefore 33 = .ok (.invokevirtual 159, 3) := by decide +kernel
theorem dX9_comesBefore_36 : decode cX9_comesBefore 36 = .ok (.if_icmp .ge 7, 3) := by decide +kernel
theorem dX9_comesBefore_39 : decode cX9_comesBefore 39 = .ok (.iconst 1, 1) := by decide +kernel
theorem dX9_comesBefore_40 : decode cX9_comesBefore 40 = .ok (.goto 4, 3) := by decide +kernel
theorem dX9_comesBefore_43 : decode cX9_comesBefore 43 = .ok (.iconst 0, 1) := by decide +kernel
theorem dX9_comesBefore_44 : decode cX9_comesBefore 44 = .ok (.ireturn, 1) := by decide +kernel
theorem dX9_number_0 : decode cX9_number 0 = .ok (.iconst 0, 1) := by decide +kernel
theorem dX9_number_1 : decode cX9_number 1 = .ok (.istore_n 1, 1) := by decide +kernel
theorem dX9_number_2 : decode cX9_number 2 = .ok (.iload_n 1, 1) := by decide +kernel
theorem dX9_number_3 : decode cX9_number 3 = .ok (.bipush 12, 2) := by decide +kernel
theorem dX9_number_5 : decode cX9_number 5 = .ok (.if_icmp .ge 16, 3) := by decide +kernel
theorem dX9_number_8 : decode cX9_number 8 = .ok (.aload_n 0, 1) := by decide +kernel
theorem dX9_number_9 : decode cX9_number 9 = .ok (.getfield 30, 3) := by decide +kernel
theorem dX9_number_12 : decode cX9_number 12 = .ok (.iload_n 1, 1) := by decide +kernel
theorem dX9_number_13 : decode cX9_number 13 = .ok (.iconst 0, 1) := by decide +kernel
theorem dX9_number_14 : decode cX9_number 14 = .ok (.iastore, 1) := by decide +kernel
theorem dX9_number_15 : decode cX9_number 15 = .ok (.iinc 1 1, 3) := by decide +kernel
theorem dX9_number_18 : decode cX9_number 18 = .ok (.goto (-16), 3) := by decide +kernel
theorem dX9_number_21 : decode cX9_number 21 = .ok (.aload_n 0, 1) := by decide +kernel
theorem dX9_number_22 : decode cX9_number 22 = .ok (.getfield 30, 3) := by decide +kernel
theorem dX9_number_25 : decode cX9_number 25 = .ok (.aload_n 0, 1) := by decide +kernel
theorem dX9_number_26 : decode cX9_number 26 = .ok (.getfield 7, 3) := by decide +kernel
theorem dX9_number_29 : decode cX9_number 29 = .ok (.iconst 1, 1) := by decide +kernel
theorem dX9_number_30 : decode cX9_number 30 = .ok (.isub, 1) := by decide +kernel
theorem dX9_number_31 : decode cX9_number 31 = .ok (.iconst 1, 1) := by decide +kernel
theorem dX9_number_32 : decode cX9_number 32 = .ok (.iastore, 1) := by decide +kernel
theorem dX9_number_33 : decode cX9_number 33 = .ok (.iconst 0, 1) := by decide +kernel
theorem dX9_number_34 : decode cX9_number 34 = .ok (.istore_n 1, 1) := by decide +kernel
theorem dX9_number_35 : decode cX9_number 35 = .ok (.iload_n 1, 1) := by decide +kernel
theorem dX9_number_36 : decode cX9_number 36 = .ok (.aload_n 0, 1) := by decide +kernel
theorem dX9_number_37 : decode cX9_number 37 = .ok (.getfield 145, 3) := by decide +kernel
theorem dX9_number_40 : decode cX9_number 40 = .ok (.if_icmp .ge 83, 3) := by decide +kernel
theorem dX9_number_43 : decode cX9_number 43 = .ok (.aload_n 0, 1) := by decide +kernel
theorem dX9_number_44 : decode cX9_number 44 = .ok (.getfield 63, 3) := by decide +kernel
theorem dX9_number_47 : decode cX9_number 47 = .ok (.iload_n 1, 1) := by decide +kernel
theorem dX9_number_48 : decode cX9_number 48 = .ok (.iaload, 1) := by decide +kernel
theorem dX9_number_49 : decode cX9_number 49 = .ok (.istore_n 2, 1) := by decide +kernel
theorem dX9_number_50 : decode cX9_number 50 = .ok (.iload_n 2, 1) := by decide +kernel
theorem dX9_number_51 : decode cX9_number 51 = .ok (.aload_n 0, 1) := by decide +kernel
theorem dX9_number_52 : decode cX9_number 52 = .ok (.getfield 7, 3) := by decide +kernel
theorem dX9_number_55 : decode cX9_number 55 = .ok (.iconst 1, 1) := by decide +kernel
theorem dX9_number_56 : decode cX9_number 56 = .ok (.isub, 1) := by decide +kernel
theorem dX9_number_57 : decode cX9_number 57 = .ok (.if_icmp .eq 60, 3) := by decide +kernel
theorem dX9_number_60 : decode cX9_number 60 = .ok (.iconst 0, 1) := by decide +kernel
theorem dX9_number_61 : decode cX9_number 61 = .ok (.istore_n 3, 1) := by decide +kernel
theorem dX9_number_62 : decode cX9_number 62 = .ok (.aload_n 0, 1) := by decide +kernel
theorem dX9_number_63 : decode cX9_number 63 = .ok (.iload_n 2, 1) := by decide +kernel
theorem dX9_number_64 : decode cX9_number 64 = .ok (.iconst (-1), 1) := by decide +kernel
theorem dX9_number_65 : decode cX9_number 65 = .ok (.invokevirtual 162, 3) := by decide +kernel
theorem dX9_number_68 : decode cX9_number 68 = .ok (.istore 4, 2) := by decide +kernel
theorem dX9_number_70 : decode cX9_number 70 = .ok (.iload 4, 2) := by decide +kernel
theorem dX9_number_72 : decode cX9_number 72 = .ok (.iconst (-1), 1) := by decide +kernel
theorem dX9_number_73 : decode cX9_number 73 = .ok (.if_icmp .eq 37, 3) := by decide +kernel
theorem dX9_number_76 : decode cX9_number 76 = .ok (.aload_n 0, 1) := by decide +kernel
theorem dX9_number_77 : decode cX9_number 77 = .ok (.getfield 33, 3) := by decide +kernel
theorem dX9_number_80 : decode cX9_number 80 = .ok (.iload 4, 2) := by decide +kernel
theorem dX9_number_82 : decode cX9_number 82 = .ok (.iload_n 3, 1) := by decide +kernel
theorem dX9_number_83 : decode cX9_number 83 = .ok (.iastore, 1) := by decide +kernel
theorem dX9_number_84 : decode cX9_number 84 = .ok (.iload_n 3, 1) := by decide +kernel
theorem dX9_number_85 : decode cX9_number 85 = .ok (.aload_n 0, 1) := by decide +kernel
theorem dX9_number_86 : decode cX9_number 86 = .ok (.getfield 30, 3) := by decide +kernel
theorem dX9_number_89 : decode cX9_number 89 = .ok (.aload_n 0, 1) := by decide +kernel
theorem dX9_number_90 : decode cX9_number 90 = .ok (.iload 4, 2) := by decide +kernel
theorem dX9_number_92 : decode cX9_number 92 = .ok (.invokevirtual 165, 3) := by decide +kernel
theorem dX9_number_95 : decode cX9_number 95 = .ok (.iaload, 1) := by decide +kernel
theorem dX9_number_96 : decode cX9_number 96 = .ok (.iadd, 1) := by decide +kernel
theorem dX9_number_97 : decode cX9_number 97 = .ok (.istore_n 3, 1) := by decide +kernel
theorem dX9_number_98 : decode cX9_number 98 = .ok (.aload_n 0, 1) := by decide +kernel
theorem dX9_number_99 : decode cX9_number 99 = .ok (.iload_n 2, 1) := by decide +kernel
theorem dX9_number_100 : decode cX9_number 100 = .ok (.iload 4, 2) := by decide +kernel
theorem dX9_number_102 : decode cX9_number 102 = .ok (.invokevirtual 162, 3) := by decide +kernel
theorem dX9_number_105 : decode cX9_number 105 = .ok (.istore 4, 2) := by decide +kernel
theorem dX9_number_107 : decode cX9_number 107 = .ok (.goto (-37), 3) := by decide +kernel
theorem dX9_number_110 : decode cX9_number 110 = .ok (.aload_n 0, 1) := by decide +kernel
theorem dX9_number_111 : decode cX9_number 111 = .ok (.getfield 30, 3) := by decide +kernel
theorem dX9_number_114 : decode cX9_number 114 = .ok (.iload_n 2, 1) := by decide +kernel
theorem dX9_number_115 : decode cX9_number 115 = .ok (.iload_n 3, 1) := by decide +kernel
theorem dX9_number_116 : decode cX9_number 116 = .ok (.iastore, 1) := by decide +kernel
theorem dX9_number_117 : decode cX9_number 117 = .ok (.iinc 1 1, 3) := by decide +kernel
theorem dX9_number_120 : decode cX9_number 120 = .ok (.goto (-85), 3) := by decide +kernel
theorem dX9_number_123 : decode cX9_number 123 = .ok (.return_, 1) := by decide +kernel
theorem dX9_isHeavier_0 : decode cX9_isHeavier 0 = .ok (.aload_n 0, 1) := by decide +kernel
theorem dX9_isHeavier_1 : decode cX9_isHeavier 1 = .ok (.getfield 20, 3) := by decide +kernel
theorem dX9_isHeavier_4 : decode cX9_isHeavier 4 = .ok (.iload_n 1, 1) := by decide +kernel
theorem dX9_isHeavier_5 : decode cX9_isHeavier 5 = .ok (.iconst 2, 1) := by decide +kernel
theorem dX9_isHeavier_6 : decode cX9_isHeavier 6 = .ok (.idiv, 1) := by decide +kernel
theorem dX9_isHeavier_7 : decode cX9_isHeavier 7 = .ok (.iaload, 1) := by decide +kernel
theorem dX9_isHeavier_8 : decode cX9_isHeavier 8 = .ok (.istore_n 3, 1) := by decide +kernel
theorem dX9_isHeavier_9 : decode cX9_isHeavier 9 = .ok (.aload_n 0, 1) := by decide +kernel
theorem dX9_isHeavier_10 : decode cX9_isHeavier 10 = .ok (.getfield 20, 3) := by decide +kernel
theorem dX9_isHeavier_13 : decode cX9_isHeavier 13 = .ok (.iload_n 2, 1) := by decide +kernel
theorem dX9_isHeavier_14 : decode cX9_isHeavier 14 = .ok (.iconst 2, 1) := by decide +kernel
theorem dX9_isHeavier_15 : decode cX9_isHeavier 15 = .ok (.idiv, 1) := by decide +kernel
theorem dX9_isHeavier_16 : decode cX9_isHeavier 16 = .ok (.iaload, 1) := by decide +kernel
theorem dX9_isHeavier_17 : decode cX9_isHeavier 17 = .ok (.istore 4, 2) := by decide +kernel
theorem dX9_isHeavier_19 : decode cX9_isHeavier 19 = .ok (.iload_n 3, 1) := by decide +kernel
theorem dX9_isHeavier_20 : decode cX9_isHeavier 20 = .ok (.iload 4, 2) := by decide +kernel
theorem dX9_isHeavier_22 : decode cX9_isHeavier 22 = .ok (.if_icmp .ne 12, 3) := by decide +kernel
theorem dX9_isHeavier_25 : decode cX9_isHeavier 25 = .ok (.aload_n 0, 1) := by decide +kernel
theorem dX9_isHeavier_26 : decode cX9_isHeavier 26 = .ok (.iload_n 1, 1) := by decide +kernel
theorem dX9_isHeavier_27 : decode cX9_isHeavier 27 = .ok (.iload_n 2, 1) := by decide +kernel
theorem dX9_isHeavier_28 : decode cX9_isHeavier 28 = .ok (.invokevirtual 155, 3) := by decide +kernel
theorem dX9_isHeavier_31 : decode cX9_isHeavier 31 = .ok (.goto 14, 3) := by decide +kernel
theorem dX9_isHeavier_34 : decode cX9_isHeavier 34 = .ok (.iload_n 3, 1) := by decide +kernel
theorem dX9_isHeavier_35 : decode cX9_isHeavier 35 = .ok (.iload 4, 2) := by decide +kernel
theorem dX9_isHeavier_37 : decode cX9_isHeavier 37 = .ok (.if_icmp .le 7, 3) := by decide +kernel
theorem dX9_isHeavier_40 : decode cX9_isHeavier 40 = .ok (.iconst 1, 1) := by decide +kernel
theorem dX9_isHeavier_41 : decode cX9_isHeavier 41 = .ok (.goto 4, 3) := by decide +kernel
theorem dX9_isHeavier_44 : decode cX9_isHeavier 44 = .ok (.iconst 0, 1) := by decide +kernel
theorem dX9_isHeavier_45 : decode cX9_isHeavier 45 = .ok (.ireturn, 1) := by decide +kernel
theorem dX9_join_0 : decode cX9_join 0 = .ok (.aload_n 0, 1) := by decide +kernel
theorem dX9_join_1 : decode cX9_join 1 = .ok (.getfield 66, 3) := by decide +kernel
theorem dX9_join_4 : decode cX9_join 4 = .ok (.iload_n 2, 1) := by decide +kernel
theorem dX9_join_5 : decode cX9_join 5 = .ok (.iaload, 1) := by decide +kernel
theorem dX9_join_6 : decode cX9_join 6 = .ok (.istore_n 3, 1) := by decide +kernel
theorem dX9_join_7 : decode cX9_join 7 = .ok (.aload_n 0, 1) := by decide +kernel
theorem dX9_join_8 : decode cX9_join 8 = .ok (.getfield 66, 3) := by decide +kernel
theorem dX9_join_11 : decode cX9_join 11 = .ok (.iload_n 1, 1) := by decide +kernel
theorem dX9_join_12 : decode cX9_join 12 = .ok (.iaload, 1) := by decide +kernel
theorem dX9_join_13 : decode cX9_join 13 = .ok (.istore 4, 2) := by decide +kernel
theorem dX9_join_15 : decode cX9_join 15 = .ok (.iconst 0, 1) := by decide +kernel
theorem dX9_join_16 : decode cX9_join 16 = .ok (.istore 5, 2) := by decide +kernel
theorem dX9_join_18 : decode cX9_join 18 = .ok (.iload 5, 2) := by decide +kernel
theorem dX9_join_20 : decode cX9_join 20 = .ok (.aload_n 0, 1) := by decide +kernel
theorem dX9_join_21 : decode cX9_join 21 = .ok (.getfield 7, 3) := by decide +kernel
theorem dX9_join_24 : decode cX9_join 24 = .ok (.if_icmp .ge 39, 3) := by decide +kernel
theorem dX9_join_27 : decode cX9_join 27 = .ok (.aload_n 0, 1) := by decide +kernel
theorem dX9_join_28 : decode cX9_join 28 = .ok (.getfield 66, 3) := by decide +kernel
theorem dX9_join_31 : decode cX9_join 31 = .ok (.iload 5, 2) := by decide +kernel
theorem dX9_join_33 : decode cX9_join 33 = .ok (.aload_n 0, 1) := by decide +kernel
theorem dX9_join_34 : decode cX9_join 34 = .ok (.getfield 66, 3) := by decide +kernel
theorem dX9_join_37 : decode cX9_join 37 = .ok (.iload 5, 2) := by decide +kernel
theorem dX9_join_39 : decode cX9_join 39 = .ok (.iaload, 1) := by decide +kernel
theorem dX9_join_40 : decode cX9_join 40 = .ok (.iload_n 3, 1) := by decide +kernel
theorem dX9_join_41 : decode cX9_join 41 = .ok (.if_icmp .ne 8, 3) := by decide +kernel
theorem dX9_join_44 : decode cX9_join 44 = .ok (.iload 4, 2) := by decide +kernel
theorem dX9_join_46 : decode cX9_join 46 = .ok (.goto 10, 3) := by decide +kernel
theorem dX9_join_49 : decode cX9_join 49 = .ok (.aload_n 0, 1) := by decide +kernel
theorem dX9_join_50 : decode cX9_join 50 = .ok (.getfield 66, 3) := by decide +kernel
theorem dX9_join_53 : decode cX9_join 53 = .ok (.iload 5, 2) := by decide +kernel
theorem dX9_join_55 : decode cX9_join 55 = .ok (.iaload, 1) := by decide +kernel
theorem dX9_join_56 : decode cX9_join 56 = .ok (.iastore, 1) := by decide +kernel
theorem dX9_join_57 : decode cX9_join 57 = .ok (.iinc 5 1, 3) := by decide +kernel
theorem dX9_join_60 : decode cX9_join 60 = .ok (.goto (-42), 3) := by decide +kernel
theorem dX9_join_63 : decode cX9_join 63 = .ok (.return_, 1) := by decide +kernel
theorem dX9_growTree_0 : decode cX9_growTree 0 = .ok (.iconst 0, 1) := by decide +kernel
theorem dX9_growTree_1 : decode cX9_growTree 1 = .ok (.istore_n 1, 1) := by decide +kernel
theorem dX9_growTree_2 : decode cX9_growTree 2 = .ok (.iload_n 1, 1) := by decide +kernel
theorem dX9_growTree_3 : decode cX9_growTree 3 = .ok (.aload_n 0, 1) := by decide +kernel
theorem dX9_growTree_4 : decode cX9_growTree 4 = .ok (.getfield 7, 3) := by decide +kernel
theorem dX9_growTree_7 : decode cX9_growTree 7 = .ok (.if_icmp .ge 16, 3) := by decide +kernel
theorem dX9_growTree_10 : decode cX9_growTree 10 = .ok (.aload_n 0, 1) := by decide +kernel
theorem dX9_growTree_11 : decode cX9_growTree 11 = .ok (.getfield 66, 3) := by decide +kernel
theorem dX9_growTree_14 : decode cX9_growTree 14 = .ok (.iload_n 1, 1) := by decide +kernel
theorem dX9_growTree_15 : decode cX9_growTree 15 = .ok (.iload_n 1, 1) := by decide +kernel
theorem dX9_growTree_16 : decode cX9_growTree 16 = .ok (.iastore, 1) := by decide +kernel
theorem dX9_growTree_17 : decode cX9_growTree 17 = .ok (.iinc 1 1, 3) := by decide +kernel
theorem dX9_growTree_20 : decode cX9_growTree 20 = .ok (.goto (-18), 3) := by decide +kernel
theorem dX9_growTree_23 : decode cX9_growTree 23 = .ok (.aload_n 0, 1) := by decide +kernel
theorem dX9_growTree_24 : decode cX9_growTree 24 = .ok (.iconst 0, 1) := by decide +kernel
theorem dX9_growTree_25 : decode cX9_growTree 25 = .ok (.aload_n 0, 1) := by decide +kernel
theorem dX9_growTree_26 : decode cX9_growTree 26 = .ok (.getfield 7, 3) := by decide +kernel
theorem dX9_growTree_29 : decode cX9_growTree 29 = .ok (.iconst 1, 1) := by decide +kernel
theorem dX9_growTree_30 : decode cX9_growTree 30 = .ok (.isub, 1) := by decide +kernel
theorem dX9_growTree_31 : decode cX9_growTree 31 = .ok (.invokevirtual 168, 3) := by decide +kernel
theorem dX9_growTree_34 : decode cX9_growTree 34 = .ok (.iconst 0, 1) := by decide +kernel
theorem dX9_growTree_35 : decode cX9_growTree 35 = .ok (.istore_n 1, 1) := by decide +kernel
theorem dX9_growTree_36 : decode cX9_growTree 36 = .ok (.iload_n 1, 1) := by decide +kernel
theorem dX9_growTree_37 : decode cX9_growTree 37 = .ok (.bipush 48, 2) := by decide +kernel
theorem dX9_growTree_39 : decode cX9_growTree 39 = .ok (.if_icmp .ge 23, 3) := by decide +kernel
theorem dX9_growTree_42 : decode cX9_growTree 42 = .ok (.aload_n 0, 1) := by decide +kernel
theorem dX9_growTree_43 : decode cX9_growTree 43 = .ok (.getfield 39, 3) := by decide +kernel
theorem dX9_growTree_46 : decode cX9_growTree 46 = .ok (.iload_n 1, 1) := by decide +kernel
theorem dX9_growTree_47 : decode cX9_growTree 47 = .ok (.iconst 0, 1) := by decide +kernel
theorem dX9_growTree_48 : decode cX9_growTree 48 = .ok (.bastore, 1) := by decide +kernel
theorem dX9_growTree_49 : decode cX9_growTree 49 = .ok (.aload_n 0, 1) := by decide +kernel
theorem dX9_growTree_50 : decode cX9_growTree 50 = .ok (.getfield 75, 3) := by decide +kernel
theorem dX9_growTree_53 : decode cX9_growTree 53 = .ok (.iload_n 1, 1) := by decide +kernel
theorem dX9_growTree_54 : decode cX9_growTree 54 = .ok (.iconst 0, 1) := by decide +kernel
theorem dX9_growTree_55 : decode cX9_growTree 55 = .ok (.bastore, 1) := by decide +kernel
theorem dX9_growTree_56 : decode cX9_growTree 56 = .ok (.iinc 1 1, 3) := by decide +kernel
theorem dX9_growTree_59 : decode cX9_growTree 59 = .ok (.goto (-23), 3) := by decide +kernel
theorem dX9_growTree_62 : decode cX9_growTree 62 = .ok (.aload_n 0, 1) := by decide +kernel
theorem dX9_growTree_63 : decode cX9_growTree 63 = .ok (.invokevirtual 171, 3) := by decide +kernel
theorem dX9_growTree_66 : decode cX9_growTree 66 = .ok (.istore_n 1, 1) := by decide +kernel
theorem dX9_growTree_67 : decode cX9_growTree 67 = .ok (.iload_n 1, 1) := by decide +kernel
theorem dX9_growTree_68 : decode cX9_growTree 68 = .ok (.iconst (-1), 1) := by decide +kernel
theorem dX9_growTree_69 : decode cX9_growTree 69 = .ok (.if_icmp .eq 62, 3) := by decide +kernel
theorem dX9_growTree_72 : decode cX9_growTree 72 = .ok (.aload_n 0, 1) := by decide +kernel
theorem dX9_growTree_73 : decode cX9_growTree 73 = .ok (.getfield 75, 3) := by decide +kernel
theorem dX9_growTree_76 : decode cX9_growTree 76 = .ok (.iload_n 1, 1) := by decide +kernel
theorem dX9_growTree_77 : decode cX9_growTree 77 = .ok (.iconst 1, 1) := by decide +kernel
theorem dX9_growTree_78 : decode cX9_growTree 78 = .ok (.bastore, 1) := by decide +kernel
theorem dX9_growTree_79 : decode cX9_growTree 79 = .ok (.aload_n 0, 1) := by decide +kernel
theorem dX9_growTree_80 : decode cX9_growTree 80 = .ok (.getfield 66, 3) := by decide +kernel
theorem dX9_growTree_83 : decode cX9_growTree 83 = .ok (.aload_n 0, 1) := by decide +kernel
theorem dX9_growTree_84 : decode cX9_growTree 84 = .ok (.iload_n 1, 1) := by decide +kernel
theorem dX9_growTree_85 : decode cX9_growTree 85 = .ok (.invokevirtual 151, 3) := by decide +kernel
theorem dX9_growTree_88 : decode cX9_growTree 88 = .ok (.iaload, 1) := by decide +kernel
theorem dX9_growTree_89 : decode cX9_growTree 89 = .ok (.aload_n 0, 1) := by decide +kernel
theorem dX9_growTree_90 : decode cX9_growTree 90 = .ok (.getfield 66, 3) := by decide +kernel
theorem dX9_growTree_93 : decode cX9_growTree 93 = .ok (.aload_n 0, 1) := by decide +kernel
theorem dX9_growTree_94 : decode cX9_growTree 94 = .ok (.iload_n 1, 1) := by decide +kernel
theorem dX9_growTree_95 : decode cX9_growTree 95 = .ok (.invokevirtual 165, 3) := by decide +kernel
theorem dX9_growTree_98 : decode cX9_growTree 98 = .ok (.iaload, 1) := by decide +kernel
theorem dX9_growTree_99 : decode cX9_growTree 99 = .ok (.if_icmp .eq 24, 3) := by decide +kernel
theorem dX9_growTree_102 : decode cX9_growTree 102 = .ok (.aload_n 0, 1) := by decide +kernel
theorem dX9_growTree_103 : decode cX9_growTree 103 = .ok (.getfield 39, 3) := by decide +kernel
theorem dX9_growTree_106 : decode cX9_growTree 106 = .ok (.iload_n 1, 1) := by decide +kernel
theorem dX9_growTree_107 : decode cX9_growTree 107 = .ok (.iconst 1, 1) := by decide +kernel
theorem dX9_growTree_108 : decode cX9_growTree 108 = .ok (.bastore, 1) := by decide +kernel
theorem dX9_growTree_109 : decode cX9_growTree 109 = .ok (.aload_n 0, 1) := by decide +kernel
theorem dX9_growTree_110 : decode cX9_growTree 110 = .ok (.aload_n 0, 1) := by decide +kernel
theorem dX9_growTree_111 : decode cX9_growTree 111 = .ok (.iload_n 1, 1) := by decide +kernel
theorem dX9_growTree_112 : decode cX9_growTree 112 = .ok (.invokevirtual 151, 3) := by decide +kernel
theorem dX9_growTree_115 : decode cX9_growTree 115 = .ok (.aload_n 0, 1) := by decide +kernel
theorem dX9_growTree_116 : decode cX9_growTree 116 = .ok (.iload_n 1, 1) := by decide +kernel
theorem dX9_growTree_117 : decode cX9_growTree 117 = .ok (.invokevirtual 165, 3) := by decide +kernel
theorem dX9_growTree_120 : decode cX9_growTree 120 = .ok (.invokevirtual 168, 3) := by decide +kernel
theorem dX9_growTree_123 : decode cX9_growTree 123 = .ok (.aload_n 0, 1) := by decide +kernel
theorem dX9_growTree_124 : decode cX9_growTree 124 = .ok (.invokevirtual 171, 3) := by decide +kernel
theorem dX9_growTree_127 : decode cX9_growTree 127 = .ok (.istore_n 1, 1) := by decide +kernel
theorem dX9_growTree_128 : decode cX9_growTree 128 = .ok (.goto (-61), 3) := by decide +kernel
theorem dX9_growTree_131 : decode cX9_growTree 131 = .ok (.return_, 1) := by decide +kernel
theorem dX9_heaviest_0 : decode cX9_heaviest 0 = .ok (.iconst (-1), 1) := by decide +kernel
theorem dX9_heaviest_1 : decode cX9_heaviest 1 = .ok (.istore_n 1, 1) := by decide +kernel
theorem dX9_heaviest_2 : decode cX9_heaviest 2 = .ok (.iconst 0, 1) := by decide +kernel
theorem dX9_heaviest_3 : decode cX9_heaviest 3 = .ok (.istore_n 2, 1) := by decide +kernel
theorem dX9_heaviest_4 : decode cX9_heaviest 4 = .ok (.iload_n 2, 1) := by decide +kernel
theorem dX9_heaviest_5 : decode cX9_heaviest 5 = .ok (.iconst 2, 1) := by decide +kernel
theorem dX9_heaviest_6 : decode cX9_heaviest 6 = .ok (.aload_n 0, 1) := by decide +kernel
theorem dX9_heaviest_7 : decode cX9_heaviest 7 = .ok (.getfield 101, 3) := by decide +kernel
theorem dX9_heaviest_10 : decode cX9_heaviest 10 = .ok (.imul, 1) := by decide +kernel
theorem dX9_heaviest_11 : decode cX9_heaviest 11 = .ok (.if_icmp .ge 46, 3) := by decide +kernel
theorem dX9_heaviest_14 : decode cX9_heaviest 14 = .ok (.aload_n 0, 1) := by decide +kernel
theorem dX9_heaviest_15 : decode cX9_heaviest 15 = .ok (.iload_n 2, 1) := by decide +kernel
theorem dX9_heaviest_16 : decode cX9_heaviest 16 = .ok (.invokevirtual 148, 3) := by decide +kernel
theorem dX9_heaviest_19 : decode cX9_heaviest 19 = .ok (.ifCond .eq 30, 3) := by decide +kernel
theorem dX9_heaviest_22 : decode cX9_heaviest 22 = .ok (.aload_n 0, 1) := by decide +kernel
theorem dX9_heaviest_23 : decode cX9_heaviest 23 = .ok (.getfield 75, 3) := by decide +kernel
theorem dX9_heaviest_26 : decode cX9_heaviest 26 = .ok (.iload_n 2, 1) := by decide +kernel
theorem dX9_heaviest_27 : decode cX9_heaviest 27 = .ok (.baload, 1) := by decide +kernel
theorem dX9_heaviest_28 : decode cX9_heaviest 28 = .ok (.ifCond .ne 21, 3) := by decide +kernel
theorem dX9_heaviest_31 : decode cX9_heaviest 31 = .ok (.iload_n 1, 1) := by decide +kernel
theorem dX9_heaviest_32 : decode cX9_heaviest 32 = .ok (.iconst (-1), 1) := by decide +kernel
theorem dX9_heaviest_33 : decode cX9_heaviest 33 = .ok (.if_icmp .eq 12, 3) := by decide +kernel
theorem dX9_heaviest_36 : decode cX9_heaviest 36 = .ok (.aload_n 0, 1) := by decide +kernel
theorem dX9_heaviest_37 : decode cX9_heaviest 37 = .ok (.iload_n 2, 1) := by decide +kernel
theorem dX9_heaviest_38 : decode cX9_heaviest 38 = .ok (.iload_n 1, 1) := by decide +kernel
theorem dX9_heaviest_39 : decode cX9_heaviest 39 = .ok (.invokevirtual 174, 3) := by decide +kernel
theorem dX9_heaviest_42 : decode cX9_heaviest 42 = .ok (.ifCond .eq 7, 3) := by decide +kernel
theorem dX9_heaviest_45 : decode cX9_heaviest 45 = .ok (.iload_n 2, 1) := by decide +kernel
theorem dX9_heaviest_46 : decode cX9_heaviest 46 = .ok (.goto 4, 3) := by decide +kernel
theorem dX9_heaviest_49 : decode cX9_heaviest 49 = .ok (.iload_n 1, 1) := by decide +kernel
theorem dX9_heaviest_50 : decode cX9_heaviest 50 = .ok (.istore_n 1, 1) := by decide +kernel
theorem dX9_heaviest_51 : decode cX9_heaviest 51 = .ok (.iinc 2 1, 3) := by decide +kernel
theorem dX9_heaviest_54 : decode cX9_heaviest 54 = .ok (.goto (-50), 3) := by decide +kernel
theorem dX9_heaviest_57 : decode cX9_heaviest 57 = .ok (.iload_n 1, 1) := by decide +kernel
theorem dX9_heaviest_58 : decode cX9_heaviest 58 = .ok (.ireturn, 1) := by decide +kernel
theorem dX9_layPotentials_0 : decode cX9_layPotentials 0 = .ok (.iconst 0, 1) := by decide +kernel
theorem dX9_layPotentials_1 : decode cX9_layPotentials 1 = .ok (.istore_n 1, 1) := by decide +kernel
theorem dX9_layPotentials_2 : decode cX9_layPotentials 2 = .ok (.iload_n 1, 1) := by decide +kernel
theorem dX9_layPotentials_3 : decode cX9_layPotentials 3 = .ok (.aload_n 0, 1) := by decide +kernel
theorem dX9_layPotentials_4 : decode cX9_layPotentials 4 = .ok (.getfield 7, 3) := by decide +kernel
theorem dX9_layPotentials_7 : decode cX9_layPotentials 7 = .ok (.if_icmp .ge 41, 3) := by decide +kernel
theorem dX9_layPotentials_10 : decode cX9_layPotentials 10 = .ok (.aload_n 0, 1) := by decide +kernel
theorem dX9_layPotentials_11 : decode cX9_layPotentials 11 = .ok (.getfield 72, 3) := by decide +kernel
theorem dX9_layPotentials_14 : decode cX9_layPotentials 14 = .ok (.iload_n 1, 1) := by decide +kernel
theorem dX9_layPotentials_15 : decode cX9_layPotentials 15 = .ok (.iload_n 1, 1) := by decide +kernel
theorem dX9_layPotentials_16 : decode cX9_layPotentials 16 = .ok (.ifCond .eq 13, 3) := by decide +kernel
theorem dX9_layPotentials_19 : decode cX9_layPotentials 19 = .ok (.iload_n 1, 1) := by decide +kernel
theorem dX9_layPotentials_20 : decode cX9_layPotentials 20 = .ok (.aload_n 0, 1) := by decide +kernel
theorem dX9_layPotentials_21 : decode cX9_layPotentials 21 = .ok (.getfield 7, 3) := by decide +kernel
theorem dX9_layPotentials_24 : decode cX9_layPotentials 24 = .ok (.iconst 1, 1) := by decide +kernel
theorem dX9_layPotentials_25 : decode cX9_layPotentials 25 = .ok (.isub, 1) := by decide +kernel
theorem dX9_layPotentials_26 : decode cX9_layPotentials 26 = .ok (.if_icmp .ne 7, 3) := by decide +kernel
theorem dX9_layPotentials_29 : decode cX9_layPotentials 29 = .ok (.iconst 1, 1) := by decide +kernel
theorem dX9_layPotentials_30 : decode cX9_layPotentials 30 = .ok (.goto 4, 3) := by decide +kernel
theorem dX9_layPotentials_33 : decode cX9_layPotentials 33 = .ok (.iconst 0, 1) := by decide +kernel
theorem dX9_layPotentials_34 : decode cX9_layPotentials 34 = .ok (.bastore, 1) := by decide +kernel
theorem dX9_layPotentials_35 : decode cX9_layPotentials 35 = .ok (.aload_n 0, 1) := by decide +kernel
theorem dX9_layPotentials_36 : decode cX9_layPotentials 36 = .ok (.getfield 69, 3) := by decide +kernel
theorem dX9_layPotentials_39 : decode cX9_layPotentials 39 = .ok (.iload_n 1, 1) := by decide +kernel
theorem dX9_layPotentials_40 : decode cX9_layPotentials 40 = .ok (.iconst 0, 1) := by decide +kernel
theorem dX9_layPotentials_41 : decode cX9_layPotentials 41 = .ok (.iastore, 1) := by decide +kernel
theorem dX9_layPotentials_42 : decode cX9_layPotentials 42 = .ok (.iinc 1 1, 3) := by decide +kernel
theorem dX9_layPotentials_45 : decode cX9_layPotentials 45 = .ok (.goto (-43), 3) := by decide +kernel
theorem dX9_layPotentials_48 : decode cX9_layPotentials 48 = .ok (.iconst 0, 1) := by decide +kernel
theorem dX9_layPotentials_49 : decode cX9_layPotentials 49 = .ok (.istore_n 1, 1) := by decide +kernel
theorem dX9_layPotentials_50 : decode cX9_layPotentials 50 = .ok (.iload_n 1, 1) := by decide +kernel
theorem dX9_layPotentials_51 : decode cX9_layPotentials 51 = .ok (.aload_n 0, 1) := by decide +kernel
theorem dX9_layPotentials_52 : decode cX9_layPotentials 52 = .ok (.getfield 7, 3) := by decide +kernel
theorem dX9_layPotentials_55 : decode cX9_layPotentials 55 = .ok (.if_icmp .ge 145, 3) := by decide +kernel
theorem dX9_layPotentials_58 : decode cX9_layPotentials 58 = .ok (.iconst 0, 1) := by decide +kernel
theorem dX9_layPotentials_59 : decode cX9_layPotentials 59 = .ok (.istore_n 2, 1) := by decide +kernel
theorem dX9_layPotentials_60 : decode cX9_layPotentials 60 = .ok (.iload_n 2, 1) := by decide +kernel
theorem dX9_layPotentials_61 : decode cX9_layPotentials 61 = .ok (.iconst 2, 1) := by decide +kernel
theorem dX9_layPotentials_62 : decode cX9_layPotentials 62 = .ok (.aload_n 0, 1) := by decide +kernel
theorem dX9_layPotentials_63 : decode cX9_layPotentials 63 = .ok (.getfield 101, 3) := by decide +kernel
theorem dX9_layPotentials_66 : decode cX9_layPotentials 66 = .ok (.imul, 1) := by decide +kernel
theorem dX9_layPotentials_67 : decode cX9_layPotentials 67 = .ok (.if_icmp .ge 127, 3) := by decide +kernel
theorem dX9_layPotentials_70 : decode cX9_layPotentials 70 = .ok (.aload_n 0, 1) := by decide +kernel
theorem dX9_layPotentials_71 : decode cX9_layPotentials 71 = .ok (.getfield 39, 3) := by decide +kernel
theorem dX9_layPotentials_74 : decode cX9_layPotentials 74 = .ok (.iload_n 2, 1) := by decide +kernel
theorem dX9_layPotentials_75 : decode cX9_layPotentials 75 = .ok (.baload, 1) := by decide +kernel
theorem dX9_layPotentials_76 : decode cX9_layPotentials 76 = .ok (.ifCond .eq 112, 3) := by decide +kernel
theorem dX9_layPotentials_79 : decode cX9_layPotentials 79 = .ok (.aload_n 0, 1) := by decide +kernel
theorem dX9_layPotentials_80 : decode cX9_layPotentials 80 = .ok (.iload_n 2, 1) := by decide +kernel
theorem dX9_layPotentials_81 : decode cX9_layPotentials 81 = .ok (.invokevirtual 151, 3) := by decide +kernel
theorem dX9_layPotentials_84 : decode cX9_layPotentials 84 = .ok (.istore_n 3, 1) := by decide +kernel
theorem dX9_layPotentials_85 : decode cX9_layPotentials 85 = .ok (.aload_n 0, 1) := by decide +kernel
theorem dX9_layPotentials_86 : decode cX9_layPotentials 86 = .ok (.iload_n 2, 1) := by decide +kernel
theorem dX9_layPotentials_87 : decode cX9_layPotentials 87 = .ok (.invokevirtual 165, 3) := by decide +kernel
theorem dX9_layPotentials_90 : decode cX9_layPotentials 90 = .ok (.istore 4, 2) := by decide +kernel
theorem dX9_layPotentials_92 : decode cX9_layPotentials 92 = .ok (.aload_n 0, 1) := by decide +kernel
theorem dX9_layPotentials_93 : decode cX9_layPotentials 93 = .ok (.getfield 72, 3) := by decide +kernel
theorem dX9_layPotentials_96 : decode cX9_layPotentials 96 = .ok (.iload_n 3, 1) := by decide +kernel
theorem dX9_layPotentials_97 : decode cX9_layPotentials 97 = .ok (.baload, 1) := by decide +kernel
theorem dX9_layPotentials_98 : decode cX9_layPotentials 98 = .ok (.ifCond .eq 44, 3) := by decide +kernel
theorem dX9_layPotentials_101 : decode cX9_layPotentials 101 = .ok (.aload_n 0, 1) := by decide +kernel
theorem dX9_layPotentials_102 : decode cX9_layPotentials 102 = .ok (.getfield 72, 3) := by decide +kernel
theorem dX9_layPotentials_105 : decode cX9_layPotentials 105 = .ok (.iload 4, 2) := by decide +kernel
theorem dX9_layPotentials_107 : decode cX9_layPotentials 107 = .ok (.baload, 1) := by decide +kernel
theorem dX9_layPotentials_108 : decode cX9_layPotentials 108 = .ok (.ifCond .ne 34, 3) := by decide +kernel
theorem dX9_layPotentials_111 : decode cX9_layPotentials 111 = .ok (.aload_n 0, 1) := by decide +kernel
theorem dX9_layPotentials_112 : decode cX9_layPotentials 112 = .ok (.getfield 69, 3) := by decide +kernel
theorem dX9_layPotentials_115 : decode cX9_layPotentials 115 = .ok (.iload 4, 2) := by decide +kernel
theorem dX9_layPotentials_117 : decode cX9_layPotentials 117 = .ok (.aload_n 0, 1) := by decide +kernel
theorem dX9_layPotentials_118 : decode cX9_layPotentials 118 = .ok (.getfield 69, 3) := by decide +kernel
theorem dX9_layPotentials_121 : decode cX9_layPotentials 121 = .ok (.iload_n 3, 1) := by decide +kernel
theorem dX9_layPotentials_122 : decode cX9_layPotentials 122 = .ok (.iaload, 1) := by decide +kernel
theorem dX9_layPotentials_123 : decode cX9_layPotentials 123 = .ok (.aload_n 0, 1) := by decide +kernel
theorem dX9_layPotentials_124 : decode cX9_layPotentials 124 = .ok (.getfield 33, 3) := by decide +kernel
theorem dX9_layPotentials_127 : decode cX9_layPotentials 127 = .ok (.iload_n 2, 1) := by decide +kernel
theorem dX9_layPotentials_128 : decode cX9_layPotentials 128 = .ok (.iaload, 1) := by decide +kernel
theorem dX9_layPotentials_129 : decode cX9_layPotentials 129 = .ok (.iadd, 1) := by decide +kernel
theorem dX9_layPotentials_130 : decode cX9_layPotentials 130 = .ok (.iastore, 1) := by decide +kernel
theorem dX9_layPotentials_131 : decode cX9_layPotentials 131 = .ok (.aload_n 0, 1) := by decide +kernel
theorem dX9_layPotentials_132 : decode cX9_layPotentials 132 = .ok (.getfield 72, 3) := by decide +kernel
theorem dX9_layPotentials_135 : decode cX9_layPotentials 135 = .ok (.iload 4, 2) := by decide +kernel
theorem dX9_layPotentials_137 : decode cX9_layPotentials 137 = .ok (.iconst 1, 1) := by decide +kernel
theorem dX9_layPotentials_138 : decode cX9_layPotentials 138 = .ok (.bastore, 1) := by decide +kernel
theorem dX9_layPotentials_139 : decode cX9_layPotentials 139 = .ok (.goto 49, 3) := by decide +kernel
theorem dX9_layPotentials_142 : decode cX9_layPotentials 142 = .ok (.aload_n 0, 1) := by decide +kernel
theorem dX9_layPotentials_143 : decode cX9_layPotentials 143 = .ok (.getfield 72, 3) := by decide +kernel
theorem dX9_layPotentials_146 : decode cX9_layPotentials 146 = .ok (.iload 4, 2) := by decide +kernel
theorem dX9_layPotentials_148 : decode cX9_layPotentials 148 = .ok (.baload, 1) := by decide +kernel
theorem dX9_layPotentials_149 : decode cX9_layPotentials 149 = .ok (.ifCond .eq 39, 3) := by decide +kernel
theorem dX9_layPotentials_152 : decode cX9_layPotentials 152 = .ok (.aload_n 0, 1) := by decide +kernel
theorem dX9_layPotentials_153 : decode cX9_layPotentials 153 = .ok (.getfield 72, 3) := by decide +kernel
theorem dX9_layPotentials_156 : decode cX9_layPotentials 156 = .ok (.iload_n 3, 1) := by decide +kernel
theorem dX9_layPotentials_157 : decode cX9_layPotentials 157 = .ok (.baload, 1) := by decide +kernel
theorem dX9_layPotentials_158 : decode cX9_layPotentials 158 = .ok (.ifCond .ne 30, 3) := by decide +kernel
theorem dX9_layPotentials_161 : decode cX9_layPotentials 161 = .ok (.aload_n 0, 1) := by decide +kernel
theorem dX9_layPotentials_162 : decode cX9_layPotentials 162 = .ok (.getfield 69, 3) := by decide +kernel
theorem dX9_layPotentials_165 : decode cX9_layPotentials 165 = .ok (.iload_n 3, 1) := by decide +kernel
theorem dX9_layPotentials_166 : decode cX9_layPotentials 166 = .ok (.aload_n 0, 1) := by decide +kernel
theorem dX9_layPotentials_167 : decode cX9_layPotentials 167 = .ok (.getfield 69, 3) := by decide +kernel
theorem dX9_layPotentials_170 : decode cX9_layPotentials 170 = .ok (.iload 4, 2) := by decide +kernel
theorem dX9_layPotentials_172 : decode cX9_layPotentials 172 = .ok (.iaload, 1) := by decide +kernel
theorem dX9_layPotentials_173 : decode cX9_layPotentials 173 = .ok (.aload_n 0, 1) := by decide +kernel
theorem dX9_layPotentials_174 : decode cX9_layPotentials 174 = .ok (.getfield 33, 3) := by decide +kernel
theorem dX9_layPotentials_177 : decode cX9_layPotentials 177 = .ok (.iload_n 2, 1) := by decide +kernel
theorem dX9_layPotentials_178 : decode cX9_layPotentials 178 = .ok (.iaload, 1) := by decide +kernel
theorem dX9_layPotentials_179 : decode cX9_layPotentials 179 = .ok (.isub, 1) := by decide +kernel
theorem dX9_layPotentials_180 : decode cX9_layPotentials 180 = .ok (.iastore, 1) := by decide +kernel
theorem dX9_layPotentials_181 : decode cX9_layPotentials 181 = .ok (.aload_n 0, 1) := by decide +kernel
theorem dX9_layPotentials_182 : decode cX9_layPotentials 182 = .ok (.getfield 72, 3) := by decide +kernel
theorem dX9_layPotentials_185 : decode cX9_layPotentials 185 = .ok (.iload_n 3, 1) := by decide +kernel
theorem dX9_layPotentials_186 : decode cX9_layPotentials 186 = .ok (.iconst 1, 1) := by decide +kernel
theorem dX9_layPotentials_187 : decode cX9_layPotentials 187 = .ok (.bastore, 1) := by decide +kernel
theorem dX9_layPotentials_188 : decode cX9_layPotentials 188 = .ok (.iinc 2 1, 3) := by decide +kernel
theorem dX9_layPotentials_191 : decode cX9_layPotentials 191 = .ok (.goto (-131), 3) := by decide +kernel
theorem dX9_layPotentials_194 : decode cX9_layPotentials 194 = .ok (.iinc 1 1, 3) := by decide +kernel
theorem dX9_layPotentials_197 : decode cX9_layPotentials 197 = .ok (.goto (-147), 3) := by decide +kernel
theorem dX9_layPotentials_200 : decode cX9_layPotentials 200 = .ok (.iconst 0, 1) := by decide +kernel
theorem dX9_layPotentials_201 : decode cX9_layPotentials 201 = .ok (.istore_n 1, 1) := by decide +kernel
theorem dX9_layPotentials_202 : decode cX9_layPotentials 202 = .ok (.iload_n 1, 1) := by decide +kernel
theorem dX9_layPotentials_203 : decode cX9_layPotentials 203 = .ok (.iconst 2, 1) := by decide +kernel
theorem dX9_layPotentials_204 : decode cX9_layPotentials 204 = .ok (.aload_n 0, 1) := by decide +kernel
theorem dX9_layPotentials_205 : decode cX9_layPotentials 205 = .ok (.getfield 101, 3) := by decide +kernel
theorem dX9_layPotentials_208 : decode cX9_layPotentials 208 = .ok (.imul, 1) := by decide +kernel
theorem dX9_layPotentials_209 : decode cX9_layPotentials 209 = .ok (.if_icmp .ge 55, 3) := by decide +kernel
theorem dX9_layPotentials_212 : decode cX9_layPotentials 212 = .ok (.aload_n 0, 1) := by decide +kernel
theorem dX9_layPotentials_213 : decode cX9_layPotentials 213 = .ok (.getfield 36, 3) := by decide +kernel
theorem dX9_layPotentials_216 : decode cX9_layPotentials 216 = .ok (.iload_n 1, 1) := by decide +kernel
theorem dX9_layPotentials_217 : decode cX9_layPotentials 217 = .ok (.aload_n 0, 1) := by decide +kernel
theorem dX9_layPotentials_218 : decode cX9_layPotentials 218 = .ok (.iload_n 1, 1) := by decide +kernel
theorem dX9_layPotentials_219 : decode cX9_layPotentials 219 = .ok (.invokevirtual 148, 3) := by decide +kernel
theorem dX9_layPotentials_222 : decode cX9_layPotentials 222 = .ok (.ifCond .eq 34, 3) := by decide +kernel
theorem dX9_layPotentials_225 : decode cX9_layPotentials 225 = .ok (.aload_n 0, 1) := by decide +kernel
theorem dX9_layPotentials_226 : decode cX9_layPotentials 226 = .ok (.getfield 33, 3) := by decide +kernel
theorem dX9_layPotentials_229 : decode cX9_layPotentials 229 = .ok (.iload_n 1, 1) := by decide +kernel
theorem dX9_layPotentials_230 : decode cX9_layPotentials 230 = .ok (.iaload, 1) := by decide +kernel
theorem dX9_layPotentials_231 : decode cX9_layPotentials 231 = .ok (.aload_n 0, 1) := by decide +kernel
theorem dX9_layPotentials_232 : decode cX9_layPotentials 232 = .ok (.getfield 69, 3) := by decide +kernel
theorem dX9_layPotentials_235 : decode cX9_layPotentials 235 = .ok (.aload_n 0, 1) := by decide +kernel
theorem dX9_layPotentials_236 : decode cX9_layPotentials 236 = .ok (.iload_n 1, 1) := by decide +kernel
theorem dX9_layPotentials_237 : decode cX9_layPotentials 237 = .ok (.invokevirtual 151, 3) := by decide +kernel
theorem dX9_layPotentials_240 : decode cX9_layPotentials 240 = .ok (.iaload, 1) := by decide +kernel
theorem dX9_layPotentials_241 : decode cX9_layPotentials 241 = .ok (.iadd, 1) := by decide +kernel
theorem dX9_layPotentials_242 : decode cX9_layPotentials 242 = .ok (.aload_n 0, 1) := by decide +kernel
theorem dX9_layPotentials_243 : decode cX9_layPotentials 243 = .ok (.getfield 69, 3) := by decide +kernel
theorem dX9_layPotentials_246 : decode cX9_layPotentials 246 = .ok (.aload_n 0, 1) := by decide +kernel
theorem dX9_layPotentials_247 : decode cX9_layPotentials 247 = .ok (.iload_n 1, 1) := by decide +kernel
theorem dX9_layPotentials_248 : decode cX9_layPotentials 248 = .ok (.invokevirtual 165, 3) := by decide +kernel
theorem dX9_layPotentials_251 : decode cX9_layPotentials 251 = .ok (.iaload, 1) := by decide +kernel
theorem dX9_layPotentials_252 : decode cX9_layPotentials 252 = .ok (.isub, 1) := by decide +kernel
theorem dX9_layPotentials_253 : decode cX9_layPotentials 253 = .ok (.goto 4, 3) := by decide +kernel
theorem dX9_layPotentials_256 : decode cX9_layPotentials 256 = .ok (.iconst 0, 1) := by decide +kernel
theorem dX9_layPotentials_257 : decode cX9_layPotentials 257 = .ok (.iastore, 1) := by decide +kernel
theorem dX9_layPotentials_258 : decode cX9_layPotentials 258 = .ok (.iinc 1 1, 3) := by decide +kernel
theorem dX9_layPotentials_261 : decode cX9_layPotentials 261 = .ok (.goto (-59), 3) := by decide +kernel
theorem dX9_layPotentials_264 : decode cX9_layPotentials 264 = .ok (.return_, 1) := by decide +kernel
theorem dX9_analyse_0 : decode cX9_analyse 0 = .ok (.aload_n 0, 1) := by decide +kernel
theorem dX9_analyse_1 : decode cX9_analyse 1 = .ok (.iconst 0, 1) := by decide +kernel
theorem dX9_analyse_2 : decode cX9_analyse 2 = .ok (.putfield 81, 3) := by decide +kernel
theorem dX9_analyse_5 : decode cX9_analyse 5 = .ok (.aload_n 0, 1) := by decide +kernel
theorem dX9_analyse_6 : decode cX9_analyse 6 = .ok (.invokevirtual 104, 3) := by decide +kernel
theorem dX9_analyse_9 : decode cX9_analyse 9 = .ok (.aload_n 0, 1) := by decide +kernel
theorem dX9_analyse_10 : decode cX9_analyse 10 = .ok (.invokevirtual 177, 3) := by decide +kernel
theorem dX9_analyse_13 : decode cX9_analyse 13 = .ok (.aload_n 0, 1) := by decide +kernel
theorem dX9_analyse_14 : decode cX9_analyse 14 = .ok (.getfield 145, 3) := by decide +kernel
theorem dX9_analyse_17 : decode cX9_analyse 17 = .ok (.aload_n 0, 1) := by decide +kernel
theorem dX9_analyse_18 : decode cX9_analyse 18 = .ok (.getfield 7, 3) := by decide +kernel
theorem dX9_analyse_21 : decode cX9_analyse 21 = .ok (.if_icmp .lt 10, 3) := by decide +kernel
theorem dX9_analyse_24 : decode cX9_analyse 24 = .ok (.aload_n 0, 1) := by decide +kernel
theorem dX9_analyse_25 : decode cX9_analyse 25 = .ok (.invokevirtual 180, 3) := by decide +kernel
theorem dX9_analyse_28 : decode cX9_analyse 28 = .ok (.ifCond .ne 5, 3) := by decide +kernel
theorem dX9_analyse_31 : decode cX9_analyse 31 = .ok (.iconst 0, 1) := by decide +kernel
theorem dX9_analyse_32 : decode cX9_analyse 32 = .ok (.ireturn, 1) := by decide +kernel
theorem dX9_analyse_33 : decode cX9_analyse 33 = .ok (.aload_n 0, 1) := by decide +kernel
theorem dX9_analyse_34 : decode cX9_analyse 34 = .ok (.invokevirtual 183, 3) := by decide +kernel
theorem dX9_analyse_37 : decode cX9_analyse 37 = .ok (.aload_n 0, 1) := by decide +kernel
theorem dX9_analyse_38 : decode cX9_analyse 38 = .ok (.invokevirtual 186, 3) := by decide +kernel
theorem dX9_analyse_41 : decode cX9_analyse 41 = .ok (.aload_n 0, 1) := by decide +kernel
theorem dX9_analyse_42 : decode cX9_analyse 42 = .ok (.invokevirtual 189, 3) := by decide +kernel
theorem dX9_analyse_45 : decode cX9_analyse 45 = .ok (.aload_n 0, 1) := by decide +kernel
theorem dX9_analyse_46 : decode cX9_analyse 46 = .ok (.iconst 1, 1) := by decide +kernel
theorem dX9_analyse_47 : decode cX9_analyse 47 = .ok (.putfield 84, 3) := by decide +kernel
theorem dX9_analyse_50 : decode cX9_analyse 50 = .ok (.aload_n 0, 1) := by decide +kernel
theorem dX9_analyse_51 : decode cX9_analyse 51 = .ok (.getfield 30, 3) := by decide +kernel
theorem dX9_analyse_54 : decode cX9_analyse 54 = .ok (.iconst 0, 1) := by decide +kernel
theorem dX9_analyse_55 : decode cX9_analyse 55 = .ok (.iaload, 1) := by decide +kernel
theorem dX9_analyse_56 : decode cX9_analyse 56 = .ok (.ireturn, 1) := by decide +kernel
theorem dX9_lack_0 : decode cX9_lack 0 = .ok (.aload_n 0, 1) := by decide +kernel
theorem dX9_lack_1 : decode cX9_lack 1 = .ok (.getfield 84, 3) := by decide +kernel
theorem dX9_lack_4 : decode cX9_lack 4 = .ok (.ifCond .ne 7, 3) := by decide +kernel
theorem dX9_lack_7 : decode cX9_lack 7 = .ok (.iconst 1, 1) := by decide +kernel
theorem dX9_lack_8 : decode cX9_lack 8 = .ok (.goto 12, 3) := by decide +kernel
theorem dX9_lack_11 : decode cX9_lack 11 = .ok (.iload_n 1, 1) := by decide +kernel
theorem dX9_lack_12 : decode cX9_lack 12 = .ok (.ifCond .eq 7, 3) := by decide +kernel
theorem dX9_lack_15 : decode cX9_lack 15 = .ok (.iconst 0, 1) := by decide +kernel
theorem dX9_lack_16 : decode cX9_lack 16 = .ok (.goto 4, 3) := by decide +kernel
theorem dX9_lack_19 : decode cX9_lack 19 = .ok (.iconst 2, 1) := by decide +kernel
theorem dX9_lack_20 : decode cX9_lack 20 = .ok (.ireturn, 1) := by decide +kernel
theorem dX9_pathsFrom_0 : decode cX9_pathsFrom 0 = .ok (.aload_n 0, 1) := by decide +kernel
theorem dX9_pathsFrom_1 : decode cX9_pathsFrom 1 = .ok (.aload_n 0, 1) := by decide +kernel
theorem dX9_pathsFrom_2 : decode cX9_pathsFrom 2 = .ok (.aload_n 0, 1) := by decide +kernel
theorem dX9_pathsFrom_3 : decode cX9_pathsFrom 3 = .ok (.iload_n 1, 1) := by decide +kernel
theorem dX9_pathsFrom_4 : decode cX9_pathsFrom 4 = .ok (.invokevirtual 107, 3) := by decide +kernel
theorem dX9_pathsFrom_7 : decode cX9_pathsFrom 7 = .ok (.invokevirtual 192, 3) := by decide +kernel
theorem dX9_pathsFrom_10 : decode cX9_pathsFrom 10 = .ok (.putfield 81, 3) := by decide +kernel
theorem dX9_pathsFrom_13 : decode cX9_pathsFrom 13 = .ok (.aload_n 0, 1) := by decide +kernel
theorem dX9_pathsFrom_14 : decode cX9_pathsFrom 14 = .ok (.getfield 81, 3) := by decide +kernel
theorem dX9_pathsFrom_17 : decode cX9_pathsFrom 17 = .ok (.ifCond .le 7, 3) := by decide +kernel
theorem dX9_pathsFrom_20 : decode cX9_pathsFrom 20 = .ok (.iconst 0, 1) := by decide +kernel
theorem dX9_pathsFrom_21 : decode cX9_pathsFrom 21 = .ok (.goto 9, 3) := by decide +kernel
theorem dX9_pathsFrom_24 : decode cX9_pathsFrom 24 = .ok (.aload_n 0, 1) := by decide +kernel
theorem dX9_pathsFrom_25 : decode cX9_pathsFrom 25 = .ok (.getfield 30, 3) := by decide +kernel
theorem dX9_pathsFrom_28 : decode cX9_pathsFrom 28 = .ok (.iload_n 1, 1) := by decide +kernel
theorem dX9_pathsFrom_29 : decode cX9_pathsFrom 29 = .ok (.iaload, 1) := by decide +kernel
theorem dX9_pathsFrom_30 : decode cX9_pathsFrom 30 = .ok (.ireturn, 1) := by decide +kernel
theorem dX9_isBack_0 : decode cX9_isBack 0 = .ok (.aload_n 0, 1) := by decide +kernel
theorem dX9_isBack_1 : decode cX9_isBack 1 = .ok (.aload_n 0, 1) := by decide +kernel
theorem dX9_isBack_2 : decode cX9_isBack 2 = .ok (.aload_n 0, 1) := by decide +kernel
theorem dX9_isBack_3 : decode cX9_isBack 3 = .ok (.iload_n 1, 1) := by decide +kernel
theorem dX9_isBack_4 : decode cX9_isBack 4 = .ok (.invokevirtual 119, 3) := by decide +kernel
theorem dX9_isBack_7 : decode cX9_isBack 7 = .ok (.invokevirtual 192, 3) := by decide +kernel
theorem dX9_isBack_10 : decode cX9_isBack 10 = .ok (.putfield 81, 3) := by decide +kernel
theorem dX9_isBack_13 : decode cX9_isBack 13 = .ok (.aload_n 0, 1) := by decide +kernel
theorem dX9_isBack_14 : decode cX9_isBack 14 = .ok (.getfield 81, 3) := by decide +kernel
theorem dX9_isBack_17 : decode cX9_isBack 17 = .ok (.ifCond .ne 16, 3) := by decide +kernel
theorem dX9_isBack_20 : decode cX9_isBack 20 = .ok (.aload_n 0, 1) := by decide +kernel
theorem dX9_isBack_21 : decode cX9_isBack 21 = .ok (.getfield 26, 3) := by decide +kernel
theorem dX9_isBack_24 : decode cX9_isBack 24 = .ok (.iload_n 1, 1) := by decide +kernel
theorem dX9_isBack_25 : decode cX9_isBack 25 = .ok (.baload, 1) := by decide +kernel
theorem dX9_isBack_26 : decode cX9_isBack 26 = .ok (.ifCond .eq 7, 3) := by decide +kernel
theorem dX9_isBack_29 : decode cX9_isBack 29 = .ok (.iconst 1, 1) := by decide +kernel
theorem dX9_isBack_30 : decode cX9_isBack 30 = .ok (.goto 4, 3) := by decide +kernel
theorem dX9_isBack_33 : decode cX9_isBack 33 = .ok (.iconst 0, 1) := by decide +kernel
theorem dX9_isBack_34 : decode cX9_isBack 34 = .ok (.ireturn, 1) := by decide +kernel
theorem dX9_linkOf_0 : decode cX9_linkOf 0 = .ok (.aload_n 0, 1) := by decide +kernel
theorem dX9_linkOf_1 : decode cX9_linkOf 1 = .ok (.getfield 26, 3) := by decide +kernel
theorem dX9_linkOf_4 : decode cX9_linkOf 4 = .ok (.iload_n 1, 1) := by decide +kernel
theorem dX9_linkOf_5 : decode cX9_linkOf 5 = .ok (.baload, 1) := by decide +kernel
theorem dX9_linkOf_6 : decode cX9_linkOf 6 = .ok (.ifCond .eq 15, 3) := by decide +kernel
theorem dX9_linkOf_9 : decode cX9_linkOf 9 = .ok (.iload_n 2, 1) := by decide +kernel
theorem dX9_linkOf_10 : decode cX9_linkOf 10 = .ok (.ifCond .ne 11, 3) := by decide +kernel
theorem dX9_linkOf_13 : decode cX9_linkOf 13 = .ok (.iconst 2, 1) := by decide +kernel
theorem dX9_linkOf_14 : decode cX9_linkOf 14 = .ok (.iload_n 1, 1) := by decide +kernel
theorem dX9_linkOf_15 : decode cX9_linkOf 15 = .ok (.imul, 1) := by decide +kernel
theorem dX9_linkOf_16 : decode cX9_linkOf 16 = .ok (.iconst 1, 1) := by decide +kernel
theorem dX9_linkOf_17 : decode cX9_linkOf 17 = .ok (.iadd, 1) := by decide +kernel
theorem dX9_linkOf_18 : decode cX9_linkOf 18 = .ok (.goto 6, 3) := by decide +kernel
theorem dX9_linkOf_21 : decode cX9_linkOf 21 = .ok (.iconst 2, 1) := by decide +kernel
theorem dX9_linkOf_22 : decode cX9_linkOf 22 = .ok (.iload_n 1, 1) := by decide +kernel
theorem dX9_linkOf_23 : decode cX9_linkOf 23 = .ok (.imul, 1) := by decide +kernel
theorem dX9_linkOf_24 : decode cX9_linkOf 24 = .ok (.ireturn, 1) := by decide +kernel
theorem dX9_value_0 : decode cX9_value 0 = .ok (.aload_n 0, 1) := by decide +kernel
theorem dX9_value_1 : decode cX9_value 1 = .ok (.aload_n 0, 1) := by decide +kernel
theorem dX9_value_2 : decode cX9_value 2 = .ok (.aload_n 0, 1) := by decide +kernel
theorem dX9_value_3 : decode cX9_value 3 = .ok (.iload_n 1, 1) := by decide +kernel
theorem dX9_value_4 : decode cX9_value 4 = .ok (.invokevirtual 119, 3) := by decide +kernel
theorem dX9_value_7 : decode cX9_value 7 = .ok (.invokevirtual 192, 3) := by decide +kernel
theorem dX9_value_10 : decode cX9_value 10 = .ok (.putfield 81, 3) := by decide +kernel
theorem dX9_value_13 : decode cX9_value 13 = .ok (.aload_n 0, 1) := by decide +kernel
theorem dX9_value_14 : decode cX9_value 14 = .ok (.getfield 81, 3) := by decide +kernel
theorem dX9_value_17 : decode cX9_value 17 = .ok (.ifCond .le 7, 3) := by decide +kernel
theorem dX9_value_20 : decode cX9_value 20 = .ok (.iconst 0, 1) := by decide +kernel
theorem dX9_value_21 : decode cX9_value 21 = .ok (.goto 14, 3) := by decide +kernel
theorem dX9_value_24 : decode cX9_value 24 = .ok (.aload_n 0, 1) := by decide +kernel
theorem dX9_value_25 : decode cX9_value 25 = .ok (.getfield 33, 3) := by decide +kernel
theorem dX9_value_28 : decode cX9_value 28 = .ok (.aload_n 0, 1) := by decide +kernel
theorem dX9_value_29 : decode cX9_value 29 = .ok (.iload_n 1, 1) := by decide +kernel
theorem dX9_value_30 : decode cX9_value 30 = .ok (.iload_n 2, 1) := by decide +kernel
theorem dX9_value_31 : decode cX9_value 31 = .ok (.invokevirtual 196, 3) := by decide +kernel
theorem dX9_value_34 : decode cX9_value 34 = .ok (.iaload, 1) := by decide +kernel
theorem dX9_value_35 : decode cX9_value 35 = .ok (.ireturn, 1) := by decide +kernel
theorem dX9_increment_0 : decode cX9_increment 0 = .ok (.aload_n 0, 1) := by decide +kernel
theorem dX9_increment_1 : decode cX9_increment 1 = .ok (.aload_n 0, 1) := by decide +kernel
theorem dX9_increment_2 : decode cX9_increment 2 = .ok (.aload_n 0, 1) := by decide +kernel
theorem dX9_increment_3 : decode cX9_increment 3 = .ok (.iload_n 1, 1) := by decide +kernel
theorem dX9_increment_4 : decode cX9_increment 4 = .ok (.invokevirtual 119, 3) := by decide +kernel
theorem dX9_increment_7 : decode cX9_increment 7 = .ok (.invokevirtual 192, 3) := by decide +kernel
theorem dX9_increment_10 : decode cX9_increment 10 = .ok (.putfield 81, 3) := by decide +kernel
theorem dX9_increment_13 : decode cX9_increment 13 = .ok (.aload_n 0, 1) := by decide +kernel
theorem dX9_increment_14 : decode cX9_increment 14 = .ok (.getfield 81, 3) := by decide +kernel
theorem dX9_increment_17 : decode cX9_increment 17 = .ok (.ifCond .le 7, 3) := by decide +kernel
theorem dX9_increment_20 : decode cX9_increment 20 = .ok (.iconst 0, 1) := by decide +kernel
theorem dX9_increment_21 : decode cX9_increment 21 = .ok (.goto 14, 3) := by decide +kernel
theorem dX9_increment_24 : decode cX9_increment 24 = .ok (.aload_n 0, 1) := by decide +kernel
theorem dX9_increment_25 : decode cX9_increment 25 = .ok (.getfield 36, 3) := by decide +kernel
theorem dX9_increment_28 : decode cX9_increment 28 = .ok (.aload_n 0, 1) := by decide +kernel
theorem dX9_increment_29 : decode cX9_increment 29 = .ok (.iload_n 1, 1) := by decide +kernel
theorem dX9_increment_30 : decode cX9_increment 30 = .ok (.iload_n 2, 1) := by decide +kernel
theorem dX9_increment_31 : decode cX9_increment 31 = .ok (.invokevirtual 196, 3) := by decide +kernel
theorem dX9_increment_34 : decode cX9_increment 34 = .ok (.iaload, 1) := by decide +kernel
theorem dX9_increment_35 : decode cX9_increment 35 = .ok (.ireturn, 1) := by decide +kernel
theorem dX9_chordSum_0 : decode cX9_chordSum 0 = .ok (.iconst 0, 1) := by decide +kernel
theorem dX9_chordSum_1 : decode cX9_chordSum 1 = .ok (.istore_n 2, 1) := by decide +kernel
theorem dX9_chordSum_2 : decode cX9_chordSum 2 = .ok (.iconst 0, 1) := by decide +kernel
theorem dX9_chordSum_3 : decode cX9_chordSum 3 = .ok (.istore_n 3, 1) := by decide +kernel
theorem dX9_chordSum_4 : decode cX9_chordSum 4 = .ok (.iload_n 3, 1) := by decide +kernel
theorem dX9_chordSum_5 : decode cX9_chordSum 5 = .ok (.iconst 2, 1) := by decide +kernel
theorem dX9_chordSum_6 : decode cX9_chordSum 6 = .ok (.aload_n 0, 1) := by decide +kernel
theorem dX9_chordSum_7 : decode cX9_chordSum 7 = .ok (.getfield 101, 3) := by decide +kernel
theorem dX9_chordSum_10 : decode cX9_chordSum 10 = .ok (.imul, 1) := by decide +kernel
theorem dX9_chordSum_11 : decode cX9_chordSum 11 = .ok (.if_icmp .ge 49, 3) := by decide +kernel
theorem dX9_chordSum_14 : decode cX9_chordSum 14 = .ok (.iload_n 2, 1) := by decide +kernel
theorem dX9_chordSum_15 : decode cX9_chordSum 15 = .ok (.aload_n 0, 1) := by decide +kernel
theorem dX9_chordSum_16 : decode cX9_chordSum 16 = .ok (.iload_n 3, 1) := by decide +kernel
theorem dX9_chordSum_17 : decode cX9_chordSum 17 = .ok (.invokevirtual 148, 3) := by decide +kernel
theorem dX9_chordSum_20 : decode cX9_chordSum 20 = .ok (.ifCond .eq 31, 3) := by decide +kernel
theorem dX9_chordSum_23 : decode cX9_chordSum 23 = .ok (.aload_n 0, 1) := by decide +kernel
theorem dX9_chordSum_24 : decode cX9_chordSum 24 = .ok (.getfield 39, 3) := by decide +kernel
theorem dX9_chordSum_27 : decode cX9_chordSum 27 = .ok (.iload_n 3, 1) := by decide +kernel
theorem dX9_chordSum_28 : decode cX9_chordSum 28 = .ok (.baload, 1) := by decide +kernel
theorem dX9_chordSum_29 : decode cX9_chordSum 29 = .ok (.ifCond .ne 22, 3) := by decide +kernel
theorem dX9_chordSum_32 : decode cX9_chordSum 32 = .ok (.iload_n 1, 1) := by decide +kernel
theorem dX9_chordSum_33 : decode cX9_chordSum 33 = .ok (.ifCond .eq 14, 3) := by decide +kernel
theorem dX9_chordSum_36 : decode cX9_chordSum 36 = .ok (.aload_n 0, 1) := by decide +kernel
theorem dX9_chordSum_37 : decode cX9_chordSum 37 = .ok (.getfield 20, 3) := by decide +kernel
theorem dX9_chordSum_40 : decode cX9_chordSum 40 = .ok (.iload_n 3, 1) := by decide +kernel
theorem dX9_chordSum_41 : decode cX9_chordSum 41 = .ok (.iconst 2, 1) := by decide +kernel
theorem dX9_chordSum_42 : decode cX9_chordSum 42 = .ok (.idiv, 1) := by decide +kernel
theorem dX9_chordSum_43 : decode cX9_chordSum 43 = .ok (.iaload, 1) := by decide +kernel
theorem dX9_chordSum_44 : decode cX9_chordSum 44 = .ok (.goto 8, 3) := by decide +kernel
theorem dX9_chordSum_47 : decode cX9_chordSum 47 = .ok (.iconst 1, 1) := by decide +kernel
theorem dX9_chordSum_48 : decode cX9_chordSum 48 = .ok (.goto 4, 3) := by decide +kernel
theorem dX9_chordSum_51 : decode cX9_chordSum 51 = .ok (.iconst 0, 1) := by decide +kernel
theorem dX9_chordSum_52 : decode cX9_chordSum 52 = .ok (.iadd, 1) := by decide +kernel
theorem dX9_chordSum_53 : decode cX9_chordSum 53 = .ok (.istore_n 2, 1) := by decide +kernel
theorem dX9_chordSum_54 : decode cX9_chordSum 54 = .ok (.iinc 3 1, 3) := by decide +kernel
theorem dX9_chordSum_57 : decode cX9_chordSum 57 = .ok (.goto (-53), 3) := by decide +kernel
theorem dX9_chordSum_60 : decode cX9_chordSum 60 = .ok (.iload_n 2, 1) := by decide +kernel
theorem dX9_chordSum_61 : decode cX9_chordSum 61 = .ok (.ireturn, 1) := by decide +kernel
theorem dX9_chords_0 : decode cX9_chords 0 = .ok (.aload_n 0, 1) := by decide +kernel
theorem dX9_chords_1 : decode cX9_chords 1 = .ok (.aload_n 0, 1) := by decide +kernel
theorem dX9_chords_2 : decode cX9_chords 2 = .ok (.getfield 84, 3) := by decide +kernel
theorem dX9_chords_5 : decode cX9_chords 5 = .ok (.ifCond .eq 7, 3) := by decide +kernel
theorem dX9_chords_8 : decode cX9_chords 8 = .ok (.iconst 0, 1) := by decide +kernel
theorem dX9_chords_9 : decode cX9_chords 9 = .ok (.goto 4, 3) := by decide +kernel
theorem dX9_chords_12 : decode cX9_chords 12 = .ok (.iconst 1, 1) := by decide +kernel
theorem dX9_chords_13 : decode cX9_chords 13 = .ok (.putfield 81, 3) := by decide +kernel
theorem dX9_chords_16 : decode cX9_chords 16 = .ok (.aload_n 0, 1) := by decide +kernel
theorem dX9_chords_17 : decode cX9_chords 17 = .ok (.getfield 81, 3) := by decide +kernel
theorem dX9_chords_20 : decode cX9_chords 20 = .ok (.ifCond .le 7, 3) := by decide +kernel
theorem dX9_chords_23 : decode cX9_chords 23 = .ok (.iconst 0, 1) := by decide +kernel
theorem dX9_chords_24 : decode cX9_chords 24 = .ok (.goto 8, 3) := by decide +kernel
theorem dX9_chords_27 : decode cX9_chords 27 = .ok (.aload_n 0, 1) := by decide +kernel
theorem dX9_chords_28 : decode cX9_chords 28 = .ok (.iload_n 1, 1) := by decide +kernel
theorem dX9_chords_29 : decode cX9_chords 29 = .ok (.invokevirtual 200, 3) := by decide +kernel
theorem dX9_chords_32 : decode cX9_chords 32 = .ok (.ireturn, 1) := by decide +kernel
theorem dX9_isPath_0 : decode cX9_isPath 0 = .ok (.aload_n 0, 1) := by decide +kernel
theorem dX9_isPath_1 : decode cX9_isPath 1 = .ok (.getfield 84, 3) := by decide +kernel
theorem dX9_isPath_4 : decode cX9_isPath 4 = .ok (.ifCond .eq 23, 3) := by decide +kernel
theorem dX9_isPath_7 : decode cX9_isPath 7 = .ok (.iload_n 1, 1) := by decide +kernel
theorem dX9_isPath_8 : decode cX9_isPath 8 = .ok (.iconst 0, 1) := by decide +kernel
theorem dX9_isPath_9 : decode cX9_isPath 9 = .ok (.aload_n 0, 1) := by decide +kernel
theorem dX9_isPath_10 : decode cX9_isPath 10 = .ok (.getfield 30, 3) := by decide +kernel
theorem dX9_isPath_13 : decode cX9_isPath 13 = .ok (.iconst 0, 1) := by decide +kernel
theorem dX9_isPath_14 : decode cX9_isPath 14 = .ok (.iaload, 1) := by decide +kernel
theorem dX9_isPath_15 : decode cX9_isPath 15 = .ok (.iconst 1, 1) := by decide +kernel
theorem dX9_isPath_16 : decode cX9_isPath 16 = .ok (.isub, 1) := by decide +kernel
theorem dX9_isPath_17 : decode cX9_isPath 17 = .ok (.invokestatic 97, 3) := by decide +kernel
theorem dX9_isPath_20 : decode cX9_isPath 20 = .ok (.ifCond .eq 7, 3) := by decide +kernel
theorem dX9_isPath_23 : decode cX9_isPath 23 = .ok (.iconst 1, 1) := by decide +kernel
theorem dX9_isPath_24 : decode cX9_isPath 24 = .ok (.goto 4, 3) := by decide +kernel
theorem dX9_isPath_27 : decode cX9_isPath 27 = .ok (.iconst 0, 1) := by decide +kernel
theorem dX9_isPath_28 : decode cX9_isPath 28 = .ok (.ireturn, 1) := by decide +kernel
theorem dX9_follow_0 : decode cX9_follow 0 = .ok (.aload_n 0, 1) := by decide +kernel
theorem dX9_follow_1 : decode cX9_follow 1 = .ok (.iconst 0, 1) := by decide +kernel
theorem dX9_follow_2 : decode cX9_follow 2 = .ok (.putfield 203, 3) := by decide +kernel
theorem dX9_follow_5 : decode cX9_follow 5 = .ok (.iload_n 1, 1) := by decide +kernel
theorem dX9_follow_6 : decode cX9_follow 6 = .ok (.istore_n 2, 1) := by decide +kernel
theorem dX9_follow_7 : decode cX9_follow 7 = .ok (.iconst 0, 1) := by decide +kernel
theorem dX9_follow_8 : decode cX9_follow 8 = .ok (.istore_n 3, 1) := by decide +kernel
theorem dX9_follow_9 : decode cX9_follow 9 = .ok (.iload_n 3, 1) := by decide +kernel
theorem dX9_follow_10 : decode cX9_follow 10 = .ok (.aload_n 0, 1) := by decide +kernel
theorem dX9_follow_11 : decode cX9_follow 11 = .ok (.getfield 7, 3) := by decide +kernel
theorem dX9_follow_14 : decode cX9_follow 14 = .ok (.iconst 1, 1) := by decide +kernel
theorem dX9_follow_15 : decode cX9_follow 15 = .ok (.isub, 1) := by decide +kernel
theorem dX9_follow_16 : decode cX9_follow 16 = .ok (.if_icmp .eq 87, 3) := by decide +kernel
theorem dX9_follow_19 : decode cX9_follow 19 = .ok (.aload_n 0, 1) := by decide +kernel
theorem dX9_follow_20 : decode cX9_follow 20 = .ok (.iload_n 3, 1) := by decide +kernel
theorem dX9_follow_21 : decode cX9_follow 21 = .ok (.iconst (-1), 1) := by decide +kernel
theorem dX9_follow_22 : decode cX9_follow 22 = .ok (.invokevirtual 162, 3) := by decide +kernel
theorem dX9_follow_25 : decode cX9_follow 25 = .ok (.istore 4, 2) := by decide +kernel
theorem dX9_follow_27 : decode cX9_follow 27 = .ok (.iload_n 2, 1) := by decide +kernel
theorem dX9_follow_28 : decode cX9_follow 28 = .ok (.aload_n 0, 1) := by decide +kernel
theorem dX9_follow_29 : decode cX9_follow 29 = .ok (.getfield 33, 3) := by decide +kernel
theorem dX9_follow_32 : decode cX9_follow 32 = .ok (.iload 4, 2) := by decide +kernel
theorem dX9_follow_34 : decode cX9_follow 34 = .ok (.iaload, 1) := by decide +kernel
theorem dX9_follow_35 : decode cX9_follow 35 = .ok (.aload_n 0, 1) := by decide +kernel
theorem dX9_follow_36 : decode cX9_follow 36 = .ok (.getfield 30, 3) := by decide +kernel
theorem dX9_follow_39 : decode cX9_follow 39 = .ok (.aload_n 0, 1) := by decide +kernel
theorem dX9_follow_40 : decode cX9_follow 40 = .ok (.iload 4, 2) := by decide +kernel
theorem dX9_follow_42 : decode cX9_follow 42 = .ok (.invokevirtual 165, 3) := by decide +kernel
theorem dX9_follow_45 : decode cX9_follow 45 = .ok (.iaload, 1) := by decide +kernel
theorem dX9_follow_46 : decode cX9_follow 46 = .ok (.iadd, 1) := by decide +kernel
theorem dX9_follow_47 : decode cX9_follow 47 = .ok (.if_icmp .lt 15, 3) := by decide +kernel
theorem dX9_follow_50 : decode cX9_follow 50 = .ok (.aload_n 0, 1) := by decide +kernel
theorem dX9_follow_51 : decode cX9_follow 51 = .ok (.iload_n 3, 1) := by decide +kernel
theorem dX9_follow_52 : decode cX9_follow 52 = .ok (.iload 4, 2) := by decide +kernel
theorem dX9_follow_54 : decode cX9_follow 54 = .ok (.invokevirtual 162, 3) := by decide +kernel
theorem dX9_follow_57 : decode cX9_follow 57 = .ok (.istore 4, 2) := by decide +kernel
theorem dX9_follow_59 : decode cX9_follow 59 = .ok (.goto (-32), 3) := by decide +kernel
theorem dX9_follow_62 : decode cX9_follow 62 = .ok (.iload_n 2, 1) := by decide +kernel
theorem dX9_follow_63 : decode cX9_follow 63 = .ok (.aload_n 0, 1) := by decide +kernel
theorem dX9_follow_64 : decode cX9_follow 64 = .ok (.getfield 33, 3) := by decide +kernel
theorem dX9_follow_67 : decode cX9_follow 67 = .ok (.iload 4, 2) := by decide +kernel
theorem dX9_follow_69 : decode cX9_follow 69 = .ok (.iaload, 1) := by decide +kernel
theorem dX9_follow_70 : decode cX9_follow 70 = .ok (.isub, 1) := by decide +kernel
theorem dX9_follow_71 : decode cX9_follow 71 = .ok (.istore_n 2, 1) := by decide +kernel
theorem dX9_follow_72 : decode cX9_follow 72 = .ok (.aload_n 0, 1) := by decide +kernel
theorem dX9_follow_73 : decode cX9_follow 73 = .ok (.getfield 78, 3) := by decide +kernel
theorem dX9_follow_76 : decode cX9_follow 76 = .ok (.aload_n 0, 1) := by decide +kernel
theorem dX9_follow_77 : decode cX9_follow 77 = .ok (.getfield 203, 3) := by decide +kernel
theorem dX9_follow_80 : decode cX9_follow 80 = .ok (.iload 4, 2) := by decide +kernel
theorem dX9_follow_82 : decode cX9_follow 82 = .ok (.iastore, 1) := by decide +kernel
theorem dX9_follow_83 : decode cX9_follow 83 = .ok (.aload_n 0, 1) := by decide +kernel
theorem dX9_follow_84 : decode cX9_follow 84 = .ok (.dup, 1) := by decide +kernel
theorem dX9_follow_85 : decode cX9_follow 85 = .ok (.getfield 203, 3) := by decide +kernel
theorem dX9_follow_88 : decode cX9_follow 88 = .ok (.iconst 1, 1) := by decide +kernel
theorem dX9_follow_89 : decode cX9_follow 89 = .ok (.iadd, 1) := by decide +kernel
theorem dX9_follow_90 : decode cX9_follow 90 = .ok (.putfield 203, 3) := by decide +kernel
theorem dX9_follow_93 : decode cX9_follow 93 = .ok (.aload_n 0, 1) := by decide +kernel
theorem dX9_follow_94 : decode cX9_follow 94 = .ok (.iload 4, 2) := by decide +kernel
theorem dX9_follow_96 : decode cX9_follow 96 = .ok (.invokevirtual 165, 3) := by decide +kernel
theorem dX9_follow_99 : decode cX9_follow 99 = .ok (.istore_n 3, 1) := by decide +kernel
theorem dX9_follow_100 : decode cX9_follow 100 = .ok (.goto (-91), 3) := by decide +kernel
theorem dX9_follow_103 : decode cX9_follow 103 = .ok (.return_, 1) := by decide +kernel
theorem dX9_beginsInside_0 : decode cX9_beginsInside 0 = .ok (.aload_n 0, 1) := by decide +kernel
theorem dX9_beginsInside_1 : decode cX9_beginsInside 1 = .ok (.aload_n 0, 1) := by decide +kernel
theorem dX9_beginsInside_2 : decode cX9_beginsInside 2 = .ok (.getfield 78, 3) := by decide +kernel
theorem dX9_beginsInside_5 : decode cX9_beginsInside 5 = .ok (.iconst 0, 1) := by decide +kernel
theorem dX9_beginsInside_6 : decode cX9_beginsInside 6 = .ok (.iaload, 1) := by decide +kernel
theorem dX9_beginsInside_7 : decode cX9_beginsInside 7 = .ok (.invokevirtual 159, 3) := by decide +kernel
theorem dX9_beginsInside_10 : decode cX9_beginsInside 10 = .ok (.iconst 2, 1) := by decide +kernel
theorem dX9_beginsInside_11 : decode cX9_beginsInside 11 = .ok (.if_icmp .ne 7, 3) := by decide +kernel
theorem dX9_beginsInside_14 : decode cX9_beginsInside 14 = .ok (.iconst 1, 1) := by decide +kernel
theorem dX9_beginsInside_15 : decode cX9_beginsInside 15 = .ok (.goto 4, 3) := by decide +kernel
theorem dX9_beginsInside_18 : decode cX9_beginsInside 18 = .ok (.iconst 0, 1) := by decide +kernel
theorem dX9_beginsInside_19 : decode cX9_beginsInside 19 = .ok (.ireturn, 1) := by decide +kernel
theorem dX9_endsInside_0 : decode cX9_endsInside 0 = .ok (.aload_n 0, 1) := by decide +kernel
theorem dX9_endsInside_1 : decode cX9_endsInside 1 = .ok (.aload_n 0, 1) := by decide +kernel
theorem dX9_endsInside_2 : decode cX9_endsInside 2 = .ok (.getfield 78, 3) := by decide +kernel
theorem dX9_endsInside_5 : decode cX9_endsInside 5 = .ok (.aload_n 0, 1) := by decide +kernel
theorem dX9_endsInside_6 : decode cX9_endsInside 6 = .ok (.getfield 203, 3) := by decide +kernel
theorem dX9_endsInside_9 : decode cX9_endsInside 9 = .ok (.iconst 1, 1) := by decide +kernel
theorem dX9_endsInside_10 : decode cX9_endsInside 10 = .ok (.isub, 1) := by decide +kernel
theorem dX9_endsInside_11 : decode cX9_endsInside 11 = .ok (.iaload, 1) := by decide +kernel
theorem dX9_endsInside_12 : decode cX9_endsInside 12 = .ok (.invokevirtual 159, 3) := by decide +kernel
theorem dX9_endsInside_15 : decode cX9_endsInside 15 = .ok (.iconst 1, 1) := by decide +kernel
theorem dX9_endsInside_16 : decode cX9_endsInside 16 = .ok (.if_icmp .ne 7, 3) := by decide +kernel
theorem dX9_endsInside_19 : decode cX9_endsInside 19 = .ok (.iconst 1, 1) := by decide +kernel
theorem dX9_endsInside_20 : decode cX9_endsInside 20 = .ok (.goto 4, 3) := by decide +kernel
theorem dX9_endsInside_23 : decode cX9_endsInside 23 = .ok (.iconst 0, 1) := by decide +kernel
theorem dX9_endsInside_24 : decode cX9_endsInside 24 = .ok (.ireturn, 1) := by decide +kernel
theorem dX9_visited_0 : decode cX9_visited 0 = .ok (.aload_n 0, 1) := by decide +kernel
theorem dX9_visited_1 : decode cX9_visited 1 = .ok (.getfield 203, 3) := by decide +kernel
theorem dX9_visited_4 : decode cX9_visited 4 = .ok (.iconst 1, 1) := by decide +kernel
theorem dX9_visited_5 : decode cX9_visited 5 = .ok (.iadd, 1) := by decide +kernel
theorem dX9_visited_6 : decode cX9_visited 6 = .ok (.aload_n 0, 1) := by decide +kernel
theorem dX9_visited_7 : decode cX9_visited 7 = .ok (.invokevirtual 206, 3) := by decide +kernel
theorem dX9_visited_10 : decode cX9_visited 10 = .ok (.ifCond .eq 7, 3) := by decide +kernel
theorem dX9_visited_13 : decode cX9_visited 13 = .ok (.iconst 1, 1) := by decide +kernel
theorem dX9_visited_14 : decode cX9_visited 14 = .ok (.goto 4, 3) := by decide +kernel
theorem dX9_visited_17 : decode cX9_visited 17 = .ok (.iconst 0, 1) := by decide +kernel
theorem dX9_visited_18 : decode cX9_visited 18 = .ok (.isub, 1) := by decide +kernel
theorem dX9_visited_19 : decode cX9_visited 19 = .ok (.aload_n 0, 1) := by decide +kernel
theorem dX9_visited_20 : decode cX9_visited 20 = .ok (.invokevirtual 209, 3) := by decide +kernel
theorem dX9_visited_23 : decode cX9_visited 23 = .ok (.ifCond .eq 7, 3) := by decide +kernel
theorem dX9_visited_26 : decode cX9_visited 26 = .ok (.iconst 1, 1) := by decide +kernel
theorem dX9_visited_27 : decode cX9_visited 27 = .ok (.goto 4, 3) := by decide +kernel
theorem dX9_visited_30 : decode cX9_visited 30 = .ok (.iconst 0, 1) := by decide +kernel
theorem dX9_visited_31 : decode cX9_visited 31 = .ok (.isub, 1) := by decide +kernel
theorem dX9_visited_32 : decode cX9_visited 32 = .ok (.ireturn, 1) := by decide +kernel
theorem dX9_visitedNode_0 : decode cX9_visitedNode 0 = .ok (.aload_n 0, 1) := by decide +kernel
theorem dX9_visitedNode_1 : decode cX9_visitedNode 1 = .ok (.invokevirtual 206, 3) := by decide +kernel
theorem dX9_visitedNode_4 : decode cX9_visitedNode 4 = .ok (.ifCond .eq 9, 3) := by decide +kernel
theorem dX9_visitedNode_7 : decode cX9_visitedNode 7 = .ok (.iload_n 1, 1) := by decide +kernel
theorem dX9_visitedNode_8 : decode cX9_visitedNode 8 = .ok (.iconst 1, 1) := by decide +kernel
theorem dX9_visitedNode_9 : decode cX9_visitedNode 9 = .ok (.iadd, 1) := by decide +kernel
theorem dX9_visitedNode_10 : decode cX9_visitedNode 10 = .ok (.goto 4, 3) := by decide +kernel
theorem dX9_visitedNode_13 : decode cX9_visitedNode 13 = .ok (.iload_n 1, 1) := by decide +kernel
theorem dX9_visitedNode_14 : decode cX9_visitedNode 14 = .ok (.istore_n 2, 1) := by decide +kernel
theorem dX9_visitedNode_15 : decode cX9_visitedNode 15 = .ok (.iload_n 2, 1) := by decide +kernel
theorem dX9_visitedNode_16 : decode cX9_visitedNode 16 = .ok (.ifCond .ne 7, 3) := by decide +kernel
theorem dX9_visitedNode_19 : decode cX9_visitedNode 19 = .ok (.iconst 0, 1) := by decide +kernel
theorem dX9_visitedNode_20 : decode cX9_visitedNode 20 = .ok (.goto 15, 3) := by decide +kernel
theorem dX9_visitedNode_23 : decode cX9_visitedNode 23 = .ok (.aload_n 0, 1) := by decide +kernel
theorem dX9_visitedNode_24 : decode cX9_visitedNode 24 = .ok (.aload_n 0, 1) := by decide +kernel
theorem dX9_visitedNode_25 : decode cX9_visitedNode 25 = .ok (.getfield 78, 3) := by decide +kernel
theorem dX9_visitedNode_28 : decode cX9_visitedNode 28 = .ok (.iload_n 2, 1) := by decide +kernel
theorem dX9_visitedNode_29 : decode cX9_visitedNode 29 = .ok (.iconst 1, 1) := by decide +kernel
theorem dX9_visitedNode_30 : decode cX9_visitedNode 30 = .ok (.isub, 1) := by decide +kernel
theorem dX9_visitedNode_31 : decode cX9_visitedNode 31 = .ok (.iaload, 1) := by decide +kernel
theorem dX9_visitedNode_32 : decode cX9_visitedNode 32 = .ok (.invokevirtual 165, 3) := by decide +kernel
theorem dX9_visitedNode_35 : decode cX9_visitedNode 35 = .ok (.ireturn, 1) := by decide +kernel
theorem dX9_lengthNow_0 : decode cX9_lengthNow 0 = .ok (.aload_n 0, 1) := by decide +kernel
theorem dX9_lengthNow_1 : decode cX9_lengthNow 1 = .ok (.iload_n 1, 1) := by decide +kernel
theorem dX9_lengthNow_2 : decode cX9_lengthNow 2 = .ok (.invokevirtual 212, 3) := by decide +kernel
theorem dX9_lengthNow_5 : decode cX9_lengthNow 5 = .ok (.aload_n 0, 1) := by decide +kernel
theorem dX9_lengthNow_6 : decode cX9_lengthNow 6 = .ok (.invokevirtual 216, 3) := by decide +kernel
theorem dX9_lengthNow_9 : decode cX9_lengthNow 9 = .ok (.ireturn, 1) := by decide +kernel
theorem dX9_pathLength_0 : decode cX9_pathLength 0 = .ok (.aload_n 0, 1) := by decide +kernel
theorem dX9_pathLength_1 : decode cX9_pathLength 1 = .ok (.aload_n 0, 1) := by decide +kernel
theorem dX9_pathLength_2 : decode cX9_pathLength 2 = .ok (.aload_n 0, 1) := by decide +kernel
theorem dX9_pathLength_3 : decode cX9_pathLength 3 = .ok (.iload_n 1, 1) := by decide +kernel
theorem dX9_pathLength_4 : decode cX9_pathLength 4 = .ok (.invokevirtual 219, 3) := by decide +kernel
theorem dX9_pathLength_7 : decode cX9_pathLength 7 = .ok (.invokevirtual 192, 3) := by decide +kernel
theorem dX9_pathLength_10 : decode cX9_pathLength 10 = .ok (.putfield 81, 3) := by decide +kernel
theorem dX9_pathLength_13 : decode cX9_pathLength 13 = .ok (.aload_n 0, 1) := by decide +kernel
theorem dX9_pathLength_14 : decode cX9_pathLength 14 = .ok (.getfield 81, 3) := by decide +kernel
theorem dX9_pathLength_17 : decode cX9_pathLength 17 = .ok (.ifCond .le 7, 3) := by decide +kernel
theorem dX9_pathLength_20 : decode cX9_pathLength 20 = .ok (.iconst 0, 1) := by decide +kernel
theorem dX9_pathLength_21 : decode cX9_pathLength 21 = .ok (.goto 8, 3) := by decide +kernel
theorem dX9_pathLength_24 : decode cX9_pathLength 24 = .ok (.aload_n 0, 1) := by decide +kernel
theorem dX9_pathLength_25 : decode cX9_pathLength 25 = .ok (.iload_n 1, 1) := by decide +kernel
theorem dX9_pathLength_26 : decode cX9_pathLength 26 = .ok (.invokevirtual 222, 3) := by decide +kernel
theorem dX9_pathLength_29 : decode cX9_pathLength 29 = .ok (.ireturn, 1) := by decide +kernel
theorem dX9_pathNode_0 : decode cX9_pathNode 0 = .ok (.aload_n 0, 1) := by decide +kernel
theorem dX9_pathNode_1 : decode cX9_pathNode 1 = .ok (.aload_n 0, 1) := by decide +kernel
theorem dX9_pathNode_2 : decode cX9_pathNode 2 = .ok (.aload_n 0, 1) := by decide +kernel
theorem dX9_pathNode_3 : decode cX9_pathNode 3 = .ok (.iload_n 1, 1) := by decide +kernel
theorem dX9_pathNode_4 : decode cX9_pathNode 4 = .ok (.invokevirtual 219, 3) := by decide +kernel
theorem dX9_pathNode_7 : decode cX9_pathNode 7 = .ok (.ifCond .eq 22, 3) := by decide +kernel
theorem dX9_pathNode_10 : decode cX9_pathNode 10 = .ok (.iload_n 2, 1) := by decide +kernel
theorem dX9_pathNode_11 : decode cX9_pathNode 11 = .ok (.iconst 0, 1) := by decide +kernel
theorem dX9_pathNode_12 : decode cX9_pathNode 12 = .ok (.aload_n 0, 1) := by decide +kernel
theorem dX9_pathNode_13 : decode cX9_pathNode 13 = .ok (.iload_n 1, 1) := by decide +kernel
theorem dX9_pathNode_14 : decode cX9_pathNode 14 = .ok (.invokevirtual 222, 3) := by decide +kernel
theorem dX9_pathNode_17 : decode cX9_pathNode 17 = .ok (.iconst 1, 1) := by decide +kernel
theorem dX9_pathNode_18 : decode cX9_pathNode 18 = .ok (.isub, 1) := by decide +kernel
theorem dX9_pathNode_19 : decode cX9_pathNode 19 = .ok (.invokestatic 97, 3) := by decide +kernel
theorem dX9_pathNode_22 : decode cX9_pathNode 22 = .ok (.ifCond .eq 7, 3) := by decide +kernel
theorem dX9_pathNode_25 : decode cX9_pathNode 25 = .ok (.iconst 1, 1) := by decide +kernel
theorem dX9_pathNode_26 : decode cX9_pathNode 26 = .ok (.goto 4, 3) := by decide +kernel
theorem dX9_pathNode_29 : decode cX9_pathNode 29 = .ok (.iconst 0, 1) := by decide +kernel
theorem dX9_pathNode_30 : decode cX9_pathNode 30 = .ok (.invokevirtual 192, 3) := by decide +kernel
theorem dX9_pathNode_33 : decode cX9_pathNode 33 = .ok (.putfield 81, 3) := by decide +kernel
theorem dX9_pathNode_36 : decode cX9_pathNode 36 = .ok (.aload_n 0, 1) := by decide +kernel
theorem dX9_pathNode_37 : decode cX9_pathNode 37 = .ok (.getfield 81, 3) := by decide +kernel
theorem dX9_pathNode_40 : decode cX9_pathNode 40 = .ok (.ifCond .le 7, 3) := by decide +kernel
theorem dX9_pathNode_43 : decode cX9_pathNode 43 = .ok (.iconst 0, 1) := by decide +kernel
theorem dX9_pathNode_44 : decode cX9_pathNode 44 = .ok (.goto 8, 3) := by decide +kernel
theorem dX9_pathNode_47 : decode cX9_pathNode 47 = .ok (.aload_n 0, 1) := by decide +kernel
theorem dX9_pathNode_48 : decode cX9_pathNode 48 = .ok (.iload_n 2, 1) := by decide +kernel
theorem dX9_pathNode_49 : decode cX9_pathNode 49 = .ok (.invokevirtual 225, 3) := by decide +kernel
theorem dX9_pathNode_52 : decode cX9_pathNode 52 = .ok (.ireturn, 1) := by decide +kernel
theorem dX9_edgeNow_0 : decode cX9_edgeNow 0 = .ok (.aload_n 0, 1) := by decide +kernel
theorem dX9_edgeNow_1 : decode cX9_edgeNow 1 = .ok (.iload_n 1, 1) := by decide +kernel
theorem dX9_edgeNow_2 : decode cX9_edgeNow 2 = .ok (.invokevirtual 212, 3) := by decide +kernel
theorem dX9_edgeNow_5 : decode cX9_edgeNow 5 = .ok (.iload_n 2, 1) := by decide +kernel
theorem dX9_edgeNow_6 : decode cX9_edgeNow 6 = .ok (.ifCond .eq 28, 3) := by decide +kernel
theorem dX9_edgeNow_9 : decode cX9_edgeNow 9 = .ok (.aload_n 0, 1) := by decide +kernel
theorem dX9_edgeNow_10 : decode cX9_edgeNow 10 = .ok (.invokevirtual 209, 3) := by decide +kernel
theorem dX9_edgeNow_13 : decode cX9_edgeNow 13 = .ok (.ifCond .eq 19, 3) := by decide +kernel
theorem dX9_edgeNow_16 : decode cX9_edgeNow 16 = .ok (.aload_n 0, 1) := by decide +kernel
theorem dX9_edgeNow_17 : decode cX9_edgeNow 17 = .ok (.getfield 78, 3) := by decide +kernel
theorem dX9_edgeNow_20 : decode cX9_edgeNow 20 = .ok (.aload_n 0, 1) := by decide +kernel
theorem dX9_edgeNow_21 : decode cX9_edgeNow 21 = .ok (.getfield 203, 3) := by decide +kernel
theorem dX9_edgeNow_24 : decode cX9_edgeNow 24 = .ok (.iconst 1, 1) := by decide +kernel
theorem dX9_edgeNow_25 : decode cX9_edgeNow 25 = .ok (.isub, 1) := by decide +kernel
theorem dX9_edgeNow_26 : decode cX9_edgeNow 26 = .ok (.iaload, 1) := by decide +kernel
theorem dX9_edgeNow_27 : decode cX9_edgeNow 27 = .ok (.iconst 2, 1) := by decide +kernel
theorem dX9_edgeNow_28 : decode cX9_edgeNow 28 = .ok (.idiv, 1) := by decide +kernel
theorem dX9_edgeNow_29 : decode cX9_edgeNow 29 = .ok (.goto 4, 3) := by decide +kernel
theorem dX9_edgeNow_32 : decode cX9_edgeNow 32 = .ok (.iconst (-1), 1) := by decide +kernel
theorem dX9_edgeNow_33 : decode cX9_edgeNow 33 = .ok (.ireturn, 1) := by decide +kernel
theorem dX9_edgeNow_34 : decode cX9_edgeNow 34 = .ok (.aload_n 0, 1) := by decide +kernel
theorem dX9_edgeNow_35 : decode cX9_edgeNow 35 = .ok (.invokevirtual 206, 3) := by decide +kernel
theorem dX9_edgeNow_38 : decode cX9_edgeNow 38 = .ok (.ifCond .eq 14, 3) := by decide +kernel
theorem dX9_edgeNow_41 : decode cX9_edgeNow 41 = .ok (.aload_n 0, 1) := by decide +kernel
theorem dX9_edgeNow_42 : decode cX9_edgeNow 42 = .ok (.getfield 78, 3) := by decide +kernel
theorem dX9_edgeNow_45 : decode cX9_edgeNow 45 = .ok (.iconst 0, 1) := by decide +kernel
theorem dX9_edgeNow_46 : decode cX9_edgeNow 46 = .ok (.iaload, 1) := by decide +kernel
theorem dX9_edgeNow_47 : decode cX9_edgeNow 47 = .ok (.iconst 2, 1) := by decide +kernel
theorem dX9_edgeNow_48 : decode cX9_edgeNow 48 = .ok (.idiv, 1) := by decide +kernel
theorem dX9_edgeNow_49 : decode cX9_edgeNow 49 = .ok (.goto 4, 3) := by decide +kernel
theorem dX9_edgeNow_52 : decode cX9_edgeNow 52 = .ok (.iconst (-1), 1) := by decide +kernel
theorem dX9_edgeNow_53 : decode cX9_edgeNow 53 = .ok (.ireturn, 1) := by decide +kernel
theorem dX9_pathEdge_0 : decode cX9_pathEdge 0 = .ok (.aload_n 0, 1) := by decide +kernel
theorem dX9_pathEdge_1 : decode cX9_pathEdge 1 = .ok (.aload_n 0, 1) := by decide +kernel
theorem dX9_pathEdge_2 : decode cX9_pathEdge 2 = .ok (.aload_n 0, 1) := by decide +kernel
theorem dX9_pathEdge_3 : decode cX9_pathEdge 3 = .ok (.iload_n 1, 1) := by decide +kernel
theorem dX9_pathEdge_4 : decode cX9_pathEdge 4 = .ok (.invokevirtual 219, 3) := by decide +kernel
theorem dX9_pathEdge_7 : decode cX9_pathEdge 7 = .ok (.invokevirtual 192, 3) := by decide +kernel
theorem dX9_pathEdge_10 : decode cX9_pathEdge 10 = .ok (.putfield 81, 3) := by decide +kernel
theorem dX9_pathEdge_13 : decode cX9_pathEdge 13 = .ok (.aload_n 0, 1) := by decide +kernel
theorem dX9_pathEdge_14 : decode cX9_pathEdge 14 = .ok (.getfield 81, 3) := by decide +kernel
theorem dX9_pathEdge_17 : decode cX9_pathEdge 17 = .ok (.ifCond .le 7, 3) := by decide +kernel
theorem dX9_pathEdge_20 : decode cX9_pathEdge 20 = .ok (.iconst 0, 1) := by decide +kernel
theorem dX9_pathEdge_21 : decode cX9_pathEdge 21 = .ok (.goto 9, 3) := by decide +kernel
theorem dX9_pathEdge_24 : decode cX9_pathEdge 24 = .ok (.aload_n 0, 1) := by decide +kernel
theorem dX9_pathEdge_25 : decode cX9_pathEdge 25 = .ok (.iload_n 1, 1) := by decide +kernel
theorem dX9_pathEdge_26 : decode cX9_pathEdge 26 = .ok (.iload_n 2, 1) := by decide +kernel
theorem dX9_pathEdge_27 : decode cX9_pathEdge 27 = .ok (.invokevirtual 228, 3) := by decide +kernel
theorem dX9_pathEdge_30 : decode cX9_pathEdge 30 = .ok (.ireturn, 1) := by decide +kernel
theorem dX9_leastValue_0 : decode cX9_leastValue 0 = .ok (.iconst (-1), 1) := by decide +kernel
theorem dX9_leastValue_1 : decode cX9_leastValue 1 = .ok (.istore_n 3, 1) := by decide +kernel
theorem dX9_leastValue_2 : decode cX9_leastValue 2 = .ok (.iconst 0, 1) := by decide +kernel
theorem dX9_leastValue_3 : decode cX9_leastValue 3 = .ok (.istore 4, 2) := by decide +kernel
theorem dX9_leastValue_5 : decode cX9_leastValue 5 = .ok (.iload 4, 2) := by decide +kernel
theorem dX9_leastValue_7 : decode cX9_leastValue 7 = .ok (.iconst 2, 1) := by decide +kernel
theorem dX9_leastValue_8 : decode cX9_leastValue 8 = .ok (.aload_n 0, 1) := by decide +kernel
theorem dX9_leastValue_9 : decode cX9_leastValue 9 = .ok (.getfield 101, 3) := by decide +kernel
theorem dX9_leastValue_12 : decode cX9_leastValue 12 = .ok (.imul, 1) := by decide +kernel
theorem dX9_leastValue_13 : decode cX9_leastValue 13 = .ok (.if_icmp .ge 96, 3) := by decide +kernel
theorem dX9_leastValue_16 : decode cX9_leastValue 16 = .ok (.aload_n 0, 1) := by decide +kernel
theorem dX9_leastValue_17 : decode cX9_leastValue 17 = .ok (.iload 4, 2) := by decide +kernel
theorem dX9_leastValue_19 : decode cX9_leastValue 19 = .ok (.invokevirtual 148, 3) := by decide +kernel
theorem dX9_leastValue_22 : decode cX9_leastValue 22 = .ok (.ifCond .eq 45, 3) := by decide +kernel
theorem dX9_leastValue_25 : decode cX9_leastValue 25 = .ok (.aload_n 0, 1) := by decide +kernel
theorem dX9_leastValue_26 : decode cX9_leastValue 26 = .ok (.iload 4, 2) := by decide +kernel
theorem dX9_leastValue_28 : decode cX9_leastValue 28 = .ok (.invokevirtual 159, 3) := by decide +kernel
theorem dX9_leastValue_31 : decode cX9_leastValue 31 = .ok (.iload_n 2, 1) := by decide +kernel
theorem dX9_leastValue_32 : decode cX9_leastValue 32 = .ok (.if_icmp .ne 35, 3) := by decide +kernel
theorem dX9_leastValue_35 : decode cX9_leastValue 35 = .ok (.iload_n 2, 1) := by decide +kernel
theorem dX9_leastValue_36 : decode cX9_leastValue 36 = .ok (.iconst 2, 1) := by decide +kernel
theorem dX9_leastValue_37 : decode cX9_leastValue 37 = .ok (.if_icmp .ne 16, 3) := by decide +kernel
theorem dX9_leastValue_40 : decode cX9_leastValue 40 = .ok (.aload_n 0, 1) := by decide +kernel
theorem dX9_leastValue_41 : decode cX9_leastValue 41 = .ok (.iload 4, 2) := by decide +kernel
theorem dX9_leastValue_43 : decode cX9_leastValue 43 = .ok (.invokevirtual 165, 3) := by decide +kernel
theorem dX9_leastValue_46 : decode cX9_leastValue 46 = .ok (.iload_n 1, 1) := by decide +kernel
theorem dX9_leastValue_47 : decode cX9_leastValue 47 = .ok (.if_icmp .ne 20, 3) := by decide +kernel
theorem dX9_leastValue_50 : decode cX9_leastValue 50 = .ok (.goto 13, 3) := by decide +kernel
theorem dX9_leastValue_53 : decode cX9_leastValue 53 = .ok (.aload_n 0, 1) := by decide +kernel
theorem dX9_leastValue_54 : decode cX9_leastValue 54 = .ok (.iload 4, 2) := by decide +kernel
theorem dX9_leastValue_56 : decode cX9_leastValue 56 = .ok (.invokevirtual 151, 3) := by decide +kernel
theorem dX9_leastValue_59 : decode cX9_leastValue 59 = .ok (.iload_n 1, 1) := by decide +kernel
theorem dX9_leastValue_60 : decode cX9_leastValue 60 = .ok (.if_icmp .ne 7, 3) := by decide +kernel
theorem dX9_leastValue_63 : decode cX9_leastValue 63 = .ok (.iconst 1, 1) := by decide +kernel
theorem dX9_leastValue_64 : decode cX9_leastValue 64 = .ok (.goto 4, 3) := by decide +kernel
theorem dX9_leastValue_67 : decode cX9_leastValue 67 = .ok (.iconst 0, 1) := by decide +kernel
theorem dX9_leastValue_68 : decode cX9_leastValue 68 = .ok (.istore 5, 2) := by decide +kernel
theorem dX9_leastValue_70 : decode cX9_leastValue 70 = .ok (.iload 5, 2) := by decide +kernel
theorem dX9_leastValue_72 : decode cX9_leastValue 72 = .ok (.ifCond .eq 29, 3) := by decide +kernel
theorem dX9_leastValue_75 : decode cX9_leastValue 75 = .ok (.iload_n 3, 1) := by decide +kernel
theorem dX9_leastValue_76 : decode cX9_leastValue 76 = .ok (.iconst (-1), 1) := by decide +kernel
theorem dX9_leastValue_77 : decode cX9_leastValue 77 = .ok (.if_icmp .eq 14, 3) := by decide +kernel
theorem dX9_leastValue_80 : decode cX9_leastValue 80 = .ok (.aload_n 0, 1) := by decide +kernel
theorem dX9_leastValue_81 : decode cX9_leastValue 81 = .ok (.getfield 33, 3) := by decide +kernel
theorem dX9_leastValue_84 : decode cX9_leastValue 84 = .ok (.iload 4, 2) := by decide +kernel
theorem dX9_leastValue_86 : decode cX9_leastValue 86 = .ok (.iaload, 1) := by decide +kernel
theorem dX9_leastValue_87 : decode cX9_leastValue 87 = .ok (.iload_n 3, 1) := by decide +kernel
theorem dX9_leastValue_88 : decode cX9_leastValue 88 = .ok (.if_icmp .ge 13, 3) := by decide +kernel
theorem dX9_leastValue_91 : decode cX9_leastValue 91 = .ok (.aload_n 0, 1) := by decide +kernel
theorem dX9_leastValue_92 : decode cX9_leastValue 92 = .ok (.getfield 33, 3) := by decide +kernel
theorem dX9_leastValue_95 : decode cX9_leastValue 95 = .ok (.iload 4, 2) := by decide +kernel
theorem dX9_leastValue_97 : decode cX9_leastValue 97 = .ok (.iaload, 1) := by decide +kernel
theorem dX9_leastValue_98 : decode cX9_leastValue 98 = .ok (.goto 4, 3) := by decide +kernel
theorem dX9_leastValue_101 : decode cX9_leastValue 101 = .ok (.iload_n 3, 1) := by decide +kernel
theorem dX9_leastValue_102 : decode cX9_leastValue 102 = .ok (.istore_n 3, 1) := by decide +kernel
theorem dX9_leastValue_103 : decode cX9_leastValue 103 = .ok (.iinc 4 1, 3) := by decide +kernel
theorem dX9_leastValue_106 : decode cX9_leastValue 106 = .ok (.goto (-101), 3) := by decide +kernel
theorem dX9_leastValue_109 : decode cX9_leastValue 109 = .ok (.iload_n 3, 1) := by decide +kernel
theorem dX9_leastValue_110 : decode cX9_leastValue 110 = .ok (.ireturn, 1) := by decide +kernel
theorem dX9_findNow_0 : decode cX9_findNow 0 = .ok (.aload_n 0, 1) := by decide +kernel
theorem dX9_findNow_1 : decode cX9_findNow 1 = .ok (.getfield 122, 3) := by decide +kernel
theorem dX9_findNow_4 : decode cX9_findNow 4 = .ok (.ifCond .le 7, 3) := by decide +kernel
theorem dX9_findNow_7 : decode cX9_findNow 7 = .ok (.iconst 1, 1) := by decide +kernel
theorem dX9_findNow_8 : decode cX9_findNow 8 = .ok (.goto 4, 3) := by decide +kernel
theorem dX9_findNow_11 : decode cX9_findNow 11 = .ok (.iconst 0, 1) := by decide +kernel
theorem dX9_findNow_12 : decode cX9_findNow 12 = .ok (.istore_n 1, 1) := by decide +kernel
theorem dX9_findNow_13 : decode cX9_findNow 13 = .ok (.iconst 0, 1) := by decide +kernel
theorem dX9_findNow_14 : decode cX9_findNow 14 = .ok (.istore_n 2, 1) := by decide +kernel
theorem dX9_findNow_15 : decode cX9_findNow 15 = .ok (.iload_n 2, 1) := by decide +kernel
theorem dX9_findNow_16 : decode cX9_findNow 16 = .ok (.aload_n 0, 1) := by decide +kernel
theorem dX9_findNow_17 : decode cX9_findNow 17 = .ok (.getfield 122, 3) := by decide +kernel
theorem dX9_findNow_20 : decode cX9_findNow 20 = .ok (.if_icmp .ge 35, 3) := by decide +kernel
theorem dX9_findNow_23 : decode cX9_findNow 23 = .ok (.iload_n 1, 1) := by decide +kernel
theorem dX9_findNow_24 : decode cX9_findNow 24 = .ok (.ifCond .eq 23, 3) := by decide +kernel
theorem dX9_findNow_27 : decode cX9_findNow 27 = .ok (.aload_n 0, 1) := by decide +kernel
theorem dX9_findNow_28 : decode cX9_findNow 28 = .ok (.aload_n 0, 1) := by decide +kernel
theorem dX9_findNow_29 : decode cX9_findNow 29 = .ok (.getfield 23, 3) := by decide +kernel
theorem dX9_findNow_32 : decode cX9_findNow 32 = .ok (.iload_n 2, 1) := by decide +kernel
theorem dX9_findNow_33 : decode cX9_findNow 33 = .ok (.iaload, 1) := by decide +kernel
theorem dX9_findNow_34 : decode cX9_findNow 34 = .ok (.bipush 97, 2) := by decide +kernel
theorem dX9_findNow_36 : decode cX9_findNow 36 = .ok (.isub, 1) := by decide +kernel
theorem dX9_findNow_37 : decode cX9_findNow 37 = .ok (.invokevirtual 107, 3) := by decide +kernel
theorem dX9_findNow_40 : decode cX9_findNow 40 = .ok (.ifCond .eq 7, 3) := by decide +kernel
theorem dX9_findNow_43 : decode cX9_findNow 43 = .ok (.iconst 1, 1) := by decide +kernel
theorem dX9_findNow_44 : decode cX9_findNow 44 = .ok (.goto 4, 3) := by decide +kernel
theorem dX9_findNow_47 : decode cX9_findNow 47 = .ok (.iconst 0, 1) := by decide +kernel
theorem dX9_findNow_48 : decode cX9_findNow 48 = .ok (.istore_n 1, 1) := by decide +kernel
theorem dX9_findNow_49 : decode cX9_findNow 49 = .ok (.iinc 2 1, 3) := by decide +kernel
theorem dX9_findNow_52 : decode cX9_findNow 52 = .ok (.goto (-37), 3) := by decide +kernel
theorem dX9_findNow_55 : decode cX9_findNow 55 = .ok (.iload_n 1, 1) := by decide +kernel
theorem dX9_findNow_56 : decode cX9_findNow 56 = .ok (.ifCond .ne 5, 3) := by decide +kernel
theorem dX9_findNow_59 : decode cX9_findNow 59 = .ok (.iconst (-1), 1) := by decide +kernel
theorem dX9_findNow_60 : decode cX9_findNow 60 = .ok (.ireturn, 1) := by decide +kernel
theorem dX9_findNow_61 : decode cX9_findNow 61 = .ok (.aload_n 0, 1) := by decide +kernel
theorem dX9_findNow_62 : decode cX9_findNow 62 = .ok (.getfield 23, 3) := by decide +kernel
theorem dX9_findNow_65 : decode cX9_findNow 65 = .ok (.iconst 0, 1) := by decide +kernel
theorem dX9_findNow_66 : decode cX9_findNow 66 = .ok (.iaload, 1) := by decide +kernel
theorem dX9_findNow_67 : decode cX9_findNow 67 = .ok (.bipush 97, 2) := by decide +kernel
theorem dX9_findNow_69 : decode cX9_findNow 69 = .ok (.isub, 1) := by decide +kernel
theorem dX9_findNow_70 : decode cX9_findNow 70 = .ok (.istore_n 2, 1) := by decide +kernel
theorem dX9_findNow_71 : decode cX9_findNow 71 = .ok (.aload_n 0, 1) := by decide +kernel
theorem dX9_findNow_72 : decode cX9_findNow 72 = .ok (.getfield 23, 3) := by decide +kernel
theorem dX9_findNow_75 : decode cX9_findNow 75 = .ok (.aload_n 0, 1) := by decide +kernel
theorem dX9_findNow_76 : decode cX9_findNow 76 = .ok (.getfield 122, 3) := by decide +kernel
theorem dX9_findNow_79 : decode cX9_findNow 79 = .ok (.iconst 1, 1) := by decide +kernel
theorem dX9_findNow_80 : decode cX9_findNow 80 = .ok (.isub, 1) := by decide +kernel
theorem dX9_findNow_81 : decode cX9_findNow 81 = .ok (.iaload, 1) := by decide +kernel
theorem dX9_findNow_82 : decode cX9_findNow 82 = .ok (.bipush 97, 2) := by decide +kernel
theorem dX9_findNow_84 : decode cX9_findNow 84 = .ok (.isub, 1) := by decide +kernel
theorem dX9_findNow_85 : decode cX9_findNow 85 = .ok (.istore_n 3, 1) := by decide +kernel
theorem dX9_findNow_86 : decode cX9_findNow 86 = .ok (.iload_n 2, 1) := by decide +kernel
theorem dX9_findNow_87 : decode cX9_findNow 87 = .ok (.ifCond .ne 7, 3) := by decide +kernel
theorem dX9_findNow_90 : decode cX9_findNow 90 = .ok (.iconst 0, 1) := by decide +kernel
theorem dX9_findNow_91 : decode cX9_findNow 91 = .ok (.goto 9, 3) := by decide +kernel
theorem dX9_findNow_94 : decode cX9_findNow 94 = .ok (.aload_n 0, 1) := by decide +kernel
theorem dX9_findNow_95 : decode cX9_findNow 95 = .ok (.iload_n 2, 1) := by decide +kernel
theorem dX9_findNow_96 : decode cX9_findNow 96 = .ok (.iconst 2, 1) := by decide +kernel
theorem dX9_findNow_97 : decode cX9_findNow 97 = .ok (.invokevirtual 231, 3) := by decide +kernel
theorem dX9_findNow_100 : decode cX9_findNow 100 = .ok (.istore 4, 2) := by decide +kernel
theorem dX9_findNow_102 : decode cX9_findNow 102 = .ok (.iload_n 3, 1) := by decide +kernel
theorem dX9_findNow_103 : decode cX9_findNow 103 = .ok (.aload_n 0, 1) := by decide +kernel
theorem dX9_findNow_104 : decode cX9_findNow 104 = .ok (.getfield 7, 3) := by decide +kernel
theorem dX9_findNow_107 : decode cX9_findNow 107 = .ok (.iconst 1, 1) := by decide +kernel
theorem dX9_findNow_108 : decode cX9_findNow 108 = .ok (.isub, 1) := by decide +kernel
theorem dX9_findNow_109 : decode cX9_findNow 109 = .ok (.if_icmp .ne 7, 3) := by decide +kernel
theorem dX9_findNow_112 : decode cX9_findNow 112 = .ok (.iconst 0, 1) := by decide +kernel
theorem dX9_findNow_113 : decode cX9_findNow 113 = .ok (.goto 9, 3) := by decide +kernel
theorem dX9_findNow_116 : decode cX9_findNow 116 = .ok (.aload_n 0, 1) := by decide +kernel
theorem dX9_findNow_117 : decode cX9_findNow 117 = .ok (.iload_n 3, 1) := by decide +kernel
theorem dX9_findNow_118 : decode cX9_findNow 118 = .ok (.iconst 1, 1) := by decide +kernel
theorem dX9_findNow_119 : decode cX9_findNow 119 = .ok (.invokevirtual 231, 3) := by decide +kernel
theorem dX9_findNow_122 : decode cX9_findNow 122 = .ok (.istore 5, 2) := by decide +kernel
theorem dX9_findNow_124 : decode cX9_findNow 124 = .ok (.iload 4, 2) := by decide +kernel
theorem dX9_findNow_126 : decode cX9_findNow 126 = .ok (.iconst (-1), 1) := by decide +kernel
theorem dX9_findNow_127 : decode cX9_findNow 127 = .ok (.if_icmp .eq 9, 3) := by decide +kernel
theorem dX9_findNow_130 : decode cX9_findNow 130 = .ok (.iload 5, 2) := by decide +kernel
theorem dX9_findNow_132 : decode cX9_findNow 132 = .ok (.iconst (-1), 1) := by decide +kernel
theorem dX9_findNow_133 : decode cX9_findNow 133 = .ok (.if_icmp .ne 5, 3) := by decide +kernel
theorem dX9_findNow_136 : decode cX9_findNow 136 = .ok (.iconst (-1), 1) := by decide +kernel
theorem dX9_findNow_137 : decode cX9_findNow 137 = .ok (.ireturn, 1) := by decide +kernel
theorem dX9_findNow_138 : decode cX9_findNow 138 = .ok (.iload 4, 2) := by decide +kernel
theorem dX9_findNow_140 : decode cX9_findNow 140 = .ok (.iload 5, 2) := by decide +kernel
theorem dX9_findNow_142 : decode cX9_findNow 142 = .ok (.iadd, 1) := by decide +kernel
theorem dX9_findNow_143 : decode cX9_findNow 143 = .ok (.istore 4, 2) := by decide +kernel
theorem dX9_findNow_145 : decode cX9_findNow 145 = .ok (.iconst 1, 1) := by decide +kernel
theorem dX9_findNow_146 : decode cX9_findNow 146 = .ok (.istore 6, 2) := by decide +kernel
theorem dX9_findNow_148 : decode cX9_findNow 148 = .ok (.iload 6, 2) := by decide +kernel
theorem dX9_findNow_150 : decode cX9_findNow 150 = .ok (.aload_n 0, 1) := by decide +kernel
theorem dX9_findNow_151 : decode cX9_findNow 151 = .ok (.getfield 122, 3) := by decide +kernel
theorem dX9_findNow_154 : decode cX9_findNow 154 = .ok (.if_icmp .ge 69, 3) := by decide +kernel
theorem dX9_findNow_157 : decode cX9_findNow 157 = .ok (.aload_n 0, 1) := by decide +kernel
theorem dX9_findNow_158 : decode cX9_findNow 158 = .ok (.aload_n 0, 1) := by decide +kernel
theorem dX9_findNow_159 : decode cX9_findNow 159 = .ok (.getfield 23, 3) := by decide +kernel
theorem dX9_findNow_162 : decode cX9_findNow 162 = .ok (.iload 6, 2) := by decide +kernel
theorem dX9_findNow_164 : decode cX9_findNow 164 = .ok (.iconst 1, 1) := by decide +kernel
theorem dX9_findNow_165 : decode cX9_findNow 165 = .ok (.isub, 1) := by decide +kernel
theorem dX9_findNow_166 : decode cX9_findNow 166 = .ok (.iaload, 1) := by decide +kernel
theorem dX9_findNow_167 : decode cX9_findNow 167 = .ok (.bipush 97, 2) := by decide +kernel
theorem dX9_findNow_169 : decode cX9_findNow 169 = .ok (.isub, 1) := by decide +kernel
theorem dX9_findNow_170 : decode cX9_findNow 170 = .ok (.aload_n 0, 1) := by decide +kernel
theorem dX9_findNow_171 : decode cX9_findNow 171 = .ok (.getfield 23, 3) := by decide +kernel
theorem dX9_findNow_174 : decode cX9_findNow 174 = .ok (.iload 6, 2) := by decide +kernel
theorem dX9_findNow_176 : decode cX9_findNow 176 = .ok (.iaload, 1) := by decide +kernel
theorem dX9_findNow_177 : decode cX9_findNow 177 = .ok (.bipush 97, 2) := by decide +kernel
theorem dX9_findNow_179 : decode cX9_findNow 179 = .ok (.isub, 1) := by decide +kernel
theorem dX9_findNow_180 : decode cX9_findNow 180 = .ok (.invokevirtual 111, 3) := by decide +kernel
theorem dX9_findNow_183 : decode cX9_findNow 183 = .ok (.istore 7, 2) := by decide +kernel
theorem dX9_findNow_185 : decode cX9_findNow 185 = .ok (.iload 7, 2) := by decide +kernel
theorem dX9_findNow_187 : decode cX9_findNow 187 = .ok (.iconst (-1), 1) := by decide +kernel
theorem dX9_findNow_188 : decode cX9_findNow 188 = .ok (.if_icmp .eq 13, 3) := by decide +kernel
theorem dX9_findNow_191 : decode cX9_findNow 191 = .ok (.aload_n 0, 1) := by decide +kernel
theorem dX9_findNow_192 : decode cX9_findNow 192 = .ok (.getfield 26, 3) := by decide +kernel
theorem dX9_findNow_195 : decode cX9_findNow 195 = .ok (.iload 7, 2) := by decide +kernel
theorem dX9_findNow_197 : decode cX9_findNow 197 = .ok (.baload, 1) := by decide +kernel
theorem dX9_findNow_198 : decode cX9_findNow 198 = .ok (.ifCond .eq 5, 3) := by decide +kernel
theorem dX9_findNow_201 : decode cX9_findNow 201 = .ok (.iconst (-1), 1) := by decide +kernel
theorem dX9_findNow_202 : decode cX9_findNow 202 = .ok (.ireturn, 1) := by decide +kernel
theorem dX9_findNow_203 : decode cX9_findNow 203 = .ok (.iload 4, 2) := by decide +kernel
theorem dX9_findNow_205 : decode cX9_findNow 205 = .ok (.aload_n 0, 1) := by decide +kernel
theorem dX9_findNow_206 : decode cX9_findNow 206 = .ok (.getfield 33, 3) := by decide +kernel
theorem dX9_findNow_209 : decode cX9_findNow 209 = .ok (.iconst 2, 1) := by decide +kernel
theorem dX9_findNow_210 : decode cX9_findNow 210 = .ok (.iload 7, 2) := by decide +kernel
theorem dX9_findNow_212 : decode cX9_findNow 212 = .ok (.imul, 1) := by decide +kernel
theorem dX9_findNow_213 : decode cX9_findNow 213 = .ok (.iaload, 1) := by decide +kernel
theorem dX9_findNow_214 : decode cX9_findNow 214 = .ok (.iadd, 1) := by decide +kernel
theorem dX9_findNow_215 : decode cX9_findNow 215 = .ok (.istore 4, 2) := by decide +kernel
theorem dX9_findNow_217 : decode cX9_findNow 217 = .ok (.iinc 6 1, 3) := by decide +kernel
theorem dX9_findNow_220 : decode cX9_findNow 220 = .ok (.goto (-72), 3) := by decide +kernel
theorem dX9_findNow_223 : decode cX9_findNow 223 = .ok (.iload 4, 2) := by decide +kernel
theorem dX9_findNow_225 : decode cX9_findNow 225 = .ok (.ireturn, 1) := by decide +kernel
theorem dX9_findPath_0 : decode cX9_findPath 0 = .ok (.aload_n 0, 1) := by decide +kernel
theorem dX9_findPath_1 : decode cX9_findPath 1 = .ok (.aload_n 0, 1) := by decide +kernel
theorem dX9_findPath_2 : decode cX9_findPath 2 = .ok (.getfield 84, 3) := by decide +kernel
theorem dX9_findPath_5 : decode cX9_findPath 5 = .ok (.ifCond .eq 7, 3) := by decide +kernel
theorem dX9_findPath_8 : decode cX9_findPath 8 = .ok (.iconst 0, 1) := by decide +kernel
theorem dX9_findPath_9 : decode cX9_findPath 9 = .ok (.goto 4, 3) := by decide +kernel
theorem dX9_findPath_12 : decode cX9_findPath 12 = .ok (.iconst 1, 1) := by decide +kernel
theorem dX9_findPath_13 : decode cX9_findPath 13 = .ok (.putfield 81, 3) := by decide +kernel
theorem dX9_findPath_16 : decode cX9_findPath 16 = .ok (.aload_n 0, 1) := by decide +kernel
theorem dX9_findPath_17 : decode cX9_findPath 17 = .ok (.getfield 81, 3) := by decide +kernel
theorem dX9_findPath_20 : decode cX9_findPath 20 = .ok (.ifCond .le 7, 3) := by decide +kernel
theorem dX9_findPath_23 : decode cX9_findPath 23 = .ok (.iconst 0, 1) := by decide +kernel
theorem dX9_findPath_24 : decode cX9_findPath 24 = .ok (.goto 7, 3) := by decide +kernel
theorem dX9_findPath_27 : decode cX9_findPath 27 = .ok (.aload_n 0, 1) := by decide +kernel
theorem dX9_findPath_28 : decode cX9_findPath 28 = .ok (.invokevirtual 234, 3) := by decide +kernel
theorem dX9_findPath_31 : decode cX9_findPath 31 = .ok (.ireturn, 1) := by decide +kernel
theorem dX9_counts_0 : decode cX9_counts 0 = .ok (.aload_n 0, 1) := by decide +kernel
theorem dX9_counts_1 : decode cX9_counts 1 = .ok (.getfield 84, 3) := by decide +kernel
theorem dX9_counts_4 : decode cX9_counts 4 = .ok (.ifCond .eq 19, 3) := by decide +kernel
theorem dX9_counts_7 : decode cX9_counts 7 = .ok (.aload_n 0, 1) := by decide +kernel
theorem dX9_counts_8 : decode cX9_counts 8 = .ok (.getfield 30, 3) := by decide +kernel
theorem dX9_counts_11 : decode cX9_counts 11 = .ok (.iconst 0, 1) := by decide +kernel
theorem dX9_counts_12 : decode cX9_counts 12 = .ok (.iaload, 1) := by decide +kernel
theorem dX9_counts_13 : decode cX9_counts 13 = .ok (.sipush 200, 3) := by decide +kernel
theorem dX9_counts_16 : decode cX9_counts 16 = .ok (.if_icmp .gt 7, 3) := by decide +kernel
theorem dX9_counts_19 : decode cX9_counts 19 = .ok (.iconst 1, 1) := by decide +kernel
theorem dX9_counts_20 : decode cX9_counts 20 = .ok (.goto 4, 3) := by decide +kernel
theorem dX9_counts_23 : decode cX9_counts 23 = .ok (.iconst 0, 1) := by decide +kernel
theorem dX9_counts_24 : decode cX9_counts 24 = .ok (.ireturn, 1) := by decide +kernel
theorem dX9_start_0 : decode cX9_start 0 = .ok (.aload_n 0, 1) := by decide +kernel
theorem dX9_start_1 : decode cX9_start 1 = .ok (.aload_n 0, 1) := by decide +kernel
theorem dX9_start_2 : decode cX9_start 2 = .ok (.invokevirtual 237, 3) := by decide +kernel
theorem dX9_start_5 : decode cX9_start 5 = .ok (.ifCond .eq 7, 3) := by decide +kernel
theorem dX9_start_8 : decode cX9_start 8 = .ok (.iconst 0, 1) := by decide +kernel
theorem dX9_start_9 : decode cX9_start 9 = .ok (.goto 4, 3) := by decide +kernel
theorem dX9_start_12 : decode cX9_start 12 = .ok (.iconst 1, 1) := by decide +kernel
theorem dX9_start_13 : decode cX9_start 13 = .ok (.putfield 81, 3) := by decide +kernel
theorem dX9_start_16 : decode cX9_start 16 = .ok (.aload_n 0, 1) := by decide +kernel
theorem dX9_start_17 : decode cX9_start 17 = .ok (.getfield 81, 3) := by decide +kernel
theorem dX9_start_20 : decode cX9_start 20 = .ok (.ifCond .ne 23, 3) := by decide +kernel
theorem dX9_start_23 : decode cX9_start 23 = .ok (.aload_n 0, 1) := by decide +kernel
theorem dX9_start_24 : decode cX9_start 24 = .ok (.iconst 1, 1) := by decide +kernel
theorem dX9_start_25 : decode cX9_start 25 = .ok (.putfield 88, 3) := by decide +kernel
theorem dX9_start_28 : decode cX9_start 28 = .ok (.aload_n 0, 1) := by decide +kernel
theorem dX9_start_29 : decode cX9_start 29 = .ok (.iconst 0, 1) := by decide +kernel
theorem dX9_start_30 : decode cX9_start 30 = .ok (.putfield 91, 3) := by decide +kernel
theorem dX9_start_33 : decode cX9_start 33 = .ok (.aload_n 0, 1) := by decide +kernel
theorem dX9_start_34 : decode cX9_start 34 = .ok (.iconst 0, 1) := by decide +kernel
theorem dX9_start_35 : decode cX9_start 35 = .ok (.putfield 239, 3) := by decide +kernel
theorem dX9_start_38 : decode cX9_start 38 = .ok (.aload_n 0, 1) := by decide +kernel
theorem dX9_start_39 : decode cX9_start 39 = .ok (.iconst 0, 1) := by decide +kernel
theorem dX9_start_40 : decode cX9_start 40 = .ok (.putfield 94, 3) := by decide +kernel
theorem dX9_start_43 : decode cX9_start 43 = .ok (.return_, 1) := by decide +kernel
theorem dX9_edgeAt_0 : decode cX9_edgeAt 0 = .ok (.iload_n 2, 1) := by decide +kernel
theorem dX9_edgeAt_1 : decode cX9_edgeAt 1 = .ok (.istore_n 3, 1) := by decide +kernel
theorem dX9_edgeAt_2 : decode cX9_edgeAt 2 = .ok (.iconst 0, 1) := by decide +kernel
theorem dX9_edgeAt_3 : decode cX9_edgeAt 3 = .ok (.istore 4, 2) := by decide +kernel
theorem dX9_edgeAt_5 : decode cX9_edgeAt 5 = .ok (.iload 4, 2) := by decide +kernel
theorem dX9_edgeAt_7 : decode cX9_edgeAt 7 = .ok (.aload_n 0, 1) := by decide +kernel
theorem dX9_edgeAt_8 : decode cX9_edgeAt 8 = .ok (.getfield 101, 3) := by decide +kernel
theorem dX9_edgeAt_11 : decode cX9_edgeAt 11 = .ok (.if_icmp .ge 34, 3) := by decide +kernel
theorem dX9_edgeAt_14 : decode cX9_edgeAt 14 = .ok (.iload_n 2, 1) := by decide +kernel
theorem dX9_edgeAt_15 : decode cX9_edgeAt 15 = .ok (.ifCond .lt 30, 3) := by decide +kernel
theorem dX9_edgeAt_18 : decode cX9_edgeAt 18 = .ok (.aload_n 0, 1) := by decide +kernel
theorem dX9_edgeAt_19 : decode cX9_edgeAt 19 = .ok (.getfield 13, 3) := by decide +kernel
theorem dX9_edgeAt_22 : decode cX9_edgeAt 22 = .ok (.iload 4, 2) := by decide +kernel
theorem dX9_edgeAt_24 : decode cX9_edgeAt 24 = .ok (.iaload, 1) := by decide +kernel
theorem dX9_edgeAt_25 : decode cX9_edgeAt 25 = .ok (.iload_n 1, 1) := by decide +kernel
theorem dX9_edgeAt_26 : decode cX9_edgeAt 26 = .ok (.if_icmp .ne 13, 3) := by decide +kernel
theorem dX9_edgeAt_29 : decode cX9_edgeAt 29 = .ok (.iload_n 3, 1) := by decide +kernel
theorem dX9_edgeAt_30 : decode cX9_edgeAt 30 = .ok (.ifCond .ne 6, 3) := by decide +kernel
theorem dX9_edgeAt_33 : decode cX9_edgeAt 33 = .ok (.iload 4, 2) := by decide +kernel
theorem dX9_edgeAt_35 : decode cX9_edgeAt 35 = .ok (.ireturn, 1) := by decide +kernel
theorem dX9_edgeAt_36 : decode cX9_edgeAt 36 = .ok (.iinc 3 (-1), 3) := by decide +kernel
theorem dX9_edgeAt_39 : decode cX9_edgeAt 39 = .ok (.iinc 4 1, 3) := by decide +kernel
theorem dX9_edgeAt_42 : decode cX9_edgeAt 42 = .ok (.goto (-37), 3) := by decide +kernel
theorem dX9_edgeAt_45 : decode cX9_edgeAt 45 = .ok (.iconst (-1), 1) := by decide +kernel
theorem dX9_edgeAt_46 : decode cX9_edgeAt 46 = .ok (.ireturn, 1) := by decide +kernel
theorem dX9_step_0 : decode cX9_step 0 = .ok (.aload_n 0, 1) := by decide +kernel
theorem dX9_step_1 : decode cX9_step 1 = .ok (.getfield 88, 3) := by decide +kernel
theorem dX9_step_4 : decode cX9_step 4 = .ok (.ifCond .eq 14, 3) := by decide +kernel
theorem dX9_step_7 : decode cX9_step 7 = .ok (.aload_n 0, 1) := by decide +kernel
theorem dX9_step_8 : decode cX9_step 8 = .ok (.getfield 91, 3) := by decide +kernel
theorem dX9_step_11 : decode cX9_step 11 = .ok (.ifCond .ne 7, 3) := by decide +kernel
theorem dX9_step_14 : decode cX9_step 14 = .ok (.iconst 1, 1) := by decide +kernel
theorem dX9_step_15 : decode cX9_step 15 = .ok (.goto 4, 3) := by decide +kernel
theorem dX9_step_18 : decode cX9_step 18 = .ok (.iconst 0, 1) := by decide +kernel
theorem dX9_step_19 : decode cX9_step 19 = .ok (.istore_n 2, 1) := by decide +kernel
theorem dX9_step_20 : decode cX9_step 20 = .ok (.iload_n 2, 1) := by decide +kernel
theorem dX9_step_21 : decode cX9_step 21 = .ok (.ifCond .eq 15, 3) := by decide +kernel
theorem dX9_step_24 : decode cX9_step 24 = .ok (.aload_n 0, 1) := by decide +kernel
theorem dX9_step_25 : decode cX9_step 25 = .ok (.aload_n 0, 1) := by decide +kernel
theorem dX9_step_26 : decode cX9_step 26 = .ok (.getfield 239, 3) := by decide +kernel
theorem dX9_step_29 : decode cX9_step 29 = .ok (.iload_n 1, 1) := by decide +kernel
theorem dX9_step_30 : decode cX9_step 30 = .ok (.invokevirtual 242, 3) := by decide +kernel
theorem dX9_step_33 : decode cX9_step 33 = .ok (.goto 4, 3) := by decide +kernel
theorem dX9_step_36 : decode cX9_step 36 = .ok (.iconst (-1), 1) := by decide +kernel
theorem dX9_step_37 : decode cX9_step 37 = .ok (.istore_n 3, 1) := by decide +kernel
theorem dX9_step_38 : decode cX9_step 38 = .ok (.aload_n 0, 1) := by decide +kernel
theorem dX9_step_39 : decode cX9_step 39 = .ok (.iload_n 2, 1) := by decide +kernel
theorem dX9_step_40 : decode cX9_step 40 = .ok (.ifCond .ne 7, 3) := by decide +kernel
theorem dX9_step_43 : decode cX9_step 43 = .ok (.iconst 1, 1) := by decide +kernel
theorem dX9_step_44 : decode cX9_step 44 = .ok (.goto 13, 3) := by decide +kernel
theorem dX9_step_47 : decode cX9_step 47 = .ok (.iload_n 3, 1) := by decide +kernel
theorem dX9_step_48 : decode cX9_step 48 = .ok (.iconst (-1), 1) := by decide +kernel
theorem dX9_step_49 : decode cX9_step 49 = .ok (.if_icmp .ne 7, 3) := by decide +kernel
theorem dX9_step_52 : decode cX9_step 52 = .ok (.iconst 2, 1) := by decide +kernel
theorem dX9_step_53 : decode cX9_step 53 = .ok (.goto 4, 3) := by decide +kernel
theorem dX9_step_56 : decode cX9_step 56 = .ok (.iconst 0, 1) := by decide +kernel
theorem dX9_step_57 : decode cX9_step 57 = .ok (.putfield 81, 3) := by decide +kernel
theorem dX9_step_60 : decode cX9_step 60 = .ok (.aload_n 0, 1) := by decide +kernel
theorem dX9_step_61 : decode cX9_step 61 = .ok (.getfield 81, 3) := by decide +kernel
theorem dX9_step_64 : decode cX9_step 64 = .ok (.ifCond .le 5, 3) := by decide +kernel
theorem dX9_step_67 : decode cX9_step 67 = .ok (.iconst 0, 1) := by decide +kernel
theorem dX9_step_68 : decode cX9_step 68 = .ok (.ireturn, 1) := by decide +kernel
theorem dX9_step_69 : decode cX9_step 69 = .ok (.aload_n 0, 1) := by decide +kernel
theorem dX9_step_70 : decode cX9_step 70 = .ok (.dup, 1) := by decide +kernel
theorem dX9_step_71 : decode cX9_step 71 = .ok (.getfield 94, 3) := by decide +kernel
theorem dX9_step_74 : decode cX9_step 74 = .ok (.aload_n 0, 1) := by decide +kernel
theorem dX9_step_75 : decode cX9_step 75 = .ok (.getfield 36, 3) := by decide +kernel
theorem dX9_step_78 : decode cX9_step 78 = .ok (.iconst 2, 1) := by decide +kernel
theorem dX9_step_79 : decode cX9_step 79 = .ok (.iload_n 3, 1) := by decide +kernel
theorem dX9_step_80 : decode cX9_step 80 = .ok (.imul, 1) := by decide +kernel
theorem dX9_step_81 : decode cX9_step 81 = .ok (.iaload, 1) := by decide +kernel
theorem dX9_step_82 : decode cX9_step 82 = .ok (.iadd, 1) := by decide +kernel
theorem dX9_step_83 : decode cX9_step 83 = .ok (.putfield 94, 3) := by decide +kernel
theorem dX9_step_86 : decode cX9_step 86 = .ok (.aload_n 0, 1) := by decide +kernel
theorem dX9_step_87 : decode cX9_step 87 = .ok (.aload_n 0, 1) := by decide +kernel
theorem dX9_step_88 : decode cX9_step 88 = .ok (.getfield 17, 3) := by decide +kernel
theorem dX9_step_91 : decode cX9_step 91 = .ok (.iload_n 3, 1) := by decide +kernel
theorem dX9_step_92 : decode cX9_step 92 = .ok (.iaload, 1) := by decide +kernel
theorem dX9_step_93 : decode cX9_step 93 = .ok (.putfield 239, 3) := by decide +kernel
theorem dX9_step_96 : decode cX9_step 96 = .ok (.aload_n 0, 1) := by decide +kernel
theorem dX9_step_97 : decode cX9_step 97 = .ok (.getfield 26, 3) := by decide +kernel
theorem dX9_step_100 : decode cX9_step 100 = .ok (.iload_n 3, 1) := by decide +kernel
theorem dX9_step_101 : decode cX9_step 101 = .ok (.baload, 1) := by decide +kernel
theorem dX9_step_102 : decode cX9_step 102 = .ok (.ifCond .eq 33, 3) := by decide +kernel
theorem dX9_step_105 : decode cX9_step 105 = .ok (.aload_n 0, 1) := by decide +kernel
theorem dX9_step_106 : decode cX9_step 106 = .ok (.getfield 42, 3) := by decide +kernel
theorem dX9_step_109 : decode cX9_step 109 = .ok (.aload_n 0, 1) := by decide +kernel
theorem dX9_step_110 : decode cX9_step 110 = .ok (.getfield 94, 3) := by decide +kernel
theorem dX9_step_113 : decode cX9_step 113 = .ok (.dup2, 1) := by decide +kernel
theorem dX9_step_114 : decode cX9_step 114 = .ok (.iaload, 1) := by decide +kernel
theorem dX9_step_115 : decode cX9_step 115 = .ok (.iconst 1, 1) := by decide +kernel
theorem dX9_step_116 : decode cX9_step 116 = .ok (.iadd, 1) := by decide +kernel
theorem dX9_step_117 : decode cX9_step 117 = .ok (.iastore, 1) := by decide +kernel
theorem dX9_step_118 : decode cX9_step 118 = .ok (.aload_n 0, 1) := by decide +kernel
theorem dX9_step_119 : decode cX9_step 119 = .ok (.aload_n 0, 1) := by decide +kernel
theorem dX9_step_120 : decode cX9_step 120 = .ok (.getfield 36, 3) := by decide +kernel
theorem dX9_step_123 : decode cX9_step 123 = .ok (.iconst 2, 1) := by decide +kernel
theorem dX9_step_124 : decode cX9_step 124 = .ok (.iload_n 3, 1) := by decide +kernel
theorem dX9_step_125 : decode cX9_step 125 = .ok (.imul, 1) := by decide +kernel
theorem dX9_step_126 : decode cX9_step 126 = .ok (.iconst 1, 1) := by decide +kernel
theorem dX9_step_127 : decode cX9_step 127 = .ok (.iadd, 1) := by decide +kernel
theorem dX9_step_128 : decode cX9_step 128 = .ok (.iaload, 1) := by decide +kernel
theorem dX9_step_129 : decode cX9_step 129 = .ok (.putfield 94, 3) := by decide +kernel
theorem dX9_step_132 : decode cX9_step 132 = .ok (.goto 34, 3) := by decide +kernel
theorem dX9_step_135 : decode cX9_step 135 = .ok (.aload_n 0, 1) := by decide +kernel
theorem dX9_step_136 : decode cX9_step 136 = .ok (.getfield 239, 3) := by decide +kernel
theorem dX9_step_139 : decode cX9_step 139 = .ok (.aload_n 0, 1) := by decide +kernel
theorem dX9_step_140 : decode cX9_step 140 = .ok (.getfield 7, 3) := by decide +kernel
theorem dX9_step_143 : decode cX9_step 143 = .ok (.iconst 1, 1) := by decide +kernel
theorem dX9_step_144 : decode cX9_step 144 = .ok (.isub, 1) := by decide +kernel
theorem dX9_step_145 : decode cX9_step 145 = .ok (.if_icmp .ne 21, 3) := by decide +kernel
theorem dX9_step_148 : decode cX9_step 148 = .ok (.aload_n 0, 1) := by decide +kernel
theorem dX9_step_149 : decode cX9_step 149 = .ok (.getfield 42, 3) := by decide +kernel
theorem dX9_step_152 : decode cX9_step 152 = .ok (.aload_n 0, 1) := by decide +kernel
theorem dX9_step_153 : decode cX9_step 153 = .ok (.getfield 94, 3) := by decide +kernel
theorem dX9_step_156 : decode cX9_step 156 = .ok (.dup2, 1) := by decide +kernel
theorem dX9_step_157 : decode cX9_step 157 = .ok (.iaload, 1) := by decide +kernel
theorem dX9_step_158 : decode cX9_step 158 = .ok (.iconst 1, 1) := by decide +kernel
theorem dX9_step_159 : decode cX9_step 159 = .ok (.iadd, 1) := by decide +kernel
theorem dX9_step_160 : decode cX9_step 160 = .ok (.iastore, 1) := by decide +kernel
theorem dX9_step_161 : decode cX9_step 161 = .ok (.aload_n 0, 1) := by decide +kernel
theorem dX9_step_162 : decode cX9_step 162 = .ok (.iconst 1, 1) := by decide +kernel
theorem dX9_step_163 : decode cX9_step 163 = .ok (.putfield 91, 3) := by decide +kernel
theorem dX9_step_166 : decode cX9_step 166 = .ok (.aload_n 0, 1) := by decide +kernel
theorem dX9_step_167 : decode cX9_step 167 = .ok (.getfield 239, 3) := by decide +kernel
theorem dX9_step_170 : decode cX9_step 170 = .ok (.ireturn, 1) := by decide +kernel
theorem dX9_currentNow_0 : decode cX9_currentNow 0 = .ok (.aload_n 0, 1) := by decide +kernel
theorem dX9_currentNow_1 : decode cX9_currentNow 1 = .ok (.getfield 88, 3) := by decide +kernel
theorem dX9_currentNow_4 : decode cX9_currentNow 4 = .ok (.ifCond .eq 10, 3) := by decide +kernel
theorem dX9_currentNow_7 : decode cX9_currentNow 7 = .ok (.aload_n 0, 1) := by decide +kernel
theorem dX9_currentNow_8 : decode cX9_currentNow 8 = .ok (.getfield 239, 3) := by decide +kernel
theorem dX9_currentNow_11 : decode cX9_currentNow 11 = .ok (.goto 4, 3) := by decide +kernel
theorem dX9_currentNow_14 : decode cX9_currentNow 14 = .ok (.iconst (-1), 1) := by decide +kernel
theorem dX9_currentNow_15 : decode cX9_currentNow 15 = .ok (.ireturn, 1) := by decide +kernel
theorem dX9_current_0 : decode cX9_current 0 = .ok (.aload_n 0, 1) := by decide +kernel
theorem dX9_current_1 : decode cX9_current 1 = .ok (.iconst 0, 1) := by decide +kernel
theorem dX9_current_2 : decode cX9_current 2 = .ok (.putfield 81, 3) := by decide +kernel
theorem dX9_current_5 : decode cX9_current 5 = .ok (.aload_n 0, 1) := by decide +kernel
theorem dX9_current_6 : decode cX9_current 6 = .ok (.invokevirtual 245, 3) := by decide +kernel
theorem dX9_current_9 : decode cX9_current 9 = .ok (.ireturn, 1) := by decide +kernel
theorem dX9_register_0 : decode cX9_register 0 = .ok (.aload_n 0, 1) := by decide +kernel
theorem dX9_register_1 : decode cX9_register 1 = .ok (.iconst 0, 1) := by decide +kernel
theorem dX9_register_2 : decode cX9_register 2 = .ok (.putfield 81, 3) := by decide +kernel
theorem dX9_register_5 : decode cX9_register 5 = .ok (.aload_n 0, 1) := by decide +kernel
theorem dX9_register_6 : decode cX9_register 6 = .ok (.getfield 94, 3) := by decide +kernel
theorem dX9_register_9 : decode cX9_register 9 = .ok (.ireturn, 1) := by decide +kernel
theorem dX9_lackOfCounts_0 : decode cX9_lackOfCounts 0 = .ok (.aload_n 0, 1) := by decide +kernel
theorem dX9_lackOfCounts_1 : decode cX9_lackOfCounts 1 = .ok (.invokevirtual 237, 3) := by decide +kernel
theorem dX9_lackOfCounts_4 : decode cX9_lackOfCounts 4 = .ok (.ifCond .ne 7, 3) := by decide +kernel
theorem dX9_lackOfCounts_7 : decode cX9_lackOfCounts 7 = .ok (.iconst 1, 1) := by decide +kernel
theorem dX9_lackOfCounts_8 : decode cX9_lackOfCounts 8 = .ok (.goto 12, 3) := by decide +kernel
theorem dX9_lackOfCounts_11 : decode cX9_lackOfCounts 11 = .ok (.iload_n 1, 1) := by decide +kernel
theorem dX9_lackOfCounts_12 : decode cX9_lackOfCounts 12 = .ok (.ifCond .eq 7, 3) := by decide +kernel
theorem dX9_lackOfCounts_15 : decode cX9_lackOfCounts 15 = .ok (.iconst 0, 1) := by decide +kernel
theorem dX9_lackOfCounts_16 : decode cX9_lackOfCounts 16 = .ok (.goto 4, 3) := by decide +kernel
theorem dX9_lackOfCounts_19 : decode cX9_lackOfCounts 19 = .ok (.iconst 2, 1) := by decide +kernel
theorem dX9_lackOfCounts_20 : decode cX9_lackOfCounts 20 = .ok (.ireturn, 1) := by decide +kernel
theorem dX9_count_0 : decode cX9_count 0 = .ok (.aload_n 0, 1) := by decide +kernel
theorem dX9_count_1 : decode cX9_count 1 = .ok (.aload_n 0, 1) := by decide +kernel
theorem dX9_count_2 : decode cX9_count 2 = .ok (.aload_n 0, 1) := by decide +kernel
theorem dX9_count_3 : decode cX9_count 3 = .ok (.iload_n 1, 1) := by decide +kernel
theorem dX9_count_4 : decode cX9_count 4 = .ok (.invokevirtual 219, 3) := by decide +kernel
theorem dX9_count_7 : decode cX9_count 7 = .ok (.invokevirtual 248, 3) := by decide +kernel
theorem dX9_count_10 : decode cX9_count 10 = .ok (.putfield 81, 3) := by decide +kernel
theorem dX9_count_13 : decode cX9_count 13 = .ok (.aload_n 0, 1) := by decide +kernel
theorem dX9_count_14 : decode cX9_count 14 = .ok (.getfield 81, 3) := by decide +kernel
theorem dX9_count_17 : decode cX9_count 17 = .ok (.ifCond .le 7, 3) := by decide +kernel
theorem dX9_count_20 : decode cX9_count 20 = .ok (.iconst 0, 1) := by decide +kernel
theorem dX9_count_21 : decode cX9_count 21 = .ok (.goto 9, 3) := by decide +kernel
theorem dX9_count_24 : decode cX9_count 24 = .ok (.aload_n 0, 1) := by decide +kernel
theorem dX9_count_25 : decode cX9_count 25 = .ok (.getfield 42, 3) := by decide +kernel
theorem dX9_count_28 : decode cX9_count 28 = .ok (.iload_n 1, 1) := by decide +kernel
theorem dX9_count_29 : decode cX9_count 29 = .ok (.iaload, 1) := by decide +kernel
theorem dX9_count_30 : decode cX9_count 30 = .ok (.ireturn, 1) := by decide +kernel
theorem dX9_allCounts_0 : decode cX9_allCounts 0 = .ok (.iconst 0, 1) := by decide +kernel
theorem dX9_allCounts_1 : decode cX9_allCounts 1 = .ok (.istore_n 1, 1) := by decide +kernel
theorem dX9_allCounts_2 : decode cX9_allCounts 2 = .ok (.iconst 0, 1) := by decide +kernel
theorem dX9_allCounts_3 : decode cX9_allCounts 3 = .ok (.istore_n 2, 1) := by decide +kernel
theorem dX9_allCounts_4 : decode cX9_allCounts 4 = .ok (.iload_n 2, 1) := by decide +kernel
theorem dX9_allCounts_5 : decode cX9_allCounts 5 = .ok (.sipush 200, 3) := by decide +kernel
theorem dX9_allCounts_8 : decode cX9_allCounts 8 = .ok (.if_icmp .ge 18, 3) := by decide +kernel
theorem dX9_allCounts_11 : decode cX9_allCounts 11 = .ok (.iload_n 1, 1) := by decide +kernel
theorem dX9_allCounts_12 : decode cX9_allCounts 12 = .ok (.aload_n 0, 1) := by decide +kernel
theorem dX9_allCounts_13 : decode cX9_allCounts 13 = .ok (.getfield 42, 3) := by decide +kernel
theorem dX9_allCounts_16 : decode cX9_allCounts 16 = .ok (.iload_n 2, 1) := by decide +kernel
theorem dX9_allCounts_17 : decode cX9_allCounts 17 = .ok (.iaload, 1) := by decide +kernel
theorem dX9_allCounts_18 : decode cX9_allCounts 18 = .ok (.iadd, 1) := by decide +kernel
theorem dX9_allCounts_19 : decode cX9_allCounts 19 = .ok (.istore_n 1, 1) := by decide +kernel
theorem dX9_allCounts_20 : decode cX9_allCounts 20 = .ok (.iinc 2 1, 3) := by decide +kernel
theorem dX9_allCounts_23 : decode cX9_allCounts 23 = .ok (.goto (-19), 3) := by decide +kernel
theorem dX9_allCounts_26 : decode cX9_allCounts 26 = .ok (.iload_n 1, 1) := by decide +kernel
theorem dX9_allCounts_27 : decode cX9_allCounts 27 = .ok (.ireturn, 1) := by decide +kernel
theorem dX9_share_0 : decode cX9_share 0 = .ok (.aload_n 0, 1) := by decide +kernel
theorem dX9_share_1 : decode cX9_share 1 = .ok (.aload_n 0, 1) := by decide +kernel
theorem dX9_share_2 : decode cX9_share 2 = .ok (.aload_n 0, 1) := by decide +kernel
theorem dX9_share_3 : decode cX9_share 3 = .ok (.iload_n 1, 1) := by decide +kernel
theorem dX9_share_4 : decode cX9_share 4 = .ok (.invokevirtual 219, 3) := by decide +kernel
theorem dX9_share_7 : decode cX9_share 7 = .ok (.invokevirtual 248, 3) := by decide +kernel
theorem dX9_share_10 : decode cX9_share 10 = .ok (.putfield 81, 3) := by decide +kernel
theorem dX9_share_13 : decode cX9_share 13 = .ok (.aload_n 0, 1) := by decide +kernel
theorem dX9_share_14 : decode cX9_share 14 = .ok (.getfield 81, 3) := by decide +kernel
theorem dX9_share_17 : decode cX9_share 17 = .ok (.ifCond .gt 10, 3) := by decide +kernel
theorem dX9_share_20 : decode cX9_share 20 = .ok (.aload_n 0, 1) := by decide +kernel
theorem dX9_share_21 : decode cX9_share 21 = .ok (.invokevirtual 251, 3) := by decide +kernel
theorem dX9_share_24 : decode cX9_share 24 = .ok (.ifCond .ne 7, 3) := by decide +kernel
theorem dX9_share_27 : decode cX9_share 27 = .ok (.dconst 0, 1) := by decide +kernel
theorem dX9_share_28 : decode cX9_share 28 = .ok (.goto 16, 3) := by decide +kernel
theorem dX9_share_31 : decode cX9_share 31 = .ok (.aload_n 0, 1) := by decide +kernel
theorem dX9_share_32 : decode cX9_share 32 = .ok (.getfield 42, 3) := by decide +kernel
theorem dX9_share_35 : decode cX9_share 35 = .ok (.iload_n 1, 1) := by decide +kernel
theorem dX9_share_36 : decode cX9_share 36 = .ok (.iaload, 1) := by decide +kernel
theorem dX9_share_37 : decode cX9_share 37 = .ok (.i2d, 1) := by decide +kernel
theorem dX9_share_38 : decode cX9_share 38 = .ok (.aload_n 0, 1) := by decide +kernel
theorem dX9_share_39 : decode cX9_share 39 = .ok (.invokevirtual 251, 3) := by decide +kernel
theorem dX9_share_42 : decode cX9_share 42 = .ok (.i2d, 1) := by decide +kernel
theorem dX9_share_43 : decode cX9_share 43 = .ok (.ddiv, 1) := by decide +kernel
theorem dX9_share_44 : decode cX9_share 44 = .ok (.dreturn, 1) := by decide +kernel
theorem dX9_hottestNow_0 : decode cX9_hottestNow 0 = .ok (.iconst (-1), 1) := by decide +kernel
theorem dX9_hottestNow_1 : decode cX9_hottestNow 1 = .ok (.istore_n 1, 1) := by decide +kernel
theorem dX9_hottestNow_2 : decode cX9_hottestNow 2 = .ok (.iconst 0, 1) := by decide +kernel
theorem dX9_hottestNow_3 : decode cX9_hottestNow 3 = .ok (.istore_n 2, 1) := by decide +kernel
theorem dX9_hottestNow_4 : decode cX9_hottestNow 4 = .ok (.iload_n 2, 1) := by decide +kernel
theorem dX9_hottestNow_5 : decode cX9_hottestNow 5 = .ok (.sipush 200, 3) := by decide +kernel
theorem dX9_hottestNow_8 : decode cX9_hottestNow 8 = .ok (.if_icmp .ge 44, 3) := by decide +kernel
theorem dX9_hottestNow_11 : decode cX9_hottestNow 11 = .ok (.aload_n 0, 1) := by decide +kernel
theorem dX9_hottestNow_12 : decode cX9_hottestNow 12 = .ok (.getfield 42, 3) := by decide +kernel
theorem dX9_hottestNow_15 : decode cX9_hottestNow 15 = .ok (.iload_n 2, 1) := by decide +kernel
theorem dX9_hottestNow_16 : decode cX9_hottestNow 16 = .ok (.iaload, 1) := by decide +kernel
theorem dX9_hottestNow_17 : decode cX9_hottestNow 17 = .ok (.ifCond .le 27, 3) := by decide +kernel
theorem dX9_hottestNow_20 : decode cX9_hottestNow 20 = .ok (.iload_n 1, 1) := by decide +kernel
theorem dX9_hottestNow_21 : decode cX9_hottestNow 21 = .ok (.iconst (-1), 1) := by decide +kernel
theorem dX9_hottestNow_22 : decode cX9_hottestNow 22 = .ok (.if_icmp .eq 18, 3) := by decide +kernel
theorem dX9_hottestNow_25 : decode cX9_hottestNow 25 = .ok (.aload_n 0, 1) := by decide +kernel
theorem dX9_hottestNow_26 : decode cX9_hottestNow 26 = .ok (.getfield 42, 3) := by decide +kernel
theorem dX9_hottestNow_29 : decode cX9_hottestNow 29 = .ok (.iload_n 2, 1) := by decide +kernel
theorem dX9_hottestNow_30 : decode cX9_hottestNow 30 = .ok (.iaload, 1) := by decide +kernel
theorem dX9_hottestNow_31 : decode cX9_hottestNow 31 = .ok (.aload_n 0, 1) := by decide +kernel
theorem dX9_hottestNow_32 : decode cX9_hottestNow 32 = .ok (.getfield 42, 3) := by decide +kernel
theorem dX9_hottestNow_35 : decode cX9_hottestNow 35 = .ok (.iload_n 1, 1) := by decide +kernel
theorem dX9_hottestNow_36 : decode cX9_hottestNow 36 = .ok (.iaload, 1) := by decide +kernel
theorem dX9_hottestNow_37 : decode cX9_hottestNow 37 = .ok (.if_icmp .le 7, 3) := by decide +kernel
theorem dX9_hottestNow_40 : decode cX9_hottestNow 40 = .ok (.iload_n 2, 1) := by decide +kernel
theorem dX9_hottestNow_41 : decode cX9_hottestNow 41 = .ok (.goto 4, 3) := by decide +kernel
theorem dX9_hottestNow_44 : decode cX9_hottestNow 44 = .ok (.iload_n 1, 1) := by decide +kernel
theorem dX9_hottestNow_45 : decode cX9_hottestNow 45 = .ok (.istore_n 1, 1) := by decide +kernel
theorem dX9_hottestNow_46 : decode cX9_hottestNow 46 = .ok (.iinc 2 1, 3) := by decide +kernel
theorem dX9_hottestNow_49 : decode cX9_hottestNow 49 = .ok (.goto (-45), 3) := by decide +kernel
theorem dX9_hottestNow_52 : decode cX9_hottestNow 52 = .ok (.iload_n 1, 1) := by decide +kernel
theorem dX9_hottestNow_53 : decode cX9_hottestNow 53 = .ok (.ireturn, 1) := by decide +kernel
theorem dX9_hottest_0 : decode cX9_hottest 0 = .ok (.aload_n 0, 1) := by decide +kernel
theorem dX9_hottest_1 : decode cX9_hottest 1 = .ok (.iconst 0, 1) := by decide +kernel
theorem dX9_hottest_2 : decode cX9_hottest 2 = .ok (.putfield 81, 3) := by decide +kernel
theorem dX9_hottest_5 : decode cX9_hottest 5 = .ok (.aload_n 0, 1) := by decide +kernel
theorem dX9_hottest_6 : decode cX9_hottest 6 = .ok (.invokevirtual 254, 3) := by decide +kernel
theorem dX9_hottest_9 : decode cX9_hottest 9 = .ok (.ireturn, 1) := by decide +kernel
theorem dX9_frequency_0 : decode cX9_frequency 0 = .ok (.iconst 0, 1) := by decide +kernel
theorem dX9_frequency_1 : decode cX9_frequency 1 = .ok (.istore_n 2, 1) := by decide +kernel
theorem dX9_frequency_2 : decode cX9_frequency 2 = .ok (.iconst 0, 1) := by decide +kernel
theorem dX9_frequency_3 : decode cX9_frequency 3 = .ok (.istore_n 3, 1) := by decide +kernel
theorem dX9_frequency_4 : decode cX9_frequency 4 = .ok (.iload_n 3, 1) := by decide +kernel
theorem dX9_frequency_5 : decode cX9_frequency 5 = .ok (.aload_n 0, 1) := by decide +kernel
theorem dX9_frequency_6 : decode cX9_frequency 6 = .ok (.getfield 30, 3) := by decide +kernel
theorem dX9_frequency_9 : decode cX9_frequency 9 = .ok (.iconst 0, 1) := by decide +kernel
theorem dX9_frequency_10 : decode cX9_frequency 10 = .ok (.iaload, 1) := by decide +kernel
theorem dX9_frequency_11 : decode cX9_frequency 11 = .ok (.if_icmp .ge 87, 3) := by decide +kernel
theorem dX9_frequency_14 : decode cX9_frequency 14 = .ok (.aload_n 0, 1) := by decide +kernel
theorem dX9_frequency_15 : decode cX9_frequency 15 = .ok (.getfield 42, 3) := by decide +kernel
theorem dX9_frequency_18 : decode cX9_frequency 18 = .ok (.iload_n 3, 1) := by decide +kernel
theorem dX9_frequency_19 : decode cX9_frequency 19 = .ok (.iaload, 1) := by decide +kernel
theorem dX9_frequency_20 : decode cX9_frequency 20 = .ok (.ifCond .le 72, 3) := by decide +kernel
theorem dX9_frequency_23 : decode cX9_frequency 23 = .ok (.aload_n 0, 1) := by decide +kernel
theorem dX9_frequency_24 : decode cX9_frequency 24 = .ok (.iload_n 3, 1) := by decide +kernel
theorem dX9_frequency_25 : decode cX9_frequency 25 = .ok (.invokevirtual 212, 3) := by decide +kernel
theorem dX9_frequency_28 : decode cX9_frequency 28 = .ok (.iconst 0, 1) := by decide +kernel
theorem dX9_frequency_29 : decode cX9_frequency 29 = .ok (.istore 4, 2) := by decide +kernel
theorem dX9_frequency_31 : decode cX9_frequency 31 = .ok (.iconst 0, 1) := by decide +kernel
theorem dX9_frequency_32 : decode cX9_frequency 32 = .ok (.istore 5, 2) := by decide +kernel
theorem dX9_frequency_34 : decode cX9_frequency 34 = .ok (.iload 5, 2) := by decide +kernel
theorem dX9_frequency_36 : decode cX9_frequency 36 = .ok (.aload_n 0, 1) := by decide +kernel
theorem dX9_frequency_37 : decode cX9_frequency 37 = .ok (.getfield 203, 3) := by decide +kernel
theorem dX9_frequency_40 : decode cX9_frequency 40 = .ok (.if_icmp .ge 34, 3) := by decide +kernel
theorem dX9_frequency_43 : decode cX9_frequency 43 = .ok (.iload 4, 2) := by decide +kernel
theorem dX9_frequency_45 : decode cX9_frequency 45 = .ok (.ifCond .ne 16, 3) := by decide +kernel
theorem dX9_frequency_48 : decode cX9_frequency 48 = .ok (.aload_n 0, 1) := by decide +kernel
theorem dX9_frequency_49 : decode cX9_frequency 49 = .ok (.getfield 78, 3) := by decide +kernel
theorem dX9_frequency_52 : decode cX9_frequency 52 = .ok (.iload 5, 2) := by decide +kernel
theorem dX9_frequency_54 : decode cX9_frequency 54 = .ok (.iaload, 1) := by decide +kernel
theorem dX9_frequency_55 : decode cX9_frequency 55 = .ok (.iconst 2, 1) := by decide +kernel
theorem dX9_frequency_56 : decode cX9_frequency 56 = .ok (.iload_n 1, 1) := by decide +kernel
theorem dX9_frequency_57 : decode cX9_frequency 57 = .ok (.imul, 1) := by decide +kernel
theorem dX9_frequency_58 : decode cX9_frequency 58 = .ok (.if_icmp .ne 7, 3) := by decide +kernel
theorem dX9_frequency_61 : decode cX9_frequency 61 = .ok (.iconst 1, 1) := by decide +kernel
theorem dX9_frequency_62 : decode cX9_frequency 62 = .ok (.goto 4, 3) := by decide +kernel
theorem dX9_frequency_65 : decode cX9_frequency 65 = .ok (.iconst 0, 1) := by decide +kernel
theorem dX9_frequency_66 : decode cX9_frequency 66 = .ok (.istore 4, 2) := by decide +kernel
theorem dX9_frequency_68 : decode cX9_frequency 68 = .ok (.iinc 5 1, 3) := by decide +kernel
theorem dX9_frequency_71 : decode cX9_frequency 71 = .ok (.goto (-37), 3) := by decide +kernel
end
section
theorem dX9_frequency_74 : decode cX9_frequency 74 = .ok (.iload_n 2, 1) := by decide +kernel
theorem dX9_frequency_75 : decode cX9_frequency 75 = .ok (.iload 4, 2) := by decide +kernel
theorem dX9_frequency_77 : decode cX9_frequency 77 = .ok (.ifCond .eq 12, 3) := by decide +kernel
theorem dX9_frequency_80 : decode cX9_frequency 80 = .ok (.aload_n 0, 1) := by decide +kernel
theorem dX9_frequency_81 : decode cX9_frequency 81 = .ok (.getfield 42, 3) := by decide +kernel
theorem dX9_frequency_84 : decode cX9_frequency 84 = .ok (.iload_n 3, 1) := by decide +kernel
theorem dX9_frequency_85 : decode cX9_frequency 85 = .ok (.iaload, 1) := by decide +kernel
theorem dX9_frequency_86 : decode cX9_frequency 86 = .ok (.goto 4, 3) := by decide +kernel
theorem dX9_frequency_89 : decode cX9_frequency 89 = .ok (.iconst 0, 1) := by decide +kernel
theorem dX9_frequency_90 : decode cX9_frequency 90 = .ok (.iadd, 1) := by decide +kernel
theorem dX9_frequency_91 : decode cX9_frequency 91 = .ok (.istore_n 2, 1) := by decide +kernel
theorem dX9_frequency_92 : decode cX9_frequency 92 = .ok (.iinc 3 1, 3) := by decide +kernel
theorem dX9_frequency_95 : decode cX9_frequency 95 = .ok (.goto (-91), 3) := by decide +kernel
theorem dX9_frequency_98 : decode cX9_frequency 98 = .ok (.iload_n 2, 1) := by decide +kernel
theorem dX9_frequency_99 : decode cX9_frequency 99 = .ok (.ireturn, 1) := by decide +kernel
theorem dX9_edgeFrequency_0 : decode cX9_edgeFrequency 0 = .ok (.aload_n 0, 1) := by decide +kernel
theorem dX9_edgeFrequency_1 : decode cX9_edgeFrequency 1 = .ok (.aload_n 0, 1) := by decide +kernel
theorem dX9_edgeFrequency_2 : decode cX9_edgeFrequency 2 = .ok (.aload_n 0, 1) := by decide +kernel
theorem dX9_edgeFrequency_3 : decode cX9_edgeFrequency 3 = .ok (.iload_n 1, 1) := by decide +kernel
theorem dX9_edgeFrequency_4 : decode cX9_edgeFrequency 4 = .ok (.invokevirtual 119, 3) := by decide +kernel
theorem dX9_edgeFrequency_7 : decode cX9_edgeFrequency 7 = .ok (.invokevirtual 248, 3) := by decide +kernel
theorem dX9_edgeFrequency_10 : decode cX9_edgeFrequency 10 = .ok (.putfield 81, 3) := by decide +kernel
theorem dX9_edgeFrequency_13 : decode cX9_edgeFrequency 13 = .ok (.aload_n 0, 1) := by decide +kernel
theorem dX9_edgeFrequency_14 : decode cX9_edgeFrequency 14 = .ok (.getfield 81, 3) := by decide +kernel
theorem dX9_edgeFrequency_17 : decode cX9_edgeFrequency 17 = .ok (.ifCond .le 7, 3) := by decide +kernel
theorem dX9_edgeFrequency_20 : decode cX9_edgeFrequency 20 = .ok (.iconst 0, 1) := by decide +kernel
theorem dX9_edgeFrequency_21 : decode cX9_edgeFrequency 21 = .ok (.goto 8, 3) := by decide +kernel
theorem dX9_edgeFrequency_24 : decode cX9_edgeFrequency 24 = .ok (.aload_n 0, 1) := by decide +kernel
theorem dX9_edgeFrequency_25 : decode cX9_edgeFrequency 25 = .ok (.iload_n 1, 1) := by decide +kernel
theorem dX9_edgeFrequency_26 : decode cX9_edgeFrequency 26 = .ok (.invokevirtual 257, 3) := by decide +kernel
theorem dX9_edgeFrequency_29 : decode cX9_edgeFrequency 29 = .ok (.ireturn, 1) := by decide +kernel
theorem dX9_mix_0 : decode cX9_mix 0 = .ok (.aload_n 0, 1) := by decide +kernel
theorem dX9_mix_1 : decode cX9_mix 1 = .ok (.ldc2_w 260, 3) := by decide +kernel
theorem dX9_mix_4 : decode cX9_mix 4 = .ok (.aload_n 0, 1) := by decide +kernel
theorem dX9_mix_5 : decode cX9_mix 5 = .ok (.getfield 262, 3) := by decide +kernel
theorem dX9_mix_8 : decode cX9_mix 8 = .ok (.lmul, 1) := by decide +kernel
theorem dX9_mix_9 : decode cX9_mix 9 = .ok (.lload_n 1, 1) := by decide +kernel
theorem dX9_mix_10 : decode cX9_mix 10 = .ok (.ladd, 1) := by decide +kernel
theorem dX9_mix_11 : decode cX9_mix 11 = .ok (.putfield 262, 3) := by decide +kernel
theorem dX9_mix_14 : decode cX9_mix 14 = .ok (.return_, 1) := by decide +kernel
theorem dX9_mixAnalysis_0 : decode cX9_mixAnalysis 0 = .ok (.iconst 0, 1) := by decide +kernel
theorem dX9_mixAnalysis_1 : decode cX9_mixAnalysis 1 = .ok (.istore_n 1, 1) := by decide +kernel
theorem dX9_mixAnalysis_2 : decode cX9_mixAnalysis 2 = .ok (.iload_n 1, 1) := by decide +kernel
theorem dX9_mixAnalysis_3 : decode cX9_mixAnalysis 3 = .ok (.aload_n 0, 1) := by decide +kernel
theorem dX9_mixAnalysis_4 : decode cX9_mixAnalysis 4 = .ok (.getfield 7, 3) := by decide +kernel
theorem dX9_mixAnalysis_7 : decode cX9_mixAnalysis 7 = .ok (.if_icmp .ge 20, 3) := by decide +kernel
theorem dX9_mixAnalysis_10 : decode cX9_mixAnalysis 10 = .ok (.aload_n 0, 1) := by decide +kernel
theorem dX9_mixAnalysis_11 : decode cX9_mixAnalysis 11 = .ok (.aload_n 0, 1) := by decide +kernel
theorem dX9_mixAnalysis_12 : decode cX9_mixAnalysis 12 = .ok (.getfield 30, 3) := by decide +kernel
theorem dX9_mixAnalysis_15 : decode cX9_mixAnalysis 15 = .ok (.iload_n 1, 1) := by decide +kernel
theorem dX9_mixAnalysis_16 : decode cX9_mixAnalysis 16 = .ok (.iaload, 1) := by decide +kernel
theorem dX9_mixAnalysis_17 : decode cX9_mixAnalysis 17 = .ok (.i2l, 1) := by decide +kernel
theorem dX9_mixAnalysis_18 : decode cX9_mixAnalysis 18 = .ok (.invokevirtual 266, 3) := by decide +kernel
theorem dX9_mixAnalysis_21 : decode cX9_mixAnalysis 21 = .ok (.iinc 1 1, 3) := by decide +kernel
theorem dX9_mixAnalysis_24 : decode cX9_mixAnalysis 24 = .ok (.goto (-22), 3) := by decide +kernel
theorem dX9_mixAnalysis_27 : decode cX9_mixAnalysis 27 = .ok (.iconst 0, 1) := by decide +kernel
theorem dX9_mixAnalysis_28 : decode cX9_mixAnalysis 28 = .ok (.istore_n 1, 1) := by decide +kernel
theorem dX9_mixAnalysis_29 : decode cX9_mixAnalysis 29 = .ok (.iload_n 1, 1) := by decide +kernel
theorem dX9_mixAnalysis_30 : decode cX9_mixAnalysis 30 = .ok (.aload_n 0, 1) := by decide +kernel
theorem dX9_mixAnalysis_31 : decode cX9_mixAnalysis 31 = .ok (.getfield 101, 3) := by decide +kernel
theorem dX9_mixAnalysis_34 : decode cX9_mixAnalysis 34 = .ok (.if_icmp .ge 91, 3) := by decide +kernel
theorem dX9_mixAnalysis_37 : decode cX9_mixAnalysis 37 = .ok (.aload_n 0, 1) := by decide +kernel
theorem dX9_mixAnalysis_38 : decode cX9_mixAnalysis 38 = .ok (.aload_n 0, 1) := by decide +kernel
theorem dX9_mixAnalysis_39 : decode cX9_mixAnalysis 39 = .ok (.getfield 26, 3) := by decide +kernel
theorem dX9_mixAnalysis_42 : decode cX9_mixAnalysis 42 = .ok (.iload_n 1, 1) := by decide +kernel
theorem dX9_mixAnalysis_43 : decode cX9_mixAnalysis 43 = .ok (.baload, 1) := by decide +kernel
theorem dX9_mixAnalysis_44 : decode cX9_mixAnalysis 44 = .ok (.ifCond .eq 7, 3) := by decide +kernel
theorem dX9_mixAnalysis_47 : decode cX9_mixAnalysis 47 = .ok (.lconst 1, 1) := by decide +kernel
theorem dX9_mixAnalysis_48 : decode cX9_mixAnalysis 48 = .ok (.goto 4, 3) := by decide +kernel
theorem dX9_mixAnalysis_51 : decode cX9_mixAnalysis 51 = .ok (.lconst 0, 1) := by decide +kernel
theorem dX9_mixAnalysis_52 : decode cX9_mixAnalysis 52 = .ok (.invokevirtual 266, 3) := by decide +kernel
theorem dX9_mixAnalysis_55 : decode cX9_mixAnalysis 55 = .ok (.aload_n 0, 1) := by decide +kernel
theorem dX9_mixAnalysis_56 : decode cX9_mixAnalysis 56 = .ok (.aload_n 0, 1) := by decide +kernel
theorem dX9_mixAnalysis_57 : decode cX9_mixAnalysis 57 = .ok (.getfield 33, 3) := by decide +kernel
theorem dX9_mixAnalysis_60 : decode cX9_mixAnalysis 60 = .ok (.aload_n 0, 1) := by decide +kernel
theorem dX9_mixAnalysis_61 : decode cX9_mixAnalysis 61 = .ok (.iload_n 1, 1) := by decide +kernel
theorem dX9_mixAnalysis_62 : decode cX9_mixAnalysis 62 = .ok (.iconst 0, 1) := by decide +kernel
theorem dX9_mixAnalysis_63 : decode cX9_mixAnalysis 63 = .ok (.invokevirtual 196, 3) := by decide +kernel
theorem dX9_mixAnalysis_66 : decode cX9_mixAnalysis 66 = .ok (.iaload, 1) := by decide +kernel
theorem dX9_mixAnalysis_67 : decode cX9_mixAnalysis 67 = .ok (.i2l, 1) := by decide +kernel
theorem dX9_mixAnalysis_68 : decode cX9_mixAnalysis 68 = .ok (.invokevirtual 266, 3) := by decide +kernel
theorem dX9_mixAnalysis_71 : decode cX9_mixAnalysis 71 = .ok (.aload_n 0, 1) := by decide +kernel
theorem dX9_mixAnalysis_72 : decode cX9_mixAnalysis 72 = .ok (.aload_n 0, 1) := by decide +kernel
theorem dX9_mixAnalysis_73 : decode cX9_mixAnalysis 73 = .ok (.getfield 36, 3) := by decide +kernel
theorem dX9_mixAnalysis_76 : decode cX9_mixAnalysis 76 = .ok (.aload_n 0, 1) := by decide +kernel
theorem dX9_mixAnalysis_77 : decode cX9_mixAnalysis 77 = .ok (.iload_n 1, 1) := by decide +kernel
theorem dX9_mixAnalysis_78 : decode cX9_mixAnalysis 78 = .ok (.iconst 0, 1) := by decide +kernel
theorem dX9_mixAnalysis_79 : decode cX9_mixAnalysis 79 = .ok (.invokevirtual 196, 3) := by decide +kernel
theorem dX9_mixAnalysis_82 : decode cX9_mixAnalysis 82 = .ok (.iaload, 1) := by decide +kernel
theorem dX9_mixAnalysis_83 : decode cX9_mixAnalysis 83 = .ok (.i2l, 1) := by decide +kernel
theorem dX9_mixAnalysis_84 : decode cX9_mixAnalysis 84 = .ok (.invokevirtual 266, 3) := by decide +kernel
theorem dX9_mixAnalysis_87 : decode cX9_mixAnalysis 87 = .ok (.aload_n 0, 1) := by decide +kernel
theorem dX9_mixAnalysis_88 : decode cX9_mixAnalysis 88 = .ok (.aload_n 0, 1) := by decide +kernel
theorem dX9_mixAnalysis_89 : decode cX9_mixAnalysis 89 = .ok (.getfield 33, 3) := by decide +kernel
theorem dX9_mixAnalysis_92 : decode cX9_mixAnalysis 92 = .ok (.aload_n 0, 1) := by decide +kernel
theorem dX9_mixAnalysis_93 : decode cX9_mixAnalysis 93 = .ok (.iload_n 1, 1) := by decide +kernel
theorem dX9_mixAnalysis_94 : decode cX9_mixAnalysis 94 = .ok (.iconst 1, 1) := by decide +kernel
theorem dX9_mixAnalysis_95 : decode cX9_mixAnalysis 95 = .ok (.invokevirtual 196, 3) := by decide +kernel
theorem dX9_mixAnalysis_98 : decode cX9_mixAnalysis 98 = .ok (.iaload, 1) := by decide +kernel
theorem dX9_mixAnalysis_99 : decode cX9_mixAnalysis 99 = .ok (.i2l, 1) := by decide +kernel
theorem dX9_mixAnalysis_100 : decode cX9_mixAnalysis 100 = .ok (.invokevirtual 266, 3) := by decide +kernel
theorem dX9_mixAnalysis_103 : decode cX9_mixAnalysis 103 = .ok (.aload_n 0, 1) := by decide +kernel
theorem dX9_mixAnalysis_104 : decode cX9_mixAnalysis 104 = .ok (.aload_n 0, 1) := by decide +kernel
theorem dX9_mixAnalysis_105 : decode cX9_mixAnalysis 105 = .ok (.getfield 36, 3) := by decide +kernel
theorem dX9_mixAnalysis_108 : decode cX9_mixAnalysis 108 = .ok (.aload_n 0, 1) := by decide +kernel
theorem dX9_mixAnalysis_109 : decode cX9_mixAnalysis 109 = .ok (.iload_n 1, 1) := by decide +kernel
theorem dX9_mixAnalysis_110 : decode cX9_mixAnalysis 110 = .ok (.iconst 1, 1) := by decide +kernel
theorem dX9_mixAnalysis_111 : decode cX9_mixAnalysis 111 = .ok (.invokevirtual 196, 3) := by decide +kernel
theorem dX9_mixAnalysis_114 : decode cX9_mixAnalysis 114 = .ok (.iaload, 1) := by decide +kernel
theorem dX9_mixAnalysis_115 : decode cX9_mixAnalysis 115 = .ok (.i2l, 1) := by decide +kernel
theorem dX9_mixAnalysis_116 : decode cX9_mixAnalysis 116 = .ok (.invokevirtual 266, 3) := by decide +kernel
theorem dX9_mixAnalysis_119 : decode cX9_mixAnalysis 119 = .ok (.iinc 1 1, 3) := by decide +kernel
theorem dX9_mixAnalysis_122 : decode cX9_mixAnalysis 122 = .ok (.goto (-93), 3) := by decide +kernel
theorem dX9_mixAnalysis_125 : decode cX9_mixAnalysis 125 = .ok (.aload_n 0, 1) := by decide +kernel
theorem dX9_mixAnalysis_126 : decode cX9_mixAnalysis 126 = .ok (.aload_n 0, 1) := by decide +kernel
theorem dX9_mixAnalysis_127 : decode cX9_mixAnalysis 127 = .ok (.iconst 0, 1) := by decide +kernel
theorem dX9_mixAnalysis_128 : decode cX9_mixAnalysis 128 = .ok (.invokevirtual 200, 3) := by decide +kernel
theorem dX9_mixAnalysis_131 : decode cX9_mixAnalysis 131 = .ok (.i2l, 1) := by decide +kernel
theorem dX9_mixAnalysis_132 : decode cX9_mixAnalysis 132 = .ok (.invokevirtual 266, 3) := by decide +kernel
theorem dX9_mixAnalysis_135 : decode cX9_mixAnalysis 135 = .ok (.aload_n 0, 1) := by decide +kernel
theorem dX9_mixAnalysis_136 : decode cX9_mixAnalysis 136 = .ok (.aload_n 0, 1) := by decide +kernel
theorem dX9_mixAnalysis_137 : decode cX9_mixAnalysis 137 = .ok (.iconst 1, 1) := by decide +kernel
theorem dX9_mixAnalysis_138 : decode cX9_mixAnalysis 138 = .ok (.invokevirtual 200, 3) := by decide +kernel
theorem dX9_mixAnalysis_141 : decode cX9_mixAnalysis 141 = .ok (.i2l, 1) := by decide +kernel
theorem dX9_mixAnalysis_142 : decode cX9_mixAnalysis 142 = .ok (.invokevirtual 266, 3) := by decide +kernel
theorem dX9_mixAnalysis_145 : decode cX9_mixAnalysis 145 = .ok (.iconst 0, 1) := by decide +kernel
theorem dX9_mixAnalysis_146 : decode cX9_mixAnalysis 146 = .ok (.istore_n 1, 1) := by decide +kernel
theorem dX9_mixAnalysis_147 : decode cX9_mixAnalysis 147 = .ok (.aload_n 0, 1) := by decide +kernel
theorem dX9_mixAnalysis_148 : decode cX9_mixAnalysis 148 = .ok (.invokevirtual 237, 3) := by decide +kernel
theorem dX9_mixAnalysis_151 : decode cX9_mixAnalysis 151 = .ok (.ifCond .eq 30, 3) := by decide +kernel
theorem dX9_mixAnalysis_154 : decode cX9_mixAnalysis 154 = .ok (.iload_n 1, 1) := by decide +kernel
theorem dX9_mixAnalysis_155 : decode cX9_mixAnalysis 155 = .ok (.aload_n 0, 1) := by decide +kernel
theorem dX9_mixAnalysis_156 : decode cX9_mixAnalysis 156 = .ok (.getfield 30, 3) := by decide +kernel
theorem dX9_mixAnalysis_159 : decode cX9_mixAnalysis 159 = .ok (.iconst 0, 1) := by decide +kernel
theorem dX9_mixAnalysis_160 : decode cX9_mixAnalysis 160 = .ok (.iaload, 1) := by decide +kernel
theorem dX9_mixAnalysis_161 : decode cX9_mixAnalysis 161 = .ok (.if_icmp .ge 20, 3) := by decide +kernel
theorem dX9_mixAnalysis_164 : decode cX9_mixAnalysis 164 = .ok (.aload_n 0, 1) := by decide +kernel
theorem dX9_mixAnalysis_165 : decode cX9_mixAnalysis 165 = .ok (.aload_n 0, 1) := by decide +kernel
theorem dX9_mixAnalysis_166 : decode cX9_mixAnalysis 166 = .ok (.getfield 42, 3) := by decide +kernel
theorem dX9_mixAnalysis_169 : decode cX9_mixAnalysis 169 = .ok (.iload_n 1, 1) := by decide +kernel
theorem dX9_mixAnalysis_170 : decode cX9_mixAnalysis 170 = .ok (.iaload, 1) := by decide +kernel
theorem dX9_mixAnalysis_171 : decode cX9_mixAnalysis 171 = .ok (.i2l, 1) := by decide +kernel
theorem dX9_mixAnalysis_172 : decode cX9_mixAnalysis 172 = .ok (.invokevirtual 266, 3) := by decide +kernel
theorem dX9_mixAnalysis_175 : decode cX9_mixAnalysis 175 = .ok (.iinc 1 1, 3) := by decide +kernel
theorem dX9_mixAnalysis_178 : decode cX9_mixAnalysis 178 = .ok (.goto (-31), 3) := by decide +kernel
theorem dX9_mixAnalysis_181 : decode cX9_mixAnalysis 181 = .ok (.return_, 1) := by decide +kernel
theorem dX9_digest_0 : decode cX9_digest 0 = .ok (.aload_n 0, 1) := by decide +kernel
theorem dX9_digest_1 : decode cX9_digest 1 = .ok (.iconst 0, 1) := by decide +kernel
theorem dX9_digest_2 : decode cX9_digest 2 = .ok (.putfield 81, 3) := by decide +kernel
theorem dX9_digest_5 : decode cX9_digest 5 = .ok (.aload_n 0, 1) := by decide +kernel
theorem dX9_digest_6 : decode cX9_digest 6 = .ok (.ldc2_w 270, 3) := by decide +kernel
theorem dX9_digest_9 : decode cX9_digest 9 = .ok (.putfield 262, 3) := by decide +kernel
theorem dX9_digest_12 : decode cX9_digest 12 = .ok (.aload_n 0, 1) := by decide +kernel
theorem dX9_digest_13 : decode cX9_digest 13 = .ok (.aload_n 0, 1) := by decide +kernel
theorem dX9_digest_14 : decode cX9_digest 14 = .ok (.getfield 7, 3) := by decide +kernel
theorem dX9_digest_17 : decode cX9_digest 17 = .ok (.i2l, 1) := by decide +kernel
theorem dX9_digest_18 : decode cX9_digest 18 = .ok (.invokevirtual 266, 3) := by decide +kernel
theorem dX9_digest_21 : decode cX9_digest 21 = .ok (.aload_n 0, 1) := by decide +kernel
theorem dX9_digest_22 : decode cX9_digest 22 = .ok (.aload_n 0, 1) := by decide +kernel
theorem dX9_digest_23 : decode cX9_digest 23 = .ok (.getfield 101, 3) := by decide +kernel
theorem dX9_digest_26 : decode cX9_digest 26 = .ok (.i2l, 1) := by decide +kernel
theorem dX9_digest_27 : decode cX9_digest 27 = .ok (.invokevirtual 266, 3) := by decide +kernel
theorem dX9_digest_30 : decode cX9_digest 30 = .ok (.iconst 0, 1) := by decide +kernel
theorem dX9_digest_31 : decode cX9_digest 31 = .ok (.istore_n 1, 1) := by decide +kernel
theorem dX9_digest_32 : decode cX9_digest 32 = .ok (.iload_n 1, 1) := by decide +kernel
theorem dX9_digest_33 : decode cX9_digest 33 = .ok (.aload_n 0, 1) := by decide +kernel
theorem dX9_digest_34 : decode cX9_digest 34 = .ok (.getfield 101, 3) := by decide +kernel
theorem dX9_digest_37 : decode cX9_digest 37 = .ok (.if_icmp .ge 42, 3) := by decide +kernel
theorem dX9_digest_40 : decode cX9_digest 40 = .ok (.aload_n 0, 1) := by decide +kernel
theorem dX9_digest_41 : decode cX9_digest 41 = .ok (.aload_n 0, 1) := by decide +kernel
theorem dX9_digest_42 : decode cX9_digest 42 = .ok (.getfield 13, 3) := by decide +kernel
theorem dX9_digest_45 : decode cX9_digest 45 = .ok (.iload_n 1, 1) := by decide +kernel
theorem dX9_digest_46 : decode cX9_digest 46 = .ok (.iaload, 1) := by decide +kernel
theorem dX9_digest_47 : decode cX9_digest 47 = .ok (.i2l, 1) := by decide +kernel
theorem dX9_digest_48 : decode cX9_digest 48 = .ok (.invokevirtual 266, 3) := by decide +kernel
theorem dX9_digest_51 : decode cX9_digest 51 = .ok (.aload_n 0, 1) := by decide +kernel
theorem dX9_digest_52 : decode cX9_digest 52 = .ok (.aload_n 0, 1) := by decide +kernel
theorem dX9_digest_53 : decode cX9_digest 53 = .ok (.getfield 17, 3) := by decide +kernel
theorem dX9_digest_56 : decode cX9_digest 56 = .ok (.iload_n 1, 1) := by decide +kernel
theorem dX9_digest_57 : decode cX9_digest 57 = .ok (.iaload, 1) := by decide +kernel
theorem dX9_digest_58 : decode cX9_digest 58 = .ok (.i2l, 1) := by decide +kernel
theorem dX9_digest_59 : decode cX9_digest 59 = .ok (.invokevirtual 266, 3) := by decide +kernel
theorem dX9_digest_62 : decode cX9_digest 62 = .ok (.aload_n 0, 1) := by decide +kernel
theorem dX9_digest_63 : decode cX9_digest 63 = .ok (.aload_n 0, 1) := by decide +kernel
theorem dX9_digest_64 : decode cX9_digest 64 = .ok (.getfield 20, 3) := by decide +kernel
theorem dX9_digest_67 : decode cX9_digest 67 = .ok (.iload_n 1, 1) := by decide +kernel
theorem dX9_digest_68 : decode cX9_digest 68 = .ok (.iaload, 1) := by decide +kernel
theorem dX9_digest_69 : decode cX9_digest 69 = .ok (.i2l, 1) := by decide +kernel
theorem dX9_digest_70 : decode cX9_digest 70 = .ok (.invokevirtual 266, 3) := by decide +kernel
theorem dX9_digest_73 : decode cX9_digest 73 = .ok (.iinc 1 1, 3) := by decide +kernel
theorem dX9_digest_76 : decode cX9_digest 76 = .ok (.goto (-44), 3) := by decide +kernel
theorem dX9_digest_79 : decode cX9_digest 79 = .ok (.aload_n 0, 1) := by decide +kernel
theorem dX9_digest_80 : decode cX9_digest 80 = .ok (.aload_n 0, 1) := by decide +kernel
theorem dX9_digest_81 : decode cX9_digest 81 = .ok (.getfield 84, 3) := by decide +kernel
theorem dX9_digest_84 : decode cX9_digest 84 = .ok (.ifCond .eq 7, 3) := by decide +kernel
theorem dX9_digest_87 : decode cX9_digest 87 = .ok (.lconst 1, 1) := by decide +kernel
theorem dX9_digest_88 : decode cX9_digest 88 = .ok (.goto 4, 3) := by decide +kernel
theorem dX9_digest_91 : decode cX9_digest 91 = .ok (.lconst 0, 1) := by decide +kernel
theorem dX9_digest_92 : decode cX9_digest 92 = .ok (.invokevirtual 266, 3) := by decide +kernel
theorem dX9_digest_95 : decode cX9_digest 95 = .ok (.aload_n 0, 1) := by decide +kernel
theorem dX9_digest_96 : decode cX9_digest 96 = .ok (.getfield 84, 3) := by decide +kernel
theorem dX9_digest_99 : decode cX9_digest 99 = .ok (.ifCond .eq 7, 3) := by decide +kernel
theorem dX9_digest_102 : decode cX9_digest 102 = .ok (.aload_n 0, 1) := by decide +kernel
theorem dX9_digest_103 : decode cX9_digest 103 = .ok (.invokevirtual 272, 3) := by decide +kernel
theorem dX9_digest_106 : decode cX9_digest 106 = .ok (.aload_n 0, 1) := by decide +kernel
theorem dX9_digest_107 : decode cX9_digest 107 = .ok (.aload_n 0, 1) := by decide +kernel
theorem dX9_digest_108 : decode cX9_digest 108 = .ok (.invokevirtual 245, 3) := by decide +kernel
theorem dX9_digest_111 : decode cX9_digest 111 = .ok (.i2l, 1) := by decide +kernel
theorem dX9_digest_112 : decode cX9_digest 112 = .ok (.invokevirtual 266, 3) := by decide +kernel
theorem dX9_digest_115 : decode cX9_digest 115 = .ok (.aload_n 0, 1) := by decide +kernel
theorem dX9_digest_116 : decode cX9_digest 116 = .ok (.aload_n 0, 1) := by decide +kernel
theorem dX9_digest_117 : decode cX9_digest 117 = .ok (.getfield 94, 3) := by decide +kernel
theorem dX9_digest_120 : decode cX9_digest 120 = .ok (.i2l, 1) := by decide +kernel
theorem dX9_digest_121 : decode cX9_digest 121 = .ok (.invokevirtual 266, 3) := by decide +kernel
theorem dX9_digest_124 : decode cX9_digest 124 = .ok (.aload_n 0, 1) := by decide +kernel
theorem dX9_digest_125 : decode cX9_digest 125 = .ok (.aload_n 0, 1) := by decide +kernel
theorem dX9_digest_126 : decode cX9_digest 126 = .ok (.invokevirtual 254, 3) := by decide +kernel
theorem dX9_digest_129 : decode cX9_digest 129 = .ok (.i2l, 1) := by decide +kernel
theorem dX9_digest_130 : decode cX9_digest 130 = .ok (.invokevirtual 266, 3) := by decide +kernel
theorem dX9_digest_133 : decode cX9_digest 133 = .ok (.aload_n 0, 1) := by decide +kernel
theorem dX9_digest_134 : decode cX9_digest 134 = .ok (.aload_n 0, 1) := by decide +kernel
theorem dX9_digest_135 : decode cX9_digest 135 = .ok (.getfield 122, 3) := by decide +kernel
theorem dX9_digest_138 : decode cX9_digest 138 = .ok (.i2l, 1) := by decide +kernel
theorem dX9_digest_139 : decode cX9_digest 139 = .ok (.invokevirtual 266, 3) := by decide +kernel
theorem dX9_digest_142 : decode cX9_digest 142 = .ok (.iconst 0, 1) := by decide +kernel
theorem dX9_digest_143 : decode cX9_digest 143 = .ok (.istore_n 1, 1) := by decide +kernel
theorem dX9_digest_144 : decode cX9_digest 144 = .ok (.iload_n 1, 1) := by decide +kernel
theorem dX9_digest_145 : decode cX9_digest 145 = .ok (.aload_n 0, 1) := by decide +kernel
theorem dX9_digest_146 : decode cX9_digest 146 = .ok (.getfield 122, 3) := by decide +kernel
theorem dX9_digest_149 : decode cX9_digest 149 = .ok (.if_icmp .ge 20, 3) := by decide +kernel
theorem dX9_digest_152 : decode cX9_digest 152 = .ok (.aload_n 0, 1) := by decide +kernel
theorem dX9_digest_153 : decode cX9_digest 153 = .ok (.aload_n 0, 1) := by decide +kernel
theorem dX9_digest_154 : decode cX9_digest 154 = .ok (.getfield 23, 3) := by decide +kernel
theorem dX9_digest_157 : decode cX9_digest 157 = .ok (.iload_n 1, 1) := by decide +kernel
theorem dX9_digest_158 : decode cX9_digest 158 = .ok (.iaload, 1) := by decide +kernel
theorem dX9_digest_159 : decode cX9_digest 159 = .ok (.i2l, 1) := by decide +kernel
theorem dX9_digest_160 : decode cX9_digest 160 = .ok (.invokevirtual 266, 3) := by decide +kernel
theorem dX9_digest_163 : decode cX9_digest 163 = .ok (.iinc 1 1, 3) := by decide +kernel
theorem dX9_digest_166 : decode cX9_digest 166 = .ok (.goto (-22), 3) := by decide +kernel
theorem dX9_digest_169 : decode cX9_digest 169 = .ok (.aload_n 0, 1) := by decide +kernel
theorem dX9_digest_170 : decode cX9_digest 170 = .ok (.getfield 262, 3) := by decide +kernel
theorem dX9_digest_173 : decode cX9_digest 173 = .ok (.lreturn, 1) := by decide +kernel
theorem dL_setNodes_0 : decode cL_setNodes 0 = .ok (.aload_n 0, 1) := by decide +kernel
theorem dL_setNodes_1 : decode cL_setNodes 1 = .ok (.iload_n 1, 1) := by decide +kernel
theorem dL_setNodes_2 : decode cL_setNodes 2 = .ok (.invokevirtual 7, 3) := by decide +kernel
theorem dL_setNodes_5 : decode cL_setNodes 5 = .ok (.goto 6, 3) := by decide +kernel
theorem dL_setNodes_8 : decode cL_setNodes 8 = .ok (.astore_n 2, 1) := by decide +kernel
theorem dL_setNodes_9 : decode cL_setNodes 9 = .ok (.iconst 1, 1) := by decide +kernel
theorem dL_setNodes_10 : decode cL_setNodes 10 = .ok (.ireturn, 1) := by decide +kernel
theorem dL_setNodes_11 : decode cL_setNodes 11 = .ok (.iconst 0, 1) := by decide +kernel
theorem dL_setNodes_12 : decode cL_setNodes 12 = .ok (.ireturn, 1) := by decide +kernel
theorem dL_addEdge_0 : decode cL_addEdge 0 = .ok (.aload_n 3, 1) := by decide +kernel
theorem dL_addEdge_1 : decode cL_addEdge 1 = .ok (.iconst 0, 1) := by decide +kernel
theorem dL_addEdge_2 : decode cL_addEdge 2 = .ok (.aload_n 0, 1) := by decide +kernel
theorem dL_addEdge_3 : decode cL_addEdge 3 = .ok (.iload_n 1, 1) := by decide +kernel
theorem dL_addEdge_4 : decode cL_addEdge 4 = .ok (.iload_n 2, 1) := by decide +kernel
theorem dL_addEdge_5 : decode cL_addEdge 5 = .ok (.invokevirtual 15, 3) := by decide +kernel
theorem dL_addEdge_8 : decode cL_addEdge 8 = .ok (.i2l, 1) := by decide +kernel
theorem dL_addEdge_9 : decode cL_addEdge 9 = .ok (.lastore, 1) := by decide +kernel
theorem dL_addEdge_10 : decode cL_addEdge 10 = .ok (.goto 11, 3) := by decide +kernel
theorem dL_addEdge_13 : decode cL_addEdge 13 = .ok (.astore 4, 2) := by decide +kernel
theorem dL_addEdge_15 : decode cL_addEdge 15 = .ok (.iconst 1, 1) := by decide +kernel
theorem dL_addEdge_16 : decode cL_addEdge 16 = .ok (.ireturn, 1) := by decide +kernel
theorem dL_addEdge_17 : decode cL_addEdge 17 = .ok (.astore 4, 2) := by decide +kernel
theorem dL_addEdge_19 : decode cL_addEdge 19 = .ok (.iconst 2, 1) := by decide +kernel
theorem dL_addEdge_20 : decode cL_addEdge 20 = .ok (.ireturn, 1) := by decide +kernel
theorem dL_addEdge_21 : decode cL_addEdge 21 = .ok (.iconst 0, 1) := by decide +kernel
theorem dL_addEdge_22 : decode cL_addEdge 22 = .ok (.ireturn, 1) := by decide +kernel
theorem dL_setWeight_0 : decode cL_setWeight 0 = .ok (.aload_n 3, 1) := by decide +kernel
theorem dL_setWeight_1 : decode cL_setWeight 1 = .ok (.iconst 0, 1) := by decide +kernel
theorem dL_setWeight_2 : decode cL_setWeight 2 = .ok (.aload_n 0, 1) := by decide +kernel
theorem dL_setWeight_3 : decode cL_setWeight 3 = .ok (.iload_n 1, 1) := by decide +kernel
theorem dL_setWeight_4 : decode cL_setWeight 4 = .ok (.iload_n 2, 1) := by decide +kernel
theorem dL_setWeight_5 : decode cL_setWeight 5 = .ok (.invokevirtual 21, 3) := by decide +kernel
theorem dL_setWeight_8 : decode cL_setWeight 8 = .ok (.i2l, 1) := by decide +kernel
theorem dL_setWeight_9 : decode cL_setWeight 9 = .ok (.lastore, 1) := by decide +kernel
theorem dL_setWeight_10 : decode cL_setWeight 10 = .ok (.goto 11, 3) := by decide +kernel
theorem dL_setWeight_13 : decode cL_setWeight 13 = .ok (.astore 4, 2) := by decide +kernel
theorem dL_setWeight_15 : decode cL_setWeight 15 = .ok (.iconst 1, 1) := by decide +kernel
theorem dL_setWeight_16 : decode cL_setWeight 16 = .ok (.ireturn, 1) := by decide +kernel
theorem dL_setWeight_17 : decode cL_setWeight 17 = .ok (.astore 4, 2) := by decide +kernel
theorem dL_setWeight_19 : decode cL_setWeight 19 = .ok (.iconst 2, 1) := by decide +kernel
theorem dL_setWeight_20 : decode cL_setWeight 20 = .ok (.ireturn, 1) := by decide +kernel
theorem dL_setWeight_21 : decode cL_setWeight 21 = .ok (.iconst 0, 1) := by decide +kernel
theorem dL_setWeight_22 : decode cL_setWeight 22 = .ok (.ireturn, 1) := by decide +kernel
theorem dL_append_0 : decode cL_append 0 = .ok (.aload_n 2, 1) := by decide +kernel
theorem dL_append_1 : decode cL_append 1 = .ok (.iconst 0, 1) := by decide +kernel
theorem dL_append_2 : decode cL_append 2 = .ok (.aload_n 0, 1) := by decide +kernel
theorem dL_append_3 : decode cL_append 3 = .ok (.iload_n 1, 1) := by decide +kernel
theorem dL_append_4 : decode cL_append 4 = .ok (.invokevirtual 26, 3) := by decide +kernel
theorem dL_append_7 : decode cL_append 7 = .ok (.i2l, 1) := by decide +kernel
theorem dL_append_8 : decode cL_append 8 = .ok (.lastore, 1) := by decide +kernel
theorem dL_append_9 : decode cL_append 9 = .ok (.goto 9, 3) := by decide +kernel
theorem dL_append_12 : decode cL_append 12 = .ok (.astore_n 3, 1) := by decide +kernel
theorem dL_append_13 : decode cL_append 13 = .ok (.iconst 1, 1) := by decide +kernel
theorem dL_append_14 : decode cL_append 14 = .ok (.ireturn, 1) := by decide +kernel
theorem dL_append_15 : decode cL_append 15 = .ok (.astore_n 3, 1) := by decide +kernel
theorem dL_append_16 : decode cL_append 16 = .ok (.iconst 2, 1) := by decide +kernel
theorem dL_append_17 : decode cL_append 17 = .ok (.ireturn, 1) := by decide +kernel
theorem dL_append_18 : decode cL_append 18 = .ok (.iconst 0, 1) := by decide +kernel
theorem dL_append_19 : decode cL_append 19 = .ok (.ireturn, 1) := by decide +kernel
theorem dL_load_0 : decode cL_load 0 = .ok (.aload_n 1, 1) := by decide +kernel
theorem dL_load_1 : decode cL_load 1 = .ok (.iconst 0, 1) := by decide +kernel
theorem dL_load_2 : decode cL_load 2 = .ok (.aload_n 0, 1) := by decide +kernel
theorem dL_load_3 : decode cL_load 3 = .ok (.invokevirtual 30, 3) := by decide +kernel
theorem dL_load_6 : decode cL_load 6 = .ok (.i2l, 1) := by decide +kernel
theorem dL_load_7 : decode cL_load 7 = .ok (.lastore, 1) := by decide +kernel
theorem dL_load_8 : decode cL_load 8 = .ok (.goto 6, 3) := by decide +kernel
theorem dL_load_11 : decode cL_load 11 = .ok (.astore_n 2, 1) := by decide +kernel
theorem dL_load_12 : decode cL_load 12 = .ok (.iconst 1, 1) := by decide +kernel
theorem dL_load_13 : decode cL_load 13 = .ok (.ireturn, 1) := by decide +kernel
theorem dL_load_14 : decode cL_load 14 = .ok (.iconst 0, 1) := by decide +kernel
theorem dL_load_15 : decode cL_load 15 = .ok (.ireturn, 1) := by decide +kernel
theorem dL_pathsFrom_0 : decode cL_pathsFrom 0 = .ok (.aload_n 2, 1) := by decide +kernel
theorem dL_pathsFrom_1 : decode cL_pathsFrom 1 = .ok (.iconst 0, 1) := by decide +kernel
theorem dL_pathsFrom_2 : decode cL_pathsFrom 2 = .ok (.aload_n 0, 1) := by decide +kernel
theorem dL_pathsFrom_3 : decode cL_pathsFrom 3 = .ok (.iload_n 1, 1) := by decide +kernel
theorem dL_pathsFrom_4 : decode cL_pathsFrom 4 = .ok (.invokevirtual 34, 3) := by decide +kernel
theorem dL_pathsFrom_7 : decode cL_pathsFrom 7 = .ok (.i2l, 1) := by decide +kernel
theorem dL_pathsFrom_8 : decode cL_pathsFrom 8 = .ok (.lastore, 1) := by decide +kernel
theorem dL_pathsFrom_9 : decode cL_pathsFrom 9 = .ok (.goto 9, 3) := by decide +kernel
theorem dL_pathsFrom_12 : decode cL_pathsFrom 12 = .ok (.astore_n 3, 1) := by decide +kernel
theorem dL_pathsFrom_13 : decode cL_pathsFrom 13 = .ok (.iconst 1, 1) := by decide +kernel
theorem dL_pathsFrom_14 : decode cL_pathsFrom 14 = .ok (.ireturn, 1) := by decide +kernel
theorem dL_pathsFrom_15 : decode cL_pathsFrom 15 = .ok (.astore_n 3, 1) := by decide +kernel
theorem dL_pathsFrom_16 : decode cL_pathsFrom 16 = .ok (.iconst 2, 1) := by decide +kernel
theorem dL_pathsFrom_17 : decode cL_pathsFrom 17 = .ok (.ireturn, 1) := by decide +kernel
theorem dL_pathsFrom_18 : decode cL_pathsFrom 18 = .ok (.iconst 0, 1) := by decide +kernel
theorem dL_pathsFrom_19 : decode cL_pathsFrom 19 = .ok (.ireturn, 1) := by decide +kernel
theorem dL_isBack_0 : decode cL_isBack 0 = .ok (.aload_n 2, 1) := by decide +kernel
theorem dL_isBack_1 : decode cL_isBack 1 = .ok (.iconst 0, 1) := by decide +kernel
theorem dL_isBack_2 : decode cL_isBack 2 = .ok (.aload_n 0, 1) := by decide +kernel
theorem dL_isBack_3 : decode cL_isBack 3 = .ok (.iload_n 1, 1) := by decide +kernel
theorem dL_isBack_4 : decode cL_isBack 4 = .ok (.invokevirtual 37, 3) := by decide +kernel
theorem dL_isBack_7 : decode cL_isBack 7 = .ok (.ifCond .eq 7, 3) := by decide +kernel
theorem dL_isBack_10 : decode cL_isBack 10 = .ok (.lconst 1, 1) := by decide +kernel
theorem dL_isBack_11 : decode cL_isBack 11 = .ok (.goto 4, 3) := by decide +kernel
theorem dL_isBack_14 : decode cL_isBack 14 = .ok (.lconst 0, 1) := by decide +kernel
theorem dL_isBack_15 : decode cL_isBack 15 = .ok (.lastore, 1) := by decide +kernel
theorem dL_isBack_16 : decode cL_isBack 16 = .ok (.goto 9, 3) := by decide +kernel
theorem dL_isBack_19 : decode cL_isBack 19 = .ok (.astore_n 3, 1) := by decide +kernel
theorem dL_isBack_20 : decode cL_isBack 20 = .ok (.iconst 1, 1) := by decide +kernel
theorem dL_isBack_21 : decode cL_isBack 21 = .ok (.ireturn, 1) := by decide +kernel
theorem dL_isBack_22 : decode cL_isBack 22 = .ok (.astore_n 3, 1) := by decide +kernel
theorem dL_isBack_23 : decode cL_isBack 23 = .ok (.iconst 2, 1) := by decide +kernel
theorem dL_isBack_24 : decode cL_isBack 24 = .ok (.ireturn, 1) := by decide +kernel
theorem dL_isBack_25 : decode cL_isBack 25 = .ok (.iconst 0, 1) := by decide +kernel
theorem dL_isBack_26 : decode cL_isBack 26 = .ok (.ireturn, 1) := by decide +kernel
theorem dL_value_0 : decode cL_value 0 = .ok (.aload_n 3, 1) := by decide +kernel
theorem dL_value_1 : decode cL_value 1 = .ok (.iconst 0, 1) := by decide +kernel
theorem dL_value_2 : decode cL_value 2 = .ok (.aload_n 0, 1) := by decide +kernel
theorem dL_value_3 : decode cL_value 3 = .ok (.iload_n 1, 1) := by decide +kernel
theorem dL_value_4 : decode cL_value 4 = .ok (.iload_n 2, 1) := by decide +kernel
theorem dL_value_5 : decode cL_value 5 = .ok (.invokevirtual 41, 3) := by decide +kernel
theorem dL_value_8 : decode cL_value 8 = .ok (.i2l, 1) := by decide +kernel
theorem dL_value_9 : decode cL_value 9 = .ok (.lastore, 1) := by decide +kernel
theorem dL_value_10 : decode cL_value 10 = .ok (.goto 11, 3) := by decide +kernel
theorem dL_value_13 : decode cL_value 13 = .ok (.astore 4, 2) := by decide +kernel
theorem dL_value_15 : decode cL_value 15 = .ok (.iconst 1, 1) := by decide +kernel
theorem dL_value_16 : decode cL_value 16 = .ok (.ireturn, 1) := by decide +kernel
theorem dL_value_17 : decode cL_value 17 = .ok (.astore 4, 2) := by decide +kernel
theorem dL_value_19 : decode cL_value 19 = .ok (.iconst 2, 1) := by decide +kernel
theorem dL_value_20 : decode cL_value 20 = .ok (.ireturn, 1) := by decide +kernel
theorem dL_value_21 : decode cL_value 21 = .ok (.iconst 0, 1) := by decide +kernel
theorem dL_value_22 : decode cL_value 22 = .ok (.ireturn, 1) := by decide +kernel
theorem dL_increment_0 : decode cL_increment 0 = .ok (.aload_n 3, 1) := by decide +kernel
theorem dL_increment_1 : decode cL_increment 1 = .ok (.iconst 0, 1) := by decide +kernel
theorem dL_increment_2 : decode cL_increment 2 = .ok (.aload_n 0, 1) := by decide +kernel
theorem dL_increment_3 : decode cL_increment 3 = .ok (.iload_n 1, 1) := by decide +kernel
theorem dL_increment_4 : decode cL_increment 4 = .ok (.iload_n 2, 1) := by decide +kernel
theorem dL_increment_5 : decode cL_increment 5 = .ok (.invokevirtual 45, 3) := by decide +kernel
theorem dL_increment_8 : decode cL_increment 8 = .ok (.i2l, 1) := by decide +kernel
theorem dL_increment_9 : decode cL_increment 9 = .ok (.lastore, 1) := by decide +kernel
theorem dL_increment_10 : decode cL_increment 10 = .ok (.goto 11, 3) := by decide +kernel
theorem dL_increment_13 : decode cL_increment 13 = .ok (.astore 4, 2) := by decide +kernel
theorem dL_increment_15 : decode cL_increment 15 = .ok (.iconst 1, 1) := by decide +kernel
theorem dL_increment_16 : decode cL_increment 16 = .ok (.ireturn, 1) := by decide +kernel
theorem dL_increment_17 : decode cL_increment 17 = .ok (.astore 4, 2) := by decide +kernel
theorem dL_increment_19 : decode cL_increment 19 = .ok (.iconst 2, 1) := by decide +kernel
theorem dL_increment_20 : decode cL_increment 20 = .ok (.ireturn, 1) := by decide +kernel
theorem dL_increment_21 : decode cL_increment 21 = .ok (.iconst 0, 1) := by decide +kernel
theorem dL_increment_22 : decode cL_increment 22 = .ok (.ireturn, 1) := by decide +kernel
theorem dL_chords_0 : decode cL_chords 0 = .ok (.aload_n 2, 1) := by decide +kernel
theorem dL_chords_1 : decode cL_chords 1 = .ok (.iconst 0, 1) := by decide +kernel
theorem dL_chords_2 : decode cL_chords 2 = .ok (.aload_n 0, 1) := by decide +kernel
theorem dL_chords_3 : decode cL_chords 3 = .ok (.iload_n 1, 1) := by decide +kernel
theorem dL_chords_4 : decode cL_chords 4 = .ok (.invokevirtual 48, 3) := by decide +kernel
theorem dL_chords_7 : decode cL_chords 7 = .ok (.i2l, 1) := by decide +kernel
theorem dL_chords_8 : decode cL_chords 8 = .ok (.lastore, 1) := by decide +kernel
theorem dL_chords_9 : decode cL_chords 9 = .ok (.goto 6, 3) := by decide +kernel
theorem dL_chords_12 : decode cL_chords 12 = .ok (.astore_n 3, 1) := by decide +kernel
theorem dL_chords_13 : decode cL_chords 13 = .ok (.iconst 1, 1) := by decide +kernel
theorem dL_chords_14 : decode cL_chords 14 = .ok (.ireturn, 1) := by decide +kernel
theorem dL_chords_15 : decode cL_chords 15 = .ok (.iconst 0, 1) := by decide +kernel
theorem dL_chords_16 : decode cL_chords 16 = .ok (.ireturn, 1) := by decide +kernel
theorem dL_pathLength_0 : decode cL_pathLength 0 = .ok (.aload_n 2, 1) := by decide +kernel
theorem dL_pathLength_1 : decode cL_pathLength 1 = .ok (.iconst 0, 1) := by decide +kernel
theorem dL_pathLength_2 : decode cL_pathLength 2 = .ok (.aload_n 0, 1) := by decide +kernel
theorem dL_pathLength_3 : decode cL_pathLength 3 = .ok (.iload_n 1, 1) := by decide +kernel
theorem dL_pathLength_4 : decode cL_pathLength 4 = .ok (.invokevirtual 52, 3) := by decide +kernel
theorem dL_pathLength_7 : decode cL_pathLength 7 = .ok (.i2l, 1) := by decide +kernel
theorem dL_pathLength_8 : decode cL_pathLength 8 = .ok (.lastore, 1) := by decide +kernel
theorem dL_pathLength_9 : decode cL_pathLength 9 = .ok (.goto 9, 3) := by decide +kernel
theorem dL_pathLength_12 : decode cL_pathLength 12 = .ok (.astore_n 3, 1) := by decide +kernel
theorem dL_pathLength_13 : decode cL_pathLength 13 = .ok (.iconst 1, 1) := by decide +kernel
theorem dL_pathLength_14 : decode cL_pathLength 14 = .ok (.ireturn, 1) := by decide +kernel
theorem dL_pathLength_15 : decode cL_pathLength 15 = .ok (.astore_n 3, 1) := by decide +kernel
theorem dL_pathLength_16 : decode cL_pathLength 16 = .ok (.iconst 2, 1) := by decide +kernel
theorem dL_pathLength_17 : decode cL_pathLength 17 = .ok (.ireturn, 1) := by decide +kernel
theorem dL_pathLength_18 : decode cL_pathLength 18 = .ok (.iconst 0, 1) := by decide +kernel
theorem dL_pathLength_19 : decode cL_pathLength 19 = .ok (.ireturn, 1) := by decide +kernel
theorem dL_pathNode_0 : decode cL_pathNode 0 = .ok (.aload_n 3, 1) := by decide +kernel
theorem dL_pathNode_1 : decode cL_pathNode 1 = .ok (.iconst 0, 1) := by decide +kernel
theorem dL_pathNode_2 : decode cL_pathNode 2 = .ok (.aload_n 0, 1) := by decide +kernel
theorem dL_pathNode_3 : decode cL_pathNode 3 = .ok (.iload_n 1, 1) := by decide +kernel
theorem dL_pathNode_4 : decode cL_pathNode 4 = .ok (.iload_n 2, 1) := by decide +kernel
theorem dL_pathNode_5 : decode cL_pathNode 5 = .ok (.invokevirtual 55, 3) := by decide +kernel
theorem dL_pathNode_8 : decode cL_pathNode 8 = .ok (.i2l, 1) := by decide +kernel
theorem dL_pathNode_9 : decode cL_pathNode 9 = .ok (.lastore, 1) := by decide +kernel
theorem dL_pathNode_10 : decode cL_pathNode 10 = .ok (.goto 11, 3) := by decide +kernel
theorem dL_pathNode_13 : decode cL_pathNode 13 = .ok (.astore 4, 2) := by decide +kernel
theorem dL_pathNode_15 : decode cL_pathNode 15 = .ok (.iconst 1, 1) := by decide +kernel
theorem dL_pathNode_16 : decode cL_pathNode 16 = .ok (.ireturn, 1) := by decide +kernel
theorem dL_pathNode_17 : decode cL_pathNode 17 = .ok (.astore 4, 2) := by decide +kernel
theorem dL_pathNode_19 : decode cL_pathNode 19 = .ok (.iconst 2, 1) := by decide +kernel
theorem dL_pathNode_20 : decode cL_pathNode 20 = .ok (.ireturn, 1) := by decide +kernel
theorem dL_pathNode_21 : decode cL_pathNode 21 = .ok (.iconst 0, 1) := by decide +kernel
theorem dL_pathNode_22 : decode cL_pathNode 22 = .ok (.ireturn, 1) := by decide +kernel
theorem dL_pathEdge_0 : decode cL_pathEdge 0 = .ok (.aload_n 3, 1) := by decide +kernel
theorem dL_pathEdge_1 : decode cL_pathEdge 1 = .ok (.iconst 0, 1) := by decide +kernel
theorem dL_pathEdge_2 : decode cL_pathEdge 2 = .ok (.aload_n 0, 1) := by decide +kernel
theorem dL_pathEdge_3 : decode cL_pathEdge 3 = .ok (.iload_n 1, 1) := by decide +kernel
theorem dL_pathEdge_4 : decode cL_pathEdge 4 = .ok (.iload_n 2, 1) := by decide +kernel
theorem dL_pathEdge_5 : decode cL_pathEdge 5 = .ok (.invokevirtual 58, 3) := by decide +kernel
theorem dL_pathEdge_8 : decode cL_pathEdge 8 = .ok (.i2l, 1) := by decide +kernel
theorem dL_pathEdge_9 : decode cL_pathEdge 9 = .ok (.lastore, 1) := by decide +kernel
theorem dL_pathEdge_10 : decode cL_pathEdge 10 = .ok (.goto 11, 3) := by decide +kernel
theorem dL_pathEdge_13 : decode cL_pathEdge 13 = .ok (.astore 4, 2) := by decide +kernel
theorem dL_pathEdge_15 : decode cL_pathEdge 15 = .ok (.iconst 1, 1) := by decide +kernel
theorem dL_pathEdge_16 : decode cL_pathEdge 16 = .ok (.ireturn, 1) := by decide +kernel
theorem dL_pathEdge_17 : decode cL_pathEdge 17 = .ok (.astore 4, 2) := by decide +kernel
theorem dL_pathEdge_19 : decode cL_pathEdge 19 = .ok (.iconst 2, 1) := by decide +kernel
theorem dL_pathEdge_20 : decode cL_pathEdge 20 = .ok (.ireturn, 1) := by decide +kernel
theorem dL_pathEdge_21 : decode cL_pathEdge 21 = .ok (.iconst 0, 1) := by decide +kernel
theorem dL_pathEdge_22 : decode cL_pathEdge 22 = .ok (.ireturn, 1) := by decide +kernel
theorem dL_findPath_0 : decode cL_findPath 0 = .ok (.aload_n 1, 1) := by decide +kernel
theorem dL_findPath_1 : decode cL_findPath 1 = .ok (.iconst 0, 1) := by decide +kernel
theorem dL_findPath_2 : decode cL_findPath 2 = .ok (.aload_n 0, 1) := by decide +kernel
theorem dL_findPath_3 : decode cL_findPath 3 = .ok (.invokevirtual 61, 3) := by decide +kernel
theorem dL_findPath_6 : decode cL_findPath 6 = .ok (.i2l, 1) := by decide +kernel
theorem dL_findPath_7 : decode cL_findPath 7 = .ok (.lastore, 1) := by decide +kernel
theorem dL_findPath_8 : decode cL_findPath 8 = .ok (.goto 6, 3) := by decide +kernel
theorem dL_findPath_11 : decode cL_findPath 11 = .ok (.astore_n 2, 1) := by decide +kernel
theorem dL_findPath_12 : decode cL_findPath 12 = .ok (.iconst 1, 1) := by decide +kernel
theorem dL_findPath_13 : decode cL_findPath 13 = .ok (.ireturn, 1) := by decide +kernel
theorem dL_findPath_14 : decode cL_findPath 14 = .ok (.iconst 0, 1) := by decide +kernel
theorem dL_findPath_15 : decode cL_findPath 15 = .ok (.ireturn, 1) := by decide +kernel
theorem dL_start_0 : decode cL_start 0 = .ok (.aload_n 0, 1) := by decide +kernel
theorem dL_start_1 : decode cL_start 1 = .ok (.invokevirtual 64, 3) := by decide +kernel
theorem dL_start_4 : decode cL_start 4 = .ok (.goto 6, 3) := by decide +kernel
theorem dL_start_7 : decode cL_start 7 = .ok (.astore_n 1, 1) := by decide +kernel
theorem dL_start_8 : decode cL_start 8 = .ok (.iconst 1, 1) := by decide +kernel
theorem dL_start_9 : decode cL_start 9 = .ok (.ireturn, 1) := by decide +kernel
theorem dL_start_10 : decode cL_start 10 = .ok (.iconst 0, 1) := by decide +kernel
theorem dL_start_11 : decode cL_start 11 = .ok (.ireturn, 1) := by decide +kernel
theorem dL_step_0 : decode cL_step 0 = .ok (.aload_n 2, 1) := by decide +kernel
theorem dL_step_1 : decode cL_step 1 = .ok (.iconst 0, 1) := by decide +kernel
theorem dL_step_2 : decode cL_step 2 = .ok (.aload_n 0, 1) := by decide +kernel
theorem dL_step_3 : decode cL_step 3 = .ok (.iload_n 1, 1) := by decide +kernel
theorem dL_step_4 : decode cL_step 4 = .ok (.invokevirtual 67, 3) := by decide +kernel
theorem dL_step_7 : decode cL_step 7 = .ok (.i2l, 1) := by decide +kernel
theorem dL_step_8 : decode cL_step 8 = .ok (.lastore, 1) := by decide +kernel
theorem dL_step_9 : decode cL_step 9 = .ok (.goto 9, 3) := by decide +kernel
theorem dL_step_12 : decode cL_step 12 = .ok (.astore_n 3, 1) := by decide +kernel
theorem dL_step_13 : decode cL_step 13 = .ok (.iconst 1, 1) := by decide +kernel
theorem dL_step_14 : decode cL_step 14 = .ok (.ireturn, 1) := by decide +kernel
theorem dL_step_15 : decode cL_step 15 = .ok (.astore_n 3, 1) := by decide +kernel
theorem dL_step_16 : decode cL_step 16 = .ok (.iconst 2, 1) := by decide +kernel
theorem dL_step_17 : decode cL_step 17 = .ok (.ireturn, 1) := by decide +kernel
theorem dL_step_18 : decode cL_step 18 = .ok (.iconst 0, 1) := by decide +kernel
theorem dL_step_19 : decode cL_step 19 = .ok (.ireturn, 1) := by decide +kernel
theorem dL_count_0 : decode cL_count 0 = .ok (.aload_n 2, 1) := by decide +kernel
theorem dL_count_1 : decode cL_count 1 = .ok (.iconst 0, 1) := by decide +kernel
theorem dL_count_2 : decode cL_count 2 = .ok (.aload_n 0, 1) := by decide +kernel
theorem dL_count_3 : decode cL_count 3 = .ok (.iload_n 1, 1) := by decide +kernel
theorem dL_count_4 : decode cL_count 4 = .ok (.invokevirtual 70, 3) := by decide +kernel
theorem dL_count_7 : decode cL_count 7 = .ok (.i2l, 1) := by decide +kernel
theorem dL_count_8 : decode cL_count 8 = .ok (.lastore, 1) := by decide +kernel
theorem dL_count_9 : decode cL_count 9 = .ok (.goto 9, 3) := by decide +kernel
theorem dL_count_12 : decode cL_count 12 = .ok (.astore_n 3, 1) := by decide +kernel
theorem dL_count_13 : decode cL_count 13 = .ok (.iconst 1, 1) := by decide +kernel
theorem dL_count_14 : decode cL_count 14 = .ok (.ireturn, 1) := by decide +kernel
theorem dL_count_15 : decode cL_count 15 = .ok (.astore_n 3, 1) := by decide +kernel
theorem dL_count_16 : decode cL_count 16 = .ok (.iconst 2, 1) := by decide +kernel
theorem dL_count_17 : decode cL_count 17 = .ok (.ireturn, 1) := by decide +kernel
theorem dL_count_18 : decode cL_count 18 = .ok (.iconst 0, 1) := by decide +kernel
theorem dL_count_19 : decode cL_count 19 = .ok (.ireturn, 1) := by decide +kernel
theorem dL_share_0 : decode cL_share 0 = .ok (.aload_n 2, 1) := by decide +kernel
theorem dL_share_1 : decode cL_share 1 = .ok (.iconst 0, 1) := by decide +kernel
theorem dL_share_2 : decode cL_share 2 = .ok (.aload_n 0, 1) := by decide +kernel
theorem dL_share_3 : decode cL_share 3 = .ok (.iload_n 1, 1) := by decide +kernel
theorem dL_share_4 : decode cL_share 4 = .ok (.invokevirtual 73, 3) := by decide +kernel
theorem dL_share_7 : decode cL_share 7 = .ok (.dastore, 1) := by decide +kernel
theorem dL_share_8 : decode cL_share 8 = .ok (.goto 9, 3) := by decide +kernel
theorem dL_share_11 : decode cL_share 11 = .ok (.astore_n 3, 1) := by decide +kernel
theorem dL_share_12 : decode cL_share 12 = .ok (.iconst 1, 1) := by decide +kernel
theorem dL_share_13 : decode cL_share 13 = .ok (.ireturn, 1) := by decide +kernel
theorem dL_share_14 : decode cL_share 14 = .ok (.astore_n 3, 1) := by decide +kernel
theorem dL_share_15 : decode cL_share 15 = .ok (.iconst 2, 1) := by decide +kernel
theorem dL_share_16 : decode cL_share 16 = .ok (.ireturn, 1) := by decide +kernel
theorem dL_share_17 : decode cL_share 17 = .ok (.iconst 0, 1) := by decide +kernel
theorem dL_share_18 : decode cL_share 18 = .ok (.ireturn, 1) := by decide +kernel
theorem dL_edgeFrequency_0 : decode cL_edgeFrequency 0 = .ok (.aload_n 2, 1) := by decide +kernel
theorem dL_edgeFrequency_1 : decode cL_edgeFrequency 1 = .ok (.iconst 0, 1) := by decide +kernel
theorem dL_edgeFrequency_2 : decode cL_edgeFrequency 2 = .ok (.aload_n 0, 1) := by decide +kernel
theorem dL_edgeFrequency_3 : decode cL_edgeFrequency 3 = .ok (.iload_n 1, 1) := by decide +kernel
theorem dL_edgeFrequency_4 : decode cL_edgeFrequency 4 = .ok (.invokevirtual 77, 3) := by decide +kernel
theorem dL_edgeFrequency_7 : decode cL_edgeFrequency 7 = .ok (.i2l, 1) := by decide +kernel
theorem dL_edgeFrequency_8 : decode cL_edgeFrequency 8 = .ok (.lastore, 1) := by decide +kernel
theorem dL_edgeFrequency_9 : decode cL_edgeFrequency 9 = .ok (.goto 9, 3) := by decide +kernel
theorem dL_edgeFrequency_12 : decode cL_edgeFrequency 12 = .ok (.astore_n 3, 1) := by decide +kernel
theorem dL_edgeFrequency_13 : decode cL_edgeFrequency 13 = .ok (.iconst 1, 1) := by decide +kernel
theorem dL_edgeFrequency_14 : decode cL_edgeFrequency 14 = .ok (.ireturn, 1) := by decide +kernel
theorem dL_edgeFrequency_15 : decode cL_edgeFrequency 15 = .ok (.astore_n 3, 1) := by decide +kernel
theorem dL_edgeFrequency_16 : decode cL_edgeFrequency 16 = .ok (.iconst 2, 1) := by decide +kernel
theorem dL_edgeFrequency_17 : decode cL_edgeFrequency 17 = .ok (.ireturn, 1) := by decide +kernel
theorem dL_edgeFrequency_18 : decode cL_edgeFrequency 18 = .ok (.iconst 0, 1) := by decide +kernel
theorem dL_edgeFrequency_19 : decode cL_edgeFrequency 19 = .ok (.ireturn, 1) := by decide +kernel
theorem dL_law_0 : decode cL_law 0 = .ok (.new 8, 3) := by decide +kernel
theorem dL_law_3 : decode cL_law 3 = .ok (.dup, 1) := by decide +kernel
theorem dL_law_4 : decode cL_law 4 = .ok (.invokespecial 80, 3) := by decide +kernel
theorem dL_law_7 : decode cL_law 7 = .ok (.astore_n 1, 1) := by decide +kernel
theorem dL_law_8 : decode cL_law 8 = .ok (.new 81, 3) := by decide +kernel
theorem dL_law_11 : decode cL_law 11 = .ok (.dup, 1) := by decide +kernel
theorem dL_law_12 : decode cL_law 12 = .ok (.invokespecial 83, 3) := by decide +kernel
theorem dL_law_15 : decode cL_law 15 = .ok (.astore_n 2, 1) := by decide +kernel
theorem dL_law_16 : decode cL_law 16 = .ok (.iconst 1, 1) := by decide +kernel
theorem dL_law_17 : decode cL_law 17 = .ok (.newarray .long, 2) := by decide +kernel
theorem dL_law_19 : decode cL_law 19 = .ok (.astore_n 3, 1) := by decide +kernel
theorem dL_law_20 : decode cL_law 20 = .ok (.iconst 1, 1) := by decide +kernel
theorem dL_law_21 : decode cL_law 21 = .ok (.newarray .double, 2) := by decide +kernel
theorem dL_law_23 : decode cL_law 23 = .ok (.astore 4, 2) := by decide +kernel
theorem dL_law_25 : decode cL_law 25 = .ok (.iconst 0, 1) := by decide +kernel
theorem dL_law_26 : decode cL_law 26 = .ok (.istore 5, 2) := by decide +kernel
theorem dL_law_28 : decode cL_law 28 = .ok (.iload 5, 2) := by decide +kernel
theorem dL_law_30 : decode cL_law 30 = .ok (.aload_n 0, 1) := by decide +kernel
theorem dL_law_31 : decode cL_law 31 = .ok (.arraylength, 1) := by decide +kernel
theorem dL_law_32 : decode cL_law 32 = .ok (.iconst 3, 1) := by decide +kernel
theorem dL_law_33 : decode cL_law 33 = .ok (.isub, 1) := by decide +kernel
theorem dL_law_34 : decode cL_law 34 = .ok (.if_icmp .gt 1397, 3) := by decide +kernel
theorem dL_law_37 : decode cL_law 37 = .ok (.aload_n 0, 1) := by decide +kernel
theorem dL_law_38 : decode cL_law 38 = .ok (.iload 5, 2) := by decide +kernel
theorem dL_law_40 : decode cL_law 40 = .ok (.iaload, 1) := by decide +kernel
theorem dL_law_41 : decode cL_law 41 = .ok (.bipush 31, 2) := by decide +kernel
theorem dL_law_43 : decode cL_law 43 = .ok (.iand, 1) := by decide +kernel
theorem dL_law_44 : decode cL_law 44 = .ok (.tableswitch 1381 0 26 #[124, 160, 228, 296, 309, 365, 378, 391, 435, 448, 504, 567, 651, 735, 807, 863, 931, 1015, 1059, 1083, 1139, 1152, 1165, 1221, 1298, 1311, 1367], 124) := by decide +kernel
theorem dL_law_168 : decode cL_law 168 = .ok (.aload_n 1, 1) := by decide +kernel
theorem dL_law_169 : decode cL_law 169 = .ok (.aload_n 0, 1) := by decide +kernel
theorem dL_law_170 : decode cL_law 170 = .ok (.iload 5, 2) := by decide +kernel
theorem dL_law_172 : decode cL_law 172 = .ok (.iconst 1, 1) := by decide +kernel
theorem dL_law_173 : decode cL_law 173 = .ok (.iadd, 1) := by decide +kernel
theorem dL_law_174 : decode cL_law 174 = .ok (.iaload, 1) := by decide +kernel
theorem dL_law_175 : decode cL_law 175 = .ok (.invokestatic 84, 3) := by decide +kernel
theorem dL_law_178 : decode cL_law 178 = .ok (.istore 6, 2) := by decide +kernel
theorem dL_law_180 : decode cL_law 180 = .ok (.aload_n 2, 1) := by decide +kernel
theorem dL_law_181 : decode cL_law 181 = .ok (.aload_n 0, 1) := by decide +kernel
theorem dL_law_182 : decode cL_law 182 = .ok (.iload 5, 2) := by decide +kernel
theorem dL_law_184 : decode cL_law 184 = .ok (.iconst 1, 1) := by decide +kernel
theorem dL_law_185 : decode cL_law 185 = .ok (.iadd, 1) := by decide +kernel
theorem dL_law_186 : decode cL_law 186 = .ok (.iaload, 1) := by decide +kernel
theorem dL_law_187 : decode cL_law 187 = .ok (.invokevirtual 89, 3) := by decide +kernel
theorem dL_law_190 : decode cL_law 190 = .ok (.aload_n 2, 1) := by decide +kernel
theorem dL_law_191 : decode cL_law 191 = .ok (.invokevirtual 90, 3) := by decide +kernel
theorem dL_law_194 : decode cL_law 194 = .ok (.iload 6, 2) := by decide +kernel
theorem dL_law_196 : decode cL_law 196 = .ok (.if_icmp .eq 5, 3) := by decide +kernel
theorem dL_law_199 : decode cL_law 199 = .ok (.iconst 0, 1) := by decide +kernel
theorem dL_law_200 : decode cL_law 200 = .ok (.ireturn, 1) := by decide +kernel
theorem dL_law_201 : decode cL_law 201 = .ok (.goto 1224, 3) := by decide +kernel
theorem dL_law_204 : decode cL_law 204 = .ok (.aload_n 1, 1) := by decide +kernel
theorem dL_law_205 : decode cL_law 205 = .ok (.aload_n 0, 1) := by decide +kernel
theorem dL_law_206 : decode cL_law 206 = .ok (.iload 5, 2) := by decide +kernel
theorem dL_law_208 : decode cL_law 208 = .ok (.iconst 1, 1) := by decide +kernel
theorem dL_law_209 : decode cL_law 209 = .ok (.iadd, 1) := by decide +kernel
theorem dL_law_210 : decode cL_law 210 = .ok (.iaload, 1) := by decide +kernel
theorem dL_law_211 : decode cL_law 211 = .ok (.aload_n 0, 1) := by decide +kernel
theorem dL_law_212 : decode cL_law 212 = .ok (.iload 5, 2) := by decide +kernel
theorem dL_law_214 : decode cL_law 214 = .ok (.iconst 2, 1) := by decide +kernel
theorem dL_law_215 : decode cL_law 215 = .ok (.iadd, 1) := by decide +kernel
theorem dL_law_216 : decode cL_law 216 = .ok (.iaload, 1) := by decide +kernel
theorem dL_law_217 : decode cL_law 217 = .ok (.aload_n 3, 1) := by decide +kernel
theorem dL_law_218 : decode cL_law 218 = .ok (.invokestatic 93, 3) := by decide +kernel
theorem dL_law_221 : decode cL_law 221 = .ok (.istore 6, 2) := by decide +kernel
theorem dL_law_223 : decode cL_law 223 = .ok (.aload_n 2, 1) := by decide +kernel
theorem dL_law_224 : decode cL_law 224 = .ok (.aload_n 0, 1) := by decide +kernel
theorem dL_law_225 : decode cL_law 225 = .ok (.iload 5, 2) := by decide +kernel
theorem dL_law_227 : decode cL_law 227 = .ok (.iconst 1, 1) := by decide +kernel
theorem dL_law_228 : decode cL_law 228 = .ok (.iadd, 1) := by decide +kernel
theorem dL_law_229 : decode cL_law 229 = .ok (.iaload, 1) := by decide +kernel
theorem dL_law_230 : decode cL_law 230 = .ok (.aload_n 0, 1) := by decide +kernel
theorem dL_law_231 : decode cL_law 231 = .ok (.iload 5, 2) := by decide +kernel
theorem dL_law_233 : decode cL_law 233 = .ok (.iconst 2, 1) := by decide +kernel
theorem dL_law_234 : decode cL_law 234 = .ok (.iadd, 1) := by decide +kernel
theorem dL_law_235 : decode cL_law 235 = .ok (.iaload, 1) := by decide +kernel
theorem dL_law_236 : decode cL_law 236 = .ok (.invokevirtual 96, 3) := by decide +kernel
theorem dL_law_239 : decode cL_law 239 = .ok (.istore 7, 2) := by decide +kernel
theorem dL_law_241 : decode cL_law 241 = .ok (.aload_n 2, 1) := by decide +kernel
theorem dL_law_242 : decode cL_law 242 = .ok (.invokevirtual 90, 3) := by decide +kernel
theorem dL_law_245 : decode cL_law 245 = .ok (.iload 6, 2) := by decide +kernel
theorem dL_law_247 : decode cL_law 247 = .ok (.if_icmp .eq 5, 3) := by decide +kernel
theorem dL_law_250 : decode cL_law 250 = .ok (.iconst 0, 1) := by decide +kernel
theorem dL_law_251 : decode cL_law 251 = .ok (.ireturn, 1) := by decide +kernel
theorem dL_law_252 : decode cL_law 252 = .ok (.iload 6, 2) := by decide +kernel
theorem dL_law_254 : decode cL_law 254 = .ok (.ifCond .ne 15, 3) := by decide +kernel
theorem dL_law_257 : decode cL_law 257 = .ok (.aload_n 3, 1) := by decide +kernel
theorem dL_law_258 : decode cL_law 258 = .ok (.iconst 0, 1) := by decide +kernel
theorem dL_law_259 : decode cL_law 259 = .ok (.laload, 1) := by decide +kernel
theorem dL_law_260 : decode cL_law 260 = .ok (.iload 7, 2) := by decide +kernel
theorem dL_law_262 : decode cL_law 262 = .ok (.i2l, 1) := by decide +kernel
theorem dL_law_263 : decode cL_law 263 = .ok (.lcmp, 1) := by decide +kernel
theorem dL_law_264 : decode cL_law 264 = .ok (.ifCond .eq 5, 3) := by decide +kernel
theorem dL_law_267 : decode cL_law 267 = .ok (.iconst 0, 1) := by decide +kernel
theorem dL_law_268 : decode cL_law 268 = .ok (.ireturn, 1) := by decide +kernel
theorem dL_law_269 : decode cL_law 269 = .ok (.goto 1156, 3) := by decide +kernel
theorem dL_law_272 : decode cL_law 272 = .ok (.aload_n 1, 1) := by decide +kernel
theorem dL_law_273 : decode cL_law 273 = .ok (.aload_n 0, 1) := by decide +kernel
theorem dL_law_274 : decode cL_law 274 = .ok (.iload 5, 2) := by decide +kernel
theorem dL_law_276 : decode cL_law 276 = .ok (.iconst 1, 1) := by decide +kernel
theorem dL_law_277 : decode cL_law 277 = .ok (.iadd, 1) := by decide +kernel
theorem dL_law_278 : decode cL_law 278 = .ok (.iaload, 1) := by decide +kernel
theorem dL_law_279 : decode cL_law 279 = .ok (.aload_n 0, 1) := by decide +kernel
theorem dL_law_280 : decode cL_law 280 = .ok (.iload 5, 2) := by decide +kernel
theorem dL_law_282 : decode cL_law 282 = .ok (.iconst 2, 1) := by decide +kernel
theorem dL_law_283 : decode cL_law 283 = .ok (.iadd, 1) := by decide +kernel
theorem dL_law_284 : decode cL_law 284 = .ok (.iaload, 1) := by decide +kernel
theorem dL_law_285 : decode cL_law 285 = .ok (.aload_n 3, 1) := by decide +kernel
theorem dL_law_286 : decode cL_law 286 = .ok (.invokestatic 97, 3) := by decide +kernel
theorem dL_law_289 : decode cL_law 289 = .ok (.istore 6, 2) := by decide +kernel
theorem dL_law_291 : decode cL_law 291 = .ok (.aload_n 2, 1) := by decide +kernel
theorem dL_law_292 : decode cL_law 292 = .ok (.aload_n 0, 1) := by decide +kernel
theorem dL_law_293 : decode cL_law 293 = .ok (.iload 5, 2) := by decide +kernel
theorem dL_law_295 : decode cL_law 295 = .ok (.iconst 1, 1) := by decide +kernel
theorem dL_law_296 : decode cL_law 296 = .ok (.iadd, 1) := by decide +kernel
theorem dL_law_297 : decode cL_law 297 = .ok (.iaload, 1) := by decide +kernel
theorem dL_law_298 : decode cL_law 298 = .ok (.aload_n 0, 1) := by decide +kernel
theorem dL_law_299 : decode cL_law 299 = .ok (.iload 5, 2) := by decide +kernel
theorem dL_law_301 : decode cL_law 301 = .ok (.iconst 2, 1) := by decide +kernel
theorem dL_law_302 : decode cL_law 302 = .ok (.iadd, 1) := by decide +kernel
theorem dL_law_303 : decode cL_law 303 = .ok (.iaload, 1) := by decide +kernel
theorem dL_law_304 : decode cL_law 304 = .ok (.invokevirtual 99, 3) := by decide +kernel
theorem dL_law_307 : decode cL_law 307 = .ok (.istore 7, 2) := by decide +kernel
theorem dL_law_309 : decode cL_law 309 = .ok (.aload_n 2, 1) := by decide +kernel
theorem dL_law_310 : decode cL_law 310 = .ok (.invokevirtual 90, 3) := by decide +kernel
theorem dL_law_313 : decode cL_law 313 = .ok (.iload 6, 2) := by decide +kernel
theorem dL_law_315 : decode cL_law 315 = .ok (.if_icmp .eq 5, 3) := by decide +kernel
theorem dL_law_318 : decode cL_law 318 = .ok (.iconst 0, 1) := by decide +kernel
theorem dL_law_319 : decode cL_law 319 = .ok (.ireturn, 1) := by decide +kernel
theorem dL_law_320 : decode cL_law 320 = .ok (.iload 6, 2) := by decide +kernel
theorem dL_law_322 : decode cL_law 322 = .ok (.ifCond .ne 15, 3) := by decide +kernel
theorem dL_law_325 : decode cL_law 325 = .ok (.aload_n 3, 1) := by decide +kernel
theorem dL_law_326 : decode cL_law 326 = .ok (.iconst 0, 1) := by decide +kernel
theorem dL_law_327 : decode cL_law 327 = .ok (.laload, 1) := by decide +kernel
theorem dL_law_328 : decode cL_law 328 = .ok (.iload 7, 2) := by decide +kernel
theorem dL_law_330 : decode cL_law 330 = .ok (.i2l, 1) := by decide +kernel
theorem dL_law_331 : decode cL_law 331 = .ok (.lcmp, 1) := by decide +kernel
theorem dL_law_332 : decode cL_law 332 = .ok (.ifCond .eq 5, 3) := by decide +kernel
theorem dL_law_335 : decode cL_law 335 = .ok (.iconst 0, 1) := by decide +kernel
theorem dL_law_336 : decode cL_law 336 = .ok (.ireturn, 1) := by decide +kernel
theorem dL_law_337 : decode cL_law 337 = .ok (.goto 1088, 3) := by decide +kernel
theorem dL_law_340 : decode cL_law 340 = .ok (.aload_n 1, 1) := by decide +kernel
theorem dL_law_341 : decode cL_law 341 = .ok (.invokevirtual 100, 3) := by decide +kernel
theorem dL_law_344 : decode cL_law 344 = .ok (.aload_n 2, 1) := by decide +kernel
theorem dL_law_345 : decode cL_law 345 = .ok (.invokevirtual 103, 3) := by decide +kernel
theorem dL_law_348 : decode cL_law 348 = .ok (.if_icmp .eq 1077, 3) := by decide +kernel
theorem dL_law_351 : decode cL_law 351 = .ok (.iconst 0, 1) := by decide +kernel
theorem dL_law_352 : decode cL_law 352 = .ok (.ireturn, 1) := by decide +kernel
theorem dL_law_353 : decode cL_law 353 = .ok (.aload_n 1, 1) := by decide +kernel
theorem dL_law_354 : decode cL_law 354 = .ok (.aload_n 0, 1) := by decide +kernel
theorem dL_law_355 : decode cL_law 355 = .ok (.iload 5, 2) := by decide +kernel
theorem dL_law_357 : decode cL_law 357 = .ok (.iconst 1, 1) := by decide +kernel
theorem dL_law_358 : decode cL_law 358 = .ok (.iadd, 1) := by decide +kernel
theorem dL_law_359 : decode cL_law 359 = .ok (.iaload, 1) := by decide +kernel
theorem dL_law_360 : decode cL_law 360 = .ok (.aload_n 3, 1) := by decide +kernel
theorem dL_law_361 : decode cL_law 361 = .ok (.invokestatic 104, 3) := by decide +kernel
theorem dL_law_364 : decode cL_law 364 = .ok (.istore 6, 2) := by decide +kernel
theorem dL_law_366 : decode cL_law 366 = .ok (.aload_n 2, 1) := by decide +kernel
theorem dL_law_367 : decode cL_law 367 = .ok (.aload_n 0, 1) := by decide +kernel
theorem dL_law_368 : decode cL_law 368 = .ok (.iload 5, 2) := by decide +kernel
theorem dL_law_370 : decode cL_law 370 = .ok (.iconst 1, 1) := by decide +kernel
theorem dL_law_371 : decode cL_law 371 = .ok (.iadd, 1) := by decide +kernel
theorem dL_law_372 : decode cL_law 372 = .ok (.iaload, 1) := by decide +kernel
theorem dL_law_373 : decode cL_law 373 = .ok (.invokevirtual 107, 3) := by decide +kernel
theorem dL_law_376 : decode cL_law 376 = .ok (.istore 7, 2) := by decide +kernel
theorem dL_law_378 : decode cL_law 378 = .ok (.aload_n 2, 1) := by decide +kernel
theorem dL_law_379 : decode cL_law 379 = .ok (.invokevirtual 90, 3) := by decide +kernel
theorem dL_law_382 : decode cL_law 382 = .ok (.iload 6, 2) := by decide +kernel
theorem dL_law_384 : decode cL_law 384 = .ok (.if_icmp .eq 5, 3) := by decide +kernel
theorem dL_law_387 : decode cL_law 387 = .ok (.iconst 0, 1) := by decide +kernel
theorem dL_law_388 : decode cL_law 388 = .ok (.ireturn, 1) := by decide +kernel
theorem dL_law_389 : decode cL_law 389 = .ok (.iload 6, 2) := by decide +kernel
theorem dL_law_391 : decode cL_law 391 = .ok (.ifCond .ne 15, 3) := by decide +kernel
theorem dL_law_394 : decode cL_law 394 = .ok (.aload_n 3, 1) := by decide +kernel
theorem dL_law_395 : decode cL_law 395 = .ok (.iconst 0, 1) := by decide +kernel
theorem dL_law_396 : decode cL_law 396 = .ok (.laload, 1) := by decide +kernel
theorem dL_law_397 : decode cL_law 397 = .ok (.iload 7, 2) := by decide +kernel
theorem dL_law_399 : decode cL_law 399 = .ok (.i2l, 1) := by decide +kernel
theorem dL_law_400 : decode cL_law 400 = .ok (.lcmp, 1) := by decide +kernel
theorem dL_law_401 : decode cL_law 401 = .ok (.ifCond .eq 5, 3) := by decide +kernel
theorem dL_law_404 : decode cL_law 404 = .ok (.iconst 0, 1) := by decide +kernel
theorem dL_law_405 : decode cL_law 405 = .ok (.ireturn, 1) := by decide +kernel
theorem dL_law_406 : decode cL_law 406 = .ok (.goto 1019, 3) := by decide +kernel
theorem dL_law_409 : decode cL_law 409 = .ok (.aload_n 1, 1) := by decide +kernel
theorem dL_law_410 : decode cL_law 410 = .ok (.invokevirtual 108, 3) := by decide +kernel
theorem dL_law_413 : decode cL_law 413 = .ok (.aload_n 2, 1) := by decide +kernel
theorem dL_law_414 : decode cL_law 414 = .ok (.invokevirtual 111, 3) := by decide +kernel
theorem dL_law_417 : decode cL_law 417 = .ok (.if_icmp .eq 1008, 3) := by decide +kernel
theorem dL_law_420 : decode cL_law 420 = .ok (.iconst 0, 1) := by decide +kernel
theorem dL_law_421 : decode cL_law 421 = .ok (.ireturn, 1) := by decide +kernel
theorem dL_law_422 : decode cL_law 422 = .ok (.aload_n 1, 1) := by decide +kernel
theorem dL_law_423 : decode cL_law 423 = .ok (.invokevirtual 112, 3) := by decide +kernel
theorem dL_law_426 : decode cL_law 426 = .ok (.aload_n 2, 1) := by decide +kernel
theorem dL_law_427 : decode cL_law 427 = .ok (.invokevirtual 115, 3) := by decide +kernel
theorem dL_law_430 : decode cL_law 430 = .ok (.if_icmp .eq 995, 3) := by decide +kernel
theorem dL_law_433 : decode cL_law 433 = .ok (.iconst 0, 1) := by decide +kernel
theorem dL_law_434 : decode cL_law 434 = .ok (.ireturn, 1) := by decide +kernel
theorem dL_law_435 : decode cL_law 435 = .ok (.aload_n 1, 1) := by decide +kernel
theorem dL_law_436 : decode cL_law 436 = .ok (.aload_n 3, 1) := by decide +kernel
theorem dL_law_437 : decode cL_law 437 = .ok (.invokestatic 116, 3) := by decide +kernel
theorem dL_law_440 : decode cL_law 440 = .ok (.istore 6, 2) := by decide +kernel
theorem dL_law_442 : decode cL_law 442 = .ok (.aload_n 2, 1) := by decide +kernel
theorem dL_law_443 : decode cL_law 443 = .ok (.invokevirtual 119, 3) := by decide +kernel
theorem dL_law_446 : decode cL_law 446 = .ok (.istore 7, 2) := by decide +kernel
theorem dL_law_448 : decode cL_law 448 = .ok (.aload_n 2, 1) := by decide +kernel
theorem dL_law_449 : decode cL_law 449 = .ok (.invokevirtual 90, 3) := by decide +kernel
theorem dL_law_452 : decode cL_law 452 = .ok (.iload 6, 2) := by decide +kernel
theorem dL_law_454 : decode cL_law 454 = .ok (.if_icmp .eq 5, 3) := by decide +kernel
theorem dL_law_457 : decode cL_law 457 = .ok (.iconst 0, 1) := by decide +kernel
theorem dL_law_458 : decode cL_law 458 = .ok (.ireturn, 1) := by decide +kernel
theorem dL_law_459 : decode cL_law 459 = .ok (.iload 6, 2) := by decide +kernel
theorem dL_law_461 : decode cL_law 461 = .ok (.ifCond .ne 15, 3) := by decide +kernel
theorem dL_law_464 : decode cL_law 464 = .ok (.aload_n 3, 1) := by decide +kernel
theorem dL_law_465 : decode cL_law 465 = .ok (.iconst 0, 1) := by decide +kernel
theorem dL_law_466 : decode cL_law 466 = .ok (.laload, 1) := by decide +kernel
theorem dL_law_467 : decode cL_law 467 = .ok (.iload 7, 2) := by decide +kernel
theorem dL_law_469 : decode cL_law 469 = .ok (.i2l, 1) := by decide +kernel
theorem dL_law_470 : decode cL_law 470 = .ok (.lcmp, 1) := by decide +kernel
theorem dL_law_471 : decode cL_law 471 = .ok (.ifCond .eq 5, 3) := by decide +kernel
theorem dL_law_474 : decode cL_law 474 = .ok (.iconst 0, 1) := by decide +kernel
theorem dL_law_475 : decode cL_law 475 = .ok (.ireturn, 1) := by decide +kernel
theorem dL_law_476 : decode cL_law 476 = .ok (.goto 949, 3) := by decide +kernel
theorem dL_law_479 : decode cL_law 479 = .ok (.aload_n 1, 1) := by decide +kernel
theorem dL_law_480 : decode cL_law 480 = .ok (.invokevirtual 120, 3) := by decide +kernel
theorem dL_law_483 : decode cL_law 483 = .ok (.aload_n 2, 1) := by decide +kernel
theorem dL_law_484 : decode cL_law 484 = .ok (.invokevirtual 123, 3) := by decide +kernel
theorem dL_law_487 : decode cL_law 487 = .ok (.if_icmp .eq 938, 3) := by decide +kernel
theorem dL_law_490 : decode cL_law 490 = .ok (.iconst 0, 1) := by decide +kernel
theorem dL_law_491 : decode cL_law 491 = .ok (.ireturn, 1) := by decide +kernel
theorem dL_law_492 : decode cL_law 492 = .ok (.aload_n 1, 1) := by decide +kernel
theorem dL_law_493 : decode cL_law 493 = .ok (.aload_n 0, 1) := by decide +kernel
theorem dL_law_494 : decode cL_law 494 = .ok (.iload 5, 2) := by decide +kernel
theorem dL_law_496 : decode cL_law 496 = .ok (.iconst 1, 1) := by decide +kernel
theorem dL_law_497 : decode cL_law 497 = .ok (.iadd, 1) := by decide +kernel
theorem dL_law_498 : decode cL_law 498 = .ok (.iaload, 1) := by decide +kernel
theorem dL_law_499 : decode cL_law 499 = .ok (.aload_n 3, 1) := by decide +kernel
theorem dL_law_500 : decode cL_law 500 = .ok (.invokestatic 124, 3) := by decide +kernel
theorem dL_law_503 : decode cL_law 503 = .ok (.istore 6, 2) := by decide +kernel
theorem dL_law_505 : decode cL_law 505 = .ok (.aload_n 2, 1) := by decide +kernel
theorem dL_law_506 : decode cL_law 506 = .ok (.aload_n 0, 1) := by decide +kernel
theorem dL_law_507 : decode cL_law 507 = .ok (.iload 5, 2) := by decide +kernel
theorem dL_law_509 : decode cL_law 509 = .ok (.iconst 1, 1) := by decide +kernel
theorem dL_law_510 : decode cL_law 510 = .ok (.iadd, 1) := by decide +kernel
theorem dL_law_511 : decode cL_law 511 = .ok (.iaload, 1) := by decide +kernel
theorem dL_law_512 : decode cL_law 512 = .ok (.invokevirtual 126, 3) := by decide +kernel
theorem dL_law_515 : decode cL_law 515 = .ok (.istore 7, 2) := by decide +kernel
theorem dL_law_517 : decode cL_law 517 = .ok (.aload_n 2, 1) := by decide +kernel
theorem dL_law_518 : decode cL_law 518 = .ok (.invokevirtual 90, 3) := by decide +kernel
theorem dL_law_521 : decode cL_law 521 = .ok (.iload 6, 2) := by decide +kernel
theorem dL_law_523 : decode cL_law 523 = .ok (.if_icmp .eq 5, 3) := by decide +kernel
theorem dL_law_526 : decode cL_law 526 = .ok (.iconst 0, 1) := by decide +kernel
theorem dL_law_527 : decode cL_law 527 = .ok (.ireturn, 1) := by decide +kernel
theorem dL_law_528 : decode cL_law 528 = .ok (.iload 6, 2) := by decide +kernel
theorem dL_law_530 : decode cL_law 530 = .ok (.ifCond .ne 15, 3) := by decide +kernel
theorem dL_law_533 : decode cL_law 533 = .ok (.aload_n 3, 1) := by decide +kernel
theorem dL_law_534 : decode cL_law 534 = .ok (.iconst 0, 1) := by decide +kernel
theorem dL_law_535 : decode cL_law 535 = .ok (.laload, 1) := by decide +kernel
theorem dL_law_536 : decode cL_law 536 = .ok (.iload 7, 2) := by decide +kernel
theorem dL_law_538 : decode cL_law 538 = .ok (.i2l, 1) := by decide +kernel
theorem dL_law_539 : decode cL_law 539 = .ok (.lcmp, 1) := by decide +kernel
theorem dL_law_540 : decode cL_law 540 = .ok (.ifCond .eq 5, 3) := by decide +kernel
theorem dL_law_543 : decode cL_law 543 = .ok (.iconst 0, 1) := by decide +kernel
theorem dL_law_544 : decode cL_law 544 = .ok (.ireturn, 1) := by decide +kernel
theorem dL_law_545 : decode cL_law 545 = .ok (.goto 880, 3) := by decide +kernel
theorem dL_law_548 : decode cL_law 548 = .ok (.aload_n 1, 1) := by decide +kernel
theorem dL_law_549 : decode cL_law 549 = .ok (.aload_n 0, 1) := by decide +kernel
theorem dL_law_550 : decode cL_law 550 = .ok (.iload 5, 2) := by decide +kernel
theorem dL_law_552 : decode cL_law 552 = .ok (.iconst 1, 1) := by decide +kernel
theorem dL_law_553 : decode cL_law 553 = .ok (.iadd, 1) := by decide +kernel
theorem dL_law_554 : decode cL_law 554 = .ok (.iaload, 1) := by decide +kernel
theorem dL_law_555 : decode cL_law 555 = .ok (.aload_n 3, 1) := by decide +kernel
theorem dL_law_556 : decode cL_law 556 = .ok (.invokestatic 127, 3) := by decide +kernel
theorem dL_law_559 : decode cL_law 559 = .ok (.istore 6, 2) := by decide +kernel
theorem dL_law_561 : decode cL_law 561 = .ok (.aload_n 2, 1) := by decide +kernel
theorem dL_law_562 : decode cL_law 562 = .ok (.aload_n 0, 1) := by decide +kernel
theorem dL_law_563 : decode cL_law 563 = .ok (.iload 5, 2) := by decide +kernel
theorem dL_law_565 : decode cL_law 565 = .ok (.iconst 1, 1) := by decide +kernel
theorem dL_law_566 : decode cL_law 566 = .ok (.iadd, 1) := by decide +kernel
theorem dL_law_567 : decode cL_law 567 = .ok (.iaload, 1) := by decide +kernel
theorem dL_law_568 : decode cL_law 568 = .ok (.invokevirtual 129, 3) := by decide +kernel
theorem dL_law_571 : decode cL_law 571 = .ok (.istore 7, 2) := by decide +kernel
theorem dL_law_573 : decode cL_law 573 = .ok (.aload_n 2, 1) := by decide +kernel
theorem dL_law_574 : decode cL_law 574 = .ok (.invokevirtual 90, 3) := by decide +kernel
theorem dL_law_577 : decode cL_law 577 = .ok (.iload 6, 2) := by decide +kernel
theorem dL_law_579 : decode cL_law 579 = .ok (.if_icmp .eq 5, 3) := by decide +kernel
theorem dL_law_582 : decode cL_law 582 = .ok (.iconst 0, 1) := by decide +kernel
theorem dL_law_583 : decode cL_law 583 = .ok (.ireturn, 1) := by decide +kernel
theorem dL_law_584 : decode cL_law 584 = .ok (.iload 6, 2) := by decide +kernel
theorem dL_law_586 : decode cL_law 586 = .ok (.ifCond .ne 22, 3) := by decide +kernel
theorem dL_law_589 : decode cL_law 589 = .ok (.aload_n 3, 1) := by decide +kernel
theorem dL_law_590 : decode cL_law 590 = .ok (.iconst 0, 1) := by decide +kernel
theorem dL_law_591 : decode cL_law 591 = .ok (.laload, 1) := by decide +kernel
theorem dL_law_592 : decode cL_law 592 = .ok (.iload 7, 2) := by decide +kernel
theorem dL_law_594 : decode cL_law 594 = .ok (.ifCond .eq 7, 3) := by decide +kernel
theorem dL_law_597 : decode cL_law 597 = .ok (.lconst 1, 1) := by decide +kernel
theorem dL_law_598 : decode cL_law 598 = .ok (.goto 4, 3) := by decide +kernel
theorem dL_law_601 : decode cL_law 601 = .ok (.lconst 0, 1) := by decide +kernel
theorem dL_law_602 : decode cL_law 602 = .ok (.lcmp, 1) := by decide +kernel
theorem dL_law_603 : decode cL_law 603 = .ok (.ifCond .eq 5, 3) := by decide +kernel
theorem dL_law_606 : decode cL_law 606 = .ok (.iconst 0, 1) := by decide +kernel
theorem dL_law_607 : decode cL_law 607 = .ok (.ireturn, 1) := by decide +kernel
theorem dL_law_608 : decode cL_law 608 = .ok (.goto 817, 3) := by decide +kernel
theorem dL_law_611 : decode cL_law 611 = .ok (.aload_n 1, 1) := by decide +kernel
theorem dL_law_612 : decode cL_law 612 = .ok (.aload_n 0, 1) := by decide +kernel
theorem dL_law_613 : decode cL_law 613 = .ok (.iload 5, 2) := by decide +kernel
theorem dL_law_615 : decode cL_law 615 = .ok (.iconst 1, 1) := by decide +kernel
theorem dL_law_616 : decode cL_law 616 = .ok (.iadd, 1) := by decide +kernel
theorem dL_law_617 : decode cL_law 617 = .ok (.iaload, 1) := by decide +kernel
theorem dL_law_618 : decode cL_law 618 = .ok (.aload_n 0, 1) := by decide +kernel
theorem dL_law_619 : decode cL_law 619 = .ok (.iload 5, 2) := by decide +kernel
theorem dL_law_621 : decode cL_law 621 = .ok (.iconst 2, 1) := by decide +kernel
theorem dL_law_622 : decode cL_law 622 = .ok (.iadd, 1) := by decide +kernel
theorem dL_law_623 : decode cL_law 623 = .ok (.iaload, 1) := by decide +kernel
theorem dL_law_624 : decode cL_law 624 = .ok (.ifCond .eq 7, 3) := by decide +kernel
theorem dL_law_627 : decode cL_law 627 = .ok (.iconst 1, 1) := by decide +kernel
theorem dL_law_628 : decode cL_law 628 = .ok (.goto 4, 3) := by decide +kernel
theorem dL_law_631 : decode cL_law 631 = .ok (.iconst 0, 1) := by decide +kernel
theorem dL_law_632 : decode cL_law 632 = .ok (.aload_n 3, 1) := by decide +kernel
theorem dL_law_633 : decode cL_law 633 = .ok (.invokestatic 130, 3) := by decide +kernel
theorem dL_law_636 : decode cL_law 636 = .ok (.istore 6, 2) := by decide +kernel
theorem dL_law_638 : decode cL_law 638 = .ok (.aload_n 2, 1) := by decide +kernel
theorem dL_law_639 : decode cL_law 639 = .ok (.aload_n 0, 1) := by decide +kernel
theorem dL_law_640 : decode cL_law 640 = .ok (.iload 5, 2) := by decide +kernel
theorem dL_law_642 : decode cL_law 642 = .ok (.iconst 1, 1) := by decide +kernel
theorem dL_law_643 : decode cL_law 643 = .ok (.iadd, 1) := by decide +kernel
theorem dL_law_644 : decode cL_law 644 = .ok (.iaload, 1) := by decide +kernel
theorem dL_law_645 : decode cL_law 645 = .ok (.aload_n 0, 1) := by decide +kernel
theorem dL_law_646 : decode cL_law 646 = .ok (.iload 5, 2) := by decide +kernel
theorem dL_law_648 : decode cL_law 648 = .ok (.iconst 2, 1) := by decide +kernel
theorem dL_law_649 : decode cL_law 649 = .ok (.iadd, 1) := by decide +kernel
theorem dL_law_650 : decode cL_law 650 = .ok (.iaload, 1) := by decide +kernel
theorem dL_law_651 : decode cL_law 651 = .ok (.ifCond .eq 7, 3) := by decide +kernel
theorem dL_law_654 : decode cL_law 654 = .ok (.iconst 1, 1) := by decide +kernel
theorem dL_law_655 : decode cL_law 655 = .ok (.goto 4, 3) := by decide +kernel
theorem dL_law_658 : decode cL_law 658 = .ok (.iconst 0, 1) := by decide +kernel
theorem dL_law_659 : decode cL_law 659 = .ok (.invokevirtual 133, 3) := by decide +kernel
theorem dL_law_662 : decode cL_law 662 = .ok (.istore 7, 2) := by decide +kernel
theorem dL_law_664 : decode cL_law 664 = .ok (.aload_n 2, 1) := by decide +kernel
theorem dL_law_665 : decode cL_law 665 = .ok (.invokevirtual 90, 3) := by decide +kernel
theorem dL_law_668 : decode cL_law 668 = .ok (.iload 6, 2) := by decide +kernel
theorem dL_law_670 : decode cL_law 670 = .ok (.if_icmp .eq 5, 3) := by decide +kernel
theorem dL_law_673 : decode cL_law 673 = .ok (.iconst 0, 1) := by decide +kernel
theorem dL_law_674 : decode cL_law 674 = .ok (.ireturn, 1) := by decide +kernel
theorem dL_law_675 : decode cL_law 675 = .ok (.iload 6, 2) := by decide +kernel
theorem dL_law_677 : decode cL_law 677 = .ok (.ifCond .ne 15, 3) := by decide +kernel
theorem dL_law_680 : decode cL_law 680 = .ok (.aload_n 3, 1) := by decide +kernel
theorem dL_law_681 : decode cL_law 681 = .ok (.iconst 0, 1) := by decide +kernel
theorem dL_law_682 : decode cL_law 682 = .ok (.laload, 1) := by decide +kernel
theorem dL_law_683 : decode cL_law 683 = .ok (.iload 7, 2) := by decide +kernel
theorem dL_law_685 : decode cL_law 685 = .ok (.i2l, 1) := by decide +kernel
theorem dL_law_686 : decode cL_law 686 = .ok (.lcmp, 1) := by decide +kernel
theorem dL_law_687 : decode cL_law 687 = .ok (.ifCond .eq 5, 3) := by decide +kernel
theorem dL_law_690 : decode cL_law 690 = .ok (.iconst 0, 1) := by decide +kernel
theorem dL_law_691 : decode cL_law 691 = .ok (.ireturn, 1) := by decide +kernel
theorem dL_law_692 : decode cL_law 692 = .ok (.goto 733, 3) := by decide +kernel
theorem dL_law_695 : decode cL_law 695 = .ok (.aload_n 1, 1) := by decide +kernel
theorem dL_law_696 : decode cL_law 696 = .ok (.aload_n 0, 1) := by decide +kernel
theorem dL_law_697 : decode cL_law 697 = .ok (.iload 5, 2) := by decide +kernel
theorem dL_law_699 : decode cL_law 699 = .ok (.iconst 1, 1) := by decide +kernel
theorem dL_law_700 : decode cL_law 700 = .ok (.iadd, 1) := by decide +kernel
theorem dL_law_701 : decode cL_law 701 = .ok (.iaload, 1) := by decide +kernel
theorem dL_law_702 : decode cL_law 702 = .ok (.aload_n 0, 1) := by decide +kernel
theorem dL_law_703 : decode cL_law 703 = .ok (.iload 5, 2) := by decide +kernel
theorem dL_law_705 : decode cL_law 705 = .ok (.iconst 2, 1) := by decide +kernel
theorem dL_law_706 : decode cL_law 706 = .ok (.iadd, 1) := by decide +kernel
theorem dL_law_707 : decode cL_law 707 = .ok (.iaload, 1) := by decide +kernel
theorem dL_law_708 : decode cL_law 708 = .ok (.ifCond .eq 7, 3) := by decide +kernel
theorem dL_law_711 : decode cL_law 711 = .ok (.iconst 1, 1) := by decide +kernel
theorem dL_law_712 : decode cL_law 712 = .ok (.goto 4, 3) := by decide +kernel
theorem dL_law_715 : decode cL_law 715 = .ok (.iconst 0, 1) := by decide +kernel
theorem dL_law_716 : decode cL_law 716 = .ok (.aload_n 3, 1) := by decide +kernel
theorem dL_law_717 : decode cL_law 717 = .ok (.invokestatic 134, 3) := by decide +kernel
theorem dL_law_720 : decode cL_law 720 = .ok (.istore 6, 2) := by decide +kernel
theorem dL_law_722 : decode cL_law 722 = .ok (.aload_n 2, 1) := by decide +kernel
theorem dL_law_723 : decode cL_law 723 = .ok (.aload_n 0, 1) := by decide +kernel
theorem dL_law_724 : decode cL_law 724 = .ok (.iload 5, 2) := by decide +kernel
theorem dL_law_726 : decode cL_law 726 = .ok (.iconst 1, 1) := by decide +kernel
theorem dL_law_727 : decode cL_law 727 = .ok (.iadd, 1) := by decide +kernel
theorem dL_law_728 : decode cL_law 728 = .ok (.iaload, 1) := by decide +kernel
theorem dL_law_729 : decode cL_law 729 = .ok (.aload_n 0, 1) := by decide +kernel
theorem dL_law_730 : decode cL_law 730 = .ok (.iload 5, 2) := by decide +kernel
theorem dL_law_732 : decode cL_law 732 = .ok (.iconst 2, 1) := by decide +kernel
theorem dL_law_733 : decode cL_law 733 = .ok (.iadd, 1) := by decide +kernel
theorem dL_law_734 : decode cL_law 734 = .ok (.iaload, 1) := by decide +kernel
theorem dL_law_735 : decode cL_law 735 = .ok (.ifCond .eq 7, 3) := by decide +kernel
theorem dL_law_738 : decode cL_law 738 = .ok (.iconst 1, 1) := by decide +kernel
theorem dL_law_739 : decode cL_law 739 = .ok (.goto 4, 3) := by decide +kernel
theorem dL_law_742 : decode cL_law 742 = .ok (.iconst 0, 1) := by decide +kernel
theorem dL_law_743 : decode cL_law 743 = .ok (.invokevirtual 136, 3) := by decide +kernel
theorem dL_law_746 : decode cL_law 746 = .ok (.istore 7, 2) := by decide +kernel
theorem dL_law_748 : decode cL_law 748 = .ok (.aload_n 2, 1) := by decide +kernel
theorem dL_law_749 : decode cL_law 749 = .ok (.invokevirtual 90, 3) := by decide +kernel
theorem dL_law_752 : decode cL_law 752 = .ok (.iload 6, 2) := by decide +kernel
theorem dL_law_754 : decode cL_law 754 = .ok (.if_icmp .eq 5, 3) := by decide +kernel
theorem dL_law_757 : decode cL_law 757 = .ok (.iconst 0, 1) := by decide +kernel
theorem dL_law_758 : decode cL_law 758 = .ok (.ireturn, 1) := by decide +kernel
theorem dL_law_759 : decode cL_law 759 = .ok (.iload 6, 2) := by decide +kernel
theorem dL_law_761 : decode cL_law 761 = .ok (.ifCond .ne 15, 3) := by decide +kernel
theorem dL_law_764 : decode cL_law 764 = .ok (.aload_n 3, 1) := by decide +kernel
theorem dL_law_765 : decode cL_law 765 = .ok (.iconst 0, 1) := by decide +kernel
theorem dL_law_766 : decode cL_law 766 = .ok (.laload, 1) := by decide +kernel
theorem dL_law_767 : decode cL_law 767 = .ok (.iload 7, 2) := by decide +kernel
theorem dL_law_769 : decode cL_law 769 = .ok (.i2l, 1) := by decide +kernel
theorem dL_law_770 : decode cL_law 770 = .ok (.lcmp, 1) := by decide +kernel
theorem dL_law_771 : decode cL_law 771 = .ok (.ifCond .eq 5, 3) := by decide +kernel
theorem dL_law_774 : decode cL_law 774 = .ok (.iconst 0, 1) := by decide +kernel
theorem dL_law_775 : decode cL_law 775 = .ok (.ireturn, 1) := by decide +kernel
theorem dL_law_776 : decode cL_law 776 = .ok (.goto 649, 3) := by decide +kernel
theorem dL_law_779 : decode cL_law 779 = .ok (.aload_n 1, 1) := by decide +kernel
theorem dL_law_780 : decode cL_law 780 = .ok (.aload_n 0, 1) := by decide +kernel
theorem dL_law_781 : decode cL_law 781 = .ok (.iload 5, 2) := by decide +kernel
theorem dL_law_783 : decode cL_law 783 = .ok (.iconst 1, 1) := by decide +kernel
theorem dL_law_784 : decode cL_law 784 = .ok (.iadd, 1) := by decide +kernel
theorem dL_law_785 : decode cL_law 785 = .ok (.iaload, 1) := by decide +kernel
theorem dL_law_786 : decode cL_law 786 = .ok (.ifCond .eq 7, 3) := by decide +kernel
theorem dL_law_789 : decode cL_law 789 = .ok (.iconst 1, 1) := by decide +kernel
theorem dL_law_790 : decode cL_law 790 = .ok (.goto 4, 3) := by decide +kernel
theorem dL_law_793 : decode cL_law 793 = .ok (.iconst 0, 1) := by decide +kernel
theorem dL_law_794 : decode cL_law 794 = .ok (.aload_n 3, 1) := by decide +kernel
theorem dL_law_795 : decode cL_law 795 = .ok (.invokestatic 137, 3) := by decide +kernel
theorem dL_law_798 : decode cL_law 798 = .ok (.istore 6, 2) := by decide +kernel
theorem dL_law_800 : decode cL_law 800 = .ok (.aload_n 2, 1) := by decide +kernel
theorem dL_law_801 : decode cL_law 801 = .ok (.aload_n 0, 1) := by decide +kernel
theorem dL_law_802 : decode cL_law 802 = .ok (.iload 5, 2) := by decide +kernel
theorem dL_law_804 : decode cL_law 804 = .ok (.iconst 1, 1) := by decide +kernel
theorem dL_law_805 : decode cL_law 805 = .ok (.iadd, 1) := by decide +kernel
theorem dL_law_806 : decode cL_law 806 = .ok (.iaload, 1) := by decide +kernel
theorem dL_law_807 : decode cL_law 807 = .ok (.ifCond .eq 7, 3) := by decide +kernel
theorem dL_law_810 : decode cL_law 810 = .ok (.iconst 1, 1) := by decide +kernel
theorem dL_law_811 : decode cL_law 811 = .ok (.goto 4, 3) := by decide +kernel
theorem dL_law_814 : decode cL_law 814 = .ok (.iconst 0, 1) := by decide +kernel
theorem dL_law_815 : decode cL_law 815 = .ok (.invokevirtual 140, 3) := by decide +kernel
theorem dL_law_818 : decode cL_law 818 = .ok (.istore 7, 2) := by decide +kernel
theorem dL_law_820 : decode cL_law 820 = .ok (.aload_n 2, 1) := by decide +kernel
theorem dL_law_821 : decode cL_law 821 = .ok (.invokevirtual 90, 3) := by decide +kernel
theorem dL_law_824 : decode cL_law 824 = .ok (.iload 6, 2) := by decide +kernel
theorem dL_law_826 : decode cL_law 826 = .ok (.if_icmp .eq 5, 3) := by decide +kernel
theorem dL_law_829 : decode cL_law 829 = .ok (.iconst 0, 1) := by decide +kernel
theorem dL_law_830 : decode cL_law 830 = .ok (.ireturn, 1) := by decide +kernel
theorem dL_law_831 : decode cL_law 831 = .ok (.iload 6, 2) := by decide +kernel
theorem dL_law_833 : decode cL_law 833 = .ok (.ifCond .ne 15, 3) := by decide +kernel
theorem dL_law_836 : decode cL_law 836 = .ok (.aload_n 3, 1) := by decide +kernel
theorem dL_law_837 : decode cL_law 837 = .ok (.iconst 0, 1) := by decide +kernel
theorem dL_law_838 : decode cL_law 838 = .ok (.laload, 1) := by decide +kernel
theorem dL_law_839 : decode cL_law 839 = .ok (.iload 7, 2) := by decide +kernel
theorem dL_law_841 : decode cL_law 841 = .ok (.i2l, 1) := by decide +kernel
theorem dL_law_842 : decode cL_law 842 = .ok (.lcmp, 1) := by decide +kernel
theorem dL_law_843 : decode cL_law 843 = .ok (.ifCond .eq 5, 3) := by decide +kernel
theorem dL_law_846 : decode cL_law 846 = .ok (.iconst 0, 1) := by decide +kernel
theorem dL_law_847 : decode cL_law 847 = .ok (.ireturn, 1) := by decide +kernel
theorem dL_law_848 : decode cL_law 848 = .ok (.goto 577, 3) := by decide +kernel
theorem dL_law_851 : decode cL_law 851 = .ok (.aload_n 1, 1) := by decide +kernel
theorem dL_law_852 : decode cL_law 852 = .ok (.aload_n 0, 1) := by decide +kernel
theorem dL_law_853 : decode cL_law 853 = .ok (.iload 5, 2) := by decide +kernel
theorem dL_law_855 : decode cL_law 855 = .ok (.iconst 1, 1) := by decide +kernel
theorem dL_law_856 : decode cL_law 856 = .ok (.iadd, 1) := by decide +kernel
theorem dL_law_857 : decode cL_law 857 = .ok (.iaload, 1) := by decide +kernel
theorem dL_law_858 : decode cL_law 858 = .ok (.aload_n 3, 1) := by decide +kernel
theorem dL_law_859 : decode cL_law 859 = .ok (.invokestatic 141, 3) := by decide +kernel
theorem dL_law_862 : decode cL_law 862 = .ok (.istore 6, 2) := by decide +kernel
theorem dL_law_864 : decode cL_law 864 = .ok (.aload_n 2, 1) := by decide +kernel
theorem dL_law_865 : decode cL_law 865 = .ok (.aload_n 0, 1) := by decide +kernel
theorem dL_law_866 : decode cL_law 866 = .ok (.iload 5, 2) := by decide +kernel
theorem dL_law_868 : decode cL_law 868 = .ok (.iconst 1, 1) := by decide +kernel
theorem dL_law_869 : decode cL_law 869 = .ok (.iadd, 1) := by decide +kernel
theorem dL_law_870 : decode cL_law 870 = .ok (.iaload, 1) := by decide +kernel
theorem dL_law_871 : decode cL_law 871 = .ok (.invokevirtual 143, 3) := by decide +kernel
theorem dL_law_874 : decode cL_law 874 = .ok (.istore 7, 2) := by decide +kernel
theorem dL_law_876 : decode cL_law 876 = .ok (.aload_n 2, 1) := by decide +kernel
theorem dL_law_877 : decode cL_law 877 = .ok (.invokevirtual 90, 3) := by decide +kernel
theorem dL_law_880 : decode cL_law 880 = .ok (.iload 6, 2) := by decide +kernel
theorem dL_law_882 : decode cL_law 882 = .ok (.if_icmp .eq 5, 3) := by decide +kernel
theorem dL_law_885 : decode cL_law 885 = .ok (.iconst 0, 1) := by decide +kernel
theorem dL_law_886 : decode cL_law 886 = .ok (.ireturn, 1) := by decide +kernel
theorem dL_law_887 : decode cL_law 887 = .ok (.iload 6, 2) := by decide +kernel
theorem dL_law_889 : decode cL_law 889 = .ok (.ifCond .ne 15, 3) := by decide +kernel
theorem dL_law_892 : decode cL_law 892 = .ok (.aload_n 3, 1) := by decide +kernel
theorem dL_law_893 : decode cL_law 893 = .ok (.iconst 0, 1) := by decide +kernel
theorem dL_law_894 : decode cL_law 894 = .ok (.laload, 1) := by decide +kernel
theorem dL_law_895 : decode cL_law 895 = .ok (.iload 7, 2) := by decide +kernel
theorem dL_law_897 : decode cL_law 897 = .ok (.i2l, 1) := by decide +kernel
theorem dL_law_898 : decode cL_law 898 = .ok (.lcmp, 1) := by decide +kernel
theorem dL_law_899 : decode cL_law 899 = .ok (.ifCond .eq 5, 3) := by decide +kernel
theorem dL_law_902 : decode cL_law 902 = .ok (.iconst 0, 1) := by decide +kernel
theorem dL_law_903 : decode cL_law 903 = .ok (.ireturn, 1) := by decide +kernel
theorem dL_law_904 : decode cL_law 904 = .ok (.goto 521, 3) := by decide +kernel
theorem dL_law_907 : decode cL_law 907 = .ok (.aload_n 1, 1) := by decide +kernel
theorem dL_law_908 : decode cL_law 908 = .ok (.aload_n 0, 1) := by decide +kernel
theorem dL_law_909 : decode cL_law 909 = .ok (.iload 5, 2) := by decide +kernel
theorem dL_law_911 : decode cL_law 911 = .ok (.iconst 1, 1) := by decide +kernel
theorem dL_law_912 : decode cL_law 912 = .ok (.iadd, 1) := by decide +kernel
theorem dL_law_913 : decode cL_law 913 = .ok (.iaload, 1) := by decide +kernel
theorem dL_law_914 : decode cL_law 914 = .ok (.aload_n 0, 1) := by decide +kernel
theorem dL_law_915 : decode cL_law 915 = .ok (.iload 5, 2) := by decide +kernel
theorem dL_law_917 : decode cL_law 917 = .ok (.iconst 2, 1) := by decide +kernel
theorem dL_law_918 : decode cL_law 918 = .ok (.iadd, 1) := by decide +kernel
theorem dL_law_919 : decode cL_law 919 = .ok (.iaload, 1) := by decide +kernel
theorem dL_law_920 : decode cL_law 920 = .ok (.aload_n 3, 1) := by decide +kernel
theorem dL_law_921 : decode cL_law 921 = .ok (.invokestatic 144, 3) := by decide +kernel
theorem dL_law_924 : decode cL_law 924 = .ok (.istore 6, 2) := by decide +kernel
theorem dL_law_926 : decode cL_law 926 = .ok (.aload_n 2, 1) := by decide +kernel
theorem dL_law_927 : decode cL_law 927 = .ok (.aload_n 0, 1) := by decide +kernel
theorem dL_law_928 : decode cL_law 928 = .ok (.iload 5, 2) := by decide +kernel
theorem dL_law_930 : decode cL_law 930 = .ok (.iconst 1, 1) := by decide +kernel
theorem dL_law_931 : decode cL_law 931 = .ok (.iadd, 1) := by decide +kernel
theorem dL_law_932 : decode cL_law 932 = .ok (.iaload, 1) := by decide +kernel
theorem dL_law_933 : decode cL_law 933 = .ok (.aload_n 0, 1) := by decide +kernel
theorem dL_law_934 : decode cL_law 934 = .ok (.iload 5, 2) := by decide +kernel
theorem dL_law_936 : decode cL_law 936 = .ok (.iconst 2, 1) := by decide +kernel
theorem dL_law_937 : decode cL_law 937 = .ok (.iadd, 1) := by decide +kernel
theorem dL_law_938 : decode cL_law 938 = .ok (.iaload, 1) := by decide +kernel
theorem dL_law_939 : decode cL_law 939 = .ok (.invokevirtual 146, 3) := by decide +kernel
theorem dL_law_942 : decode cL_law 942 = .ok (.istore 7, 2) := by decide +kernel
theorem dL_law_944 : decode cL_law 944 = .ok (.aload_n 2, 1) := by decide +kernel
theorem dL_law_945 : decode cL_law 945 = .ok (.invokevirtual 90, 3) := by decide +kernel
theorem dL_law_948 : decode cL_law 948 = .ok (.iload 6, 2) := by decide +kernel
theorem dL_law_950 : decode cL_law 950 = .ok (.if_icmp .eq 5, 3) := by decide +kernel
theorem dL_law_953 : decode cL_law 953 = .ok (.iconst 0, 1) := by decide +kernel
theorem dL_law_954 : decode cL_law 954 = .ok (.ireturn, 1) := by decide +kernel
theorem dL_law_955 : decode cL_law 955 = .ok (.iload 6, 2) := by decide +kernel
theorem dL_law_957 : decode cL_law 957 = .ok (.ifCond .ne 15, 3) := by decide +kernel
theorem dL_law_960 : decode cL_law 960 = .ok (.aload_n 3, 1) := by decide +kernel
theorem dL_law_961 : decode cL_law 961 = .ok (.iconst 0, 1) := by decide +kernel
theorem dL_law_962 : decode cL_law 962 = .ok (.laload, 1) := by decide +kernel
theorem dL_law_963 : decode cL_law 963 = .ok (.iload 7, 2) := by decide +kernel
theorem dL_law_965 : decode cL_law 965 = .ok (.i2l, 1) := by decide +kernel
theorem dL_law_966 : decode cL_law 966 = .ok (.lcmp, 1) := by decide +kernel
theorem dL_law_967 : decode cL_law 967 = .ok (.ifCond .eq 5, 3) := by decide +kernel
theorem dL_law_970 : decode cL_law 970 = .ok (.iconst 0, 1) := by decide +kernel
theorem dL_law_971 : decode cL_law 971 = .ok (.ireturn, 1) := by decide +kernel
theorem dL_law_972 : decode cL_law 972 = .ok (.goto 453, 3) := by decide +kernel
theorem dL_law_975 : decode cL_law 975 = .ok (.aload_n 1, 1) := by decide +kernel
theorem dL_law_976 : decode cL_law 976 = .ok (.aload_n 0, 1) := by decide +kernel
theorem dL_law_977 : decode cL_law 977 = .ok (.iload 5, 2) := by decide +kernel
theorem dL_law_979 : decode cL_law 979 = .ok (.iconst 1, 1) := by decide +kernel
theorem dL_law_980 : decode cL_law 980 = .ok (.iadd, 1) := by decide +kernel
theorem dL_law_981 : decode cL_law 981 = .ok (.iaload, 1) := by decide +kernel
theorem dL_law_982 : decode cL_law 982 = .ok (.aload_n 0, 1) := by decide +kernel
theorem dL_law_983 : decode cL_law 983 = .ok (.iload 5, 2) := by decide +kernel
theorem dL_law_985 : decode cL_law 985 = .ok (.iconst 2, 1) := by decide +kernel
theorem dL_law_986 : decode cL_law 986 = .ok (.iadd, 1) := by decide +kernel
theorem dL_law_987 : decode cL_law 987 = .ok (.iaload, 1) := by decide +kernel
theorem dL_law_988 : decode cL_law 988 = .ok (.ifCond .eq 7, 3) := by decide +kernel
theorem dL_law_991 : decode cL_law 991 = .ok (.iconst 1, 1) := by decide +kernel
theorem dL_law_992 : decode cL_law 992 = .ok (.goto 4, 3) := by decide +kernel
theorem dL_law_995 : decode cL_law 995 = .ok (.iconst 0, 1) := by decide +kernel
theorem dL_law_996 : decode cL_law 996 = .ok (.aload_n 3, 1) := by decide +kernel
theorem dL_law_997 : decode cL_law 997 = .ok (.invokestatic 147, 3) := by decide +kernel
theorem dL_law_1000 : decode cL_law 1000 = .ok (.istore 6, 2) := by decide +kernel
theorem dL_law_1002 : decode cL_law 1002 = .ok (.aload_n 2, 1) := by decide +kernel
theorem dL_law_1003 : decode cL_law 1003 = .ok (.aload_n 0, 1) := by decide +kernel
theorem dL_law_1004 : decode cL_law 1004 = .ok (.iload 5, 2) := by decide +kernel
theorem dL_law_1006 : decode cL_law 1006 = .ok (.iconst 1, 1) := by decide +kernel
theorem dL_law_1007 : decode cL_law 1007 = .ok (.iadd, 1) := by decide +kernel
theorem dL_law_1008 : decode cL_law 1008 = .ok (.iaload, 1) := by decide +kernel
theorem dL_law_1009 : decode cL_law 1009 = .ok (.aload_n 0, 1) := by decide +kernel
theorem dL_law_1010 : decode cL_law 1010 = .ok (.iload 5, 2) := by decide +kernel
theorem dL_law_1012 : decode cL_law 1012 = .ok (.iconst 2, 1) := by decide +kernel
theorem dL_law_1013 : decode cL_law 1013 = .ok (.iadd, 1) := by decide +kernel
theorem dL_law_1014 : decode cL_law 1014 = .ok (.iaload, 1) := by decide +kernel
theorem dL_law_1015 : decode cL_law 1015 = .ok (.ifCond .eq 7, 3) := by decide +kernel
theorem dL_law_1018 : decode cL_law 1018 = .ok (.iconst 1, 1) := by decide +kernel
theorem dL_law_1019 : decode cL_law 1019 = .ok (.goto 4, 3) := by decide +kernel
theorem dL_law_1022 : decode cL_law 1022 = .ok (.iconst 0, 1) := by decide +kernel
theorem dL_law_1023 : decode cL_law 1023 = .ok (.invokevirtual 149, 3) := by decide +kernel
theorem dL_law_1026 : decode cL_law 1026 = .ok (.istore 7, 2) := by decide +kernel
theorem dL_law_1028 : decode cL_law 1028 = .ok (.aload_n 2, 1) := by decide +kernel
theorem dL_law_1029 : decode cL_law 1029 = .ok (.invokevirtual 90, 3) := by decide +kernel
theorem dL_law_1032 : decode cL_law 1032 = .ok (.iload 6, 2) := by decide +kernel
theorem dL_law_1034 : decode cL_law 1034 = .ok (.if_icmp .eq 5, 3) := by decide +kernel
theorem dL_law_1037 : decode cL_law 1037 = .ok (.iconst 0, 1) := by decide +kernel
theorem dL_law_1038 : decode cL_law 1038 = .ok (.ireturn, 1) := by decide +kernel
theorem dL_law_1039 : decode cL_law 1039 = .ok (.iload 6, 2) := by decide +kernel
theorem dL_law_1041 : decode cL_law 1041 = .ok (.ifCond .ne 15, 3) := by decide +kernel
theorem dL_law_1044 : decode cL_law 1044 = .ok (.aload_n 3, 1) := by decide +kernel
theorem dL_law_1045 : decode cL_law 1045 = .ok (.iconst 0, 1) := by decide +kernel
theorem dL_law_1046 : decode cL_law 1046 = .ok (.laload, 1) := by decide +kernel
theorem dL_law_1047 : decode cL_law 1047 = .ok (.iload 7, 2) := by decide +kernel
theorem dL_law_1049 : decode cL_law 1049 = .ok (.i2l, 1) := by decide +kernel
theorem dL_law_1050 : decode cL_law 1050 = .ok (.lcmp, 1) := by decide +kernel
theorem dL_law_1051 : decode cL_law 1051 = .ok (.ifCond .eq 5, 3) := by decide +kernel
theorem dL_law_1054 : decode cL_law 1054 = .ok (.iconst 0, 1) := by decide +kernel
theorem dL_law_1055 : decode cL_law 1055 = .ok (.ireturn, 1) := by decide +kernel
theorem dL_law_1056 : decode cL_law 1056 = .ok (.goto 369, 3) := by decide +kernel
theorem dL_law_1059 : decode cL_law 1059 = .ok (.aload_n 1, 1) := by decide +kernel
theorem dL_law_1060 : decode cL_law 1060 = .ok (.aload_n 3, 1) := by decide +kernel
theorem dL_law_1061 : decode cL_law 1061 = .ok (.invokestatic 150, 3) := by decide +kernel
theorem dL_law_1064 : decode cL_law 1064 = .ok (.istore 6, 2) := by decide +kernel
theorem dL_law_1066 : decode cL_law 1066 = .ok (.aload_n 2, 1) := by decide +kernel
theorem dL_law_1067 : decode cL_law 1067 = .ok (.invokevirtual 152, 3) := by decide +kernel
theorem dL_law_1070 : decode cL_law 1070 = .ok (.istore 7, 2) := by decide +kernel
theorem dL_law_1072 : decode cL_law 1072 = .ok (.aload_n 2, 1) := by decide +kernel
theorem dL_law_1073 : decode cL_law 1073 = .ok (.invokevirtual 90, 3) := by decide +kernel
theorem dL_law_1076 : decode cL_law 1076 = .ok (.iload 6, 2) := by decide +kernel
theorem dL_law_1078 : decode cL_law 1078 = .ok (.if_icmp .eq 5, 3) := by decide +kernel
theorem dL_law_1081 : decode cL_law 1081 = .ok (.iconst 0, 1) := by decide +kernel
theorem dL_law_1082 : decode cL_law 1082 = .ok (.ireturn, 1) := by decide +kernel
theorem dL_law_1083 : decode cL_law 1083 = .ok (.iload 6, 2) := by decide +kernel
theorem dL_law_1085 : decode cL_law 1085 = .ok (.ifCond .ne 15, 3) := by decide +kernel
theorem dL_law_1088 : decode cL_law 1088 = .ok (.aload_n 3, 1) := by decide +kernel
theorem dL_law_1089 : decode cL_law 1089 = .ok (.iconst 0, 1) := by decide +kernel
theorem dL_law_1090 : decode cL_law 1090 = .ok (.laload, 1) := by decide +kernel
theorem dL_law_1091 : decode cL_law 1091 = .ok (.iload 7, 2) := by decide +kernel
theorem dL_law_1093 : decode cL_law 1093 = .ok (.i2l, 1) := by decide +kernel
theorem dL_law_1094 : decode cL_law 1094 = .ok (.lcmp, 1) := by decide +kernel
theorem dL_law_1095 : decode cL_law 1095 = .ok (.ifCond .eq 5, 3) := by decide +kernel
theorem dL_law_1098 : decode cL_law 1098 = .ok (.iconst 0, 1) := by decide +kernel
theorem dL_law_1099 : decode cL_law 1099 = .ok (.ireturn, 1) := by decide +kernel
theorem dL_law_1100 : decode cL_law 1100 = .ok (.goto 325, 3) := by decide +kernel
theorem dL_law_1103 : decode cL_law 1103 = .ok (.aload_n 1, 1) := by decide +kernel
theorem dL_law_1104 : decode cL_law 1104 = .ok (.invokestatic 153, 3) := by decide +kernel
theorem dL_law_1107 : decode cL_law 1107 = .ok (.istore 6, 2) := by decide +kernel
theorem dL_law_1109 : decode cL_law 1109 = .ok (.aload_n 2, 1) := by decide +kernel
theorem dL_law_1110 : decode cL_law 1110 = .ok (.invokevirtual 156, 3) := by decide +kernel
theorem dL_law_1113 : decode cL_law 1113 = .ok (.aload_n 2, 1) := by decide +kernel
theorem dL_law_1114 : decode cL_law 1114 = .ok (.invokevirtual 90, 3) := by decide +kernel
theorem dL_law_1117 : decode cL_law 1117 = .ok (.iload 6, 2) := by decide +kernel
theorem dL_law_1119 : decode cL_law 1119 = .ok (.if_icmp .eq 5, 3) := by decide +kernel
theorem dL_law_1122 : decode cL_law 1122 = .ok (.iconst 0, 1) := by decide +kernel
theorem dL_law_1123 : decode cL_law 1123 = .ok (.ireturn, 1) := by decide +kernel
theorem dL_law_1124 : decode cL_law 1124 = .ok (.goto 301, 3) := by decide +kernel
theorem dL_law_1127 : decode cL_law 1127 = .ok (.aload_n 1, 1) := by decide +kernel
theorem dL_law_1128 : decode cL_law 1128 = .ok (.aload_n 0, 1) := by decide +kernel
theorem dL_law_1129 : decode cL_law 1129 = .ok (.iload 5, 2) := by decide +kernel
theorem dL_law_1131 : decode cL_law 1131 = .ok (.iconst 1, 1) := by decide +kernel
theorem dL_law_1132 : decode cL_law 1132 = .ok (.iadd, 1) := by decide +kernel
theorem dL_law_1133 : decode cL_law 1133 = .ok (.iaload, 1) := by decide +kernel
theorem dL_law_1134 : decode cL_law 1134 = .ok (.aload_n 3, 1) := by decide +kernel
theorem dL_law_1135 : decode cL_law 1135 = .ok (.invokestatic 157, 3) := by decide +kernel
theorem dL_law_1138 : decode cL_law 1138 = .ok (.istore 6, 2) := by decide +kernel
theorem dL_law_1140 : decode cL_law 1140 = .ok (.aload_n 2, 1) := by decide +kernel
theorem dL_law_1141 : decode cL_law 1141 = .ok (.aload_n 0, 1) := by decide +kernel
theorem dL_law_1142 : decode cL_law 1142 = .ok (.iload 5, 2) := by decide +kernel
theorem dL_law_1144 : decode cL_law 1144 = .ok (.iconst 1, 1) := by decide +kernel
theorem dL_law_1145 : decode cL_law 1145 = .ok (.iadd, 1) := by decide +kernel
theorem dL_law_1146 : decode cL_law 1146 = .ok (.iaload, 1) := by decide +kernel
theorem dL_law_1147 : decode cL_law 1147 = .ok (.invokevirtual 159, 3) := by decide +kernel
theorem dL_law_1150 : decode cL_law 1150 = .ok (.istore 7, 2) := by decide +kernel
theorem dL_law_1152 : decode cL_law 1152 = .ok (.aload_n 2, 1) := by decide +kernel
theorem dL_law_1153 : decode cL_law 1153 = .ok (.invokevirtual 90, 3) := by decide +kernel
theorem dL_law_1156 : decode cL_law 1156 = .ok (.iload 6, 2) := by decide +kernel
theorem dL_law_1158 : decode cL_law 1158 = .ok (.if_icmp .eq 5, 3) := by decide +kernel
theorem dL_law_1161 : decode cL_law 1161 = .ok (.iconst 0, 1) := by decide +kernel
theorem dL_law_1162 : decode cL_law 1162 = .ok (.ireturn, 1) := by decide +kernel
theorem dL_law_1163 : decode cL_law 1163 = .ok (.iload 6, 2) := by decide +kernel
theorem dL_law_1165 : decode cL_law 1165 = .ok (.ifCond .ne 15, 3) := by decide +kernel
theorem dL_law_1168 : decode cL_law 1168 = .ok (.aload_n 3, 1) := by decide +kernel
theorem dL_law_1169 : decode cL_law 1169 = .ok (.iconst 0, 1) := by decide +kernel
theorem dL_law_1170 : decode cL_law 1170 = .ok (.laload, 1) := by decide +kernel
theorem dL_law_1171 : decode cL_law 1171 = .ok (.iload 7, 2) := by decide +kernel
theorem dL_law_1173 : decode cL_law 1173 = .ok (.i2l, 1) := by decide +kernel
theorem dL_law_1174 : decode cL_law 1174 = .ok (.lcmp, 1) := by decide +kernel
theorem dL_law_1175 : decode cL_law 1175 = .ok (.ifCond .eq 5, 3) := by decide +kernel
theorem dL_law_1178 : decode cL_law 1178 = .ok (.iconst 0, 1) := by decide +kernel
theorem dL_law_1179 : decode cL_law 1179 = .ok (.ireturn, 1) := by decide +kernel
theorem dL_law_1180 : decode cL_law 1180 = .ok (.goto 245, 3) := by decide +kernel
theorem dL_law_1183 : decode cL_law 1183 = .ok (.aload_n 1, 1) := by decide +kernel
theorem dL_law_1184 : decode cL_law 1184 = .ok (.invokevirtual 160, 3) := by decide +kernel
theorem dL_law_1187 : decode cL_law 1187 = .ok (.aload_n 2, 1) := by decide +kernel
theorem dL_law_1188 : decode cL_law 1188 = .ok (.invokevirtual 163, 3) := by decide +kernel
theorem dL_law_1191 : decode cL_law 1191 = .ok (.if_icmp .eq 234, 3) := by decide +kernel
theorem dL_law_1194 : decode cL_law 1194 = .ok (.iconst 0, 1) := by decide +kernel
theorem dL_law_1195 : decode cL_law 1195 = .ok (.ireturn, 1) := by decide +kernel
theorem dL_law_1196 : decode cL_law 1196 = .ok (.aload_n 1, 1) := by decide +kernel
theorem dL_law_1197 : decode cL_law 1197 = .ok (.invokevirtual 164, 3) := by decide +kernel
theorem dL_law_1200 : decode cL_law 1200 = .ok (.aload_n 2, 1) := by decide +kernel
theorem dL_law_1201 : decode cL_law 1201 = .ok (.invokevirtual 167, 3) := by decide +kernel
theorem dL_law_1204 : decode cL_law 1204 = .ok (.if_icmp .eq 221, 3) := by decide +kernel
theorem dL_law_1207 : decode cL_law 1207 = .ok (.iconst 0, 1) := by decide +kernel
theorem dL_law_1208 : decode cL_law 1208 = .ok (.ireturn, 1) := by decide +kernel
theorem dL_law_1209 : decode cL_law 1209 = .ok (.aload_n 1, 1) := by decide +kernel
theorem dL_law_1210 : decode cL_law 1210 = .ok (.aload_n 0, 1) := by decide +kernel
theorem dL_law_1211 : decode cL_law 1211 = .ok (.iload 5, 2) := by decide +kernel
theorem dL_law_1213 : decode cL_law 1213 = .ok (.iconst 1, 1) := by decide +kernel
theorem dL_law_1214 : decode cL_law 1214 = .ok (.iadd, 1) := by decide +kernel
theorem dL_law_1215 : decode cL_law 1215 = .ok (.iaload, 1) := by decide +kernel
theorem dL_law_1216 : decode cL_law 1216 = .ok (.aload_n 3, 1) := by decide +kernel
theorem dL_law_1217 : decode cL_law 1217 = .ok (.invokestatic 168, 3) := by decide +kernel
theorem dL_law_1220 : decode cL_law 1220 = .ok (.istore 6, 2) := by decide +kernel
theorem dL_law_1222 : decode cL_law 1222 = .ok (.aload_n 2, 1) := by decide +kernel
theorem dL_law_1223 : decode cL_law 1223 = .ok (.aload_n 0, 1) := by decide +kernel
theorem dL_law_1224 : decode cL_law 1224 = .ok (.iload 5, 2) := by decide +kernel
theorem dL_law_1226 : decode cL_law 1226 = .ok (.iconst 1, 1) := by decide +kernel
theorem dL_law_1227 : decode cL_law 1227 = .ok (.iadd, 1) := by decide +kernel
theorem dL_law_1228 : decode cL_law 1228 = .ok (.iaload, 1) := by decide +kernel
theorem dL_law_1229 : decode cL_law 1229 = .ok (.invokevirtual 170, 3) := by decide +kernel
theorem dL_law_1232 : decode cL_law 1232 = .ok (.istore 7, 2) := by decide +kernel
theorem dL_law_1234 : decode cL_law 1234 = .ok (.aload_n 2, 1) := by decide +kernel
theorem dL_law_1235 : decode cL_law 1235 = .ok (.invokevirtual 90, 3) := by decide +kernel
theorem dL_law_1238 : decode cL_law 1238 = .ok (.iload 6, 2) := by decide +kernel
theorem dL_law_1240 : decode cL_law 1240 = .ok (.if_icmp .eq 5, 3) := by decide +kernel
theorem dL_law_1243 : decode cL_law 1243 = .ok (.iconst 0, 1) := by decide +kernel
theorem dL_law_1244 : decode cL_law 1244 = .ok (.ireturn, 1) := by decide +kernel
theorem dL_law_1245 : decode cL_law 1245 = .ok (.iload 6, 2) := by decide +kernel
theorem dL_law_1247 : decode cL_law 1247 = .ok (.ifCond .ne 15, 3) := by decide +kernel
theorem dL_law_1250 : decode cL_law 1250 = .ok (.aload_n 3, 1) := by decide +kernel
theorem dL_law_1251 : decode cL_law 1251 = .ok (.iconst 0, 1) := by decide +kernel
theorem dL_law_1252 : decode cL_law 1252 = .ok (.laload, 1) := by decide +kernel
theorem dL_law_1253 : decode cL_law 1253 = .ok (.iload 7, 2) := by decide +kernel
theorem dL_law_1255 : decode cL_law 1255 = .ok (.i2l, 1) := by decide +kernel
theorem dL_law_1256 : decode cL_law 1256 = .ok (.lcmp, 1) := by decide +kernel
theorem dL_law_1257 : decode cL_law 1257 = .ok (.ifCond .eq 5, 3) := by decide +kernel
theorem dL_law_1260 : decode cL_law 1260 = .ok (.iconst 0, 1) := by decide +kernel
theorem dL_law_1261 : decode cL_law 1261 = .ok (.ireturn, 1) := by decide +kernel
theorem dL_law_1262 : decode cL_law 1262 = .ok (.goto 163, 3) := by decide +kernel
theorem dL_law_1265 : decode cL_law 1265 = .ok (.aload_n 1, 1) := by decide +kernel
theorem dL_law_1266 : decode cL_law 1266 = .ok (.aload_n 0, 1) := by decide +kernel
theorem dL_law_1267 : decode cL_law 1267 = .ok (.iload 5, 2) := by decide +kernel
theorem dL_law_1269 : decode cL_law 1269 = .ok (.iconst 1, 1) := by decide +kernel
theorem dL_law_1270 : decode cL_law 1270 = .ok (.iadd, 1) := by decide +kernel
theorem dL_law_1271 : decode cL_law 1271 = .ok (.iaload, 1) := by decide +kernel
theorem dL_law_1272 : decode cL_law 1272 = .ok (.aload 4, 2) := by decide +kernel
theorem dL_law_1274 : decode cL_law 1274 = .ok (.invokestatic 171, 3) := by decide +kernel
theorem dL_law_1277 : decode cL_law 1277 = .ok (.istore 6, 2) := by decide +kernel
theorem dL_law_1279 : decode cL_law 1279 = .ok (.aload_n 2, 1) := by decide +kernel
theorem dL_law_1280 : decode cL_law 1280 = .ok (.aload_n 0, 1) := by decide +kernel
theorem dL_law_1281 : decode cL_law 1281 = .ok (.iload 5, 2) := by decide +kernel
theorem dL_law_1283 : decode cL_law 1283 = .ok (.iconst 1, 1) := by decide +kernel
theorem dL_law_1284 : decode cL_law 1284 = .ok (.iadd, 1) := by decide +kernel
theorem dL_law_1285 : decode cL_law 1285 = .ok (.iaload, 1) := by decide +kernel
theorem dL_law_1286 : decode cL_law 1286 = .ok (.invokevirtual 174, 3) := by decide +kernel
theorem dL_law_1289 : decode cL_law 1289 = .ok (.dstore 7, 2) := by decide +kernel
theorem dL_law_1291 : decode cL_law 1291 = .ok (.aload_n 2, 1) := by decide +kernel
theorem dL_law_1292 : decode cL_law 1292 = .ok (.invokevirtual 90, 3) := by decide +kernel
theorem dL_law_1295 : decode cL_law 1295 = .ok (.iload 6, 2) := by decide +kernel
theorem dL_law_1297 : decode cL_law 1297 = .ok (.if_icmp .eq 5, 3) := by decide +kernel
theorem dL_law_1300 : decode cL_law 1300 = .ok (.iconst 0, 1) := by decide +kernel
theorem dL_law_1301 : decode cL_law 1301 = .ok (.ireturn, 1) := by decide +kernel
theorem dL_law_1302 : decode cL_law 1302 = .ok (.iload 6, 2) := by decide +kernel
theorem dL_law_1304 : decode cL_law 1304 = .ok (.ifCond .ne 35, 3) := by decide +kernel
theorem dL_law_1307 : decode cL_law 1307 = .ok (.aload 4, 2) := by decide +kernel
theorem dL_law_1309 : decode cL_law 1309 = .ok (.iconst 0, 1) := by decide +kernel
theorem dL_law_1310 : decode cL_law 1310 = .ok (.daload, 1) := by decide +kernel
theorem dL_law_1311 : decode cL_law 1311 = .ok (.dload 7, 2) := by decide +kernel
theorem dL_law_1313 : decode cL_law 1313 = .ok (.dcmp .l, 1) := by decide +kernel
theorem dL_law_1314 : decode cL_law 1314 = .ok (.ifCond .eq 25, 3) := by decide +kernel
theorem dL_law_1317 : decode cL_law 1317 = .ok (.aload 4, 2) := by decide +kernel
theorem dL_law_1319 : decode cL_law 1319 = .ok (.iconst 0, 1) := by decide +kernel
theorem dL_law_1320 : decode cL_law 1320 = .ok (.daload, 1) := by decide +kernel
theorem dL_law_1321 : decode cL_law 1321 = .ok (.aload 4, 2) := by decide +kernel
theorem dL_law_1323 : decode cL_law 1323 = .ok (.iconst 0, 1) := by decide +kernel
theorem dL_law_1324 : decode cL_law 1324 = .ok (.daload, 1) := by decide +kernel
theorem dL_law_1325 : decode cL_law 1325 = .ok (.dcmp .l, 1) := by decide +kernel
theorem dL_law_1326 : decode cL_law 1326 = .ok (.ifCond .eq 11, 3) := by decide +kernel
theorem dL_law_1329 : decode cL_law 1329 = .ok (.dload 7, 2) := by decide +kernel
theorem dL_law_1331 : decode cL_law 1331 = .ok (.dload 7, 2) := by decide +kernel
theorem dL_law_1333 : decode cL_law 1333 = .ok (.dcmp .l, 1) := by decide +kernel
theorem dL_law_1334 : decode cL_law 1334 = .ok (.ifCond .ne 5, 3) := by decide +kernel
theorem dL_law_1337 : decode cL_law 1337 = .ok (.iconst 0, 1) := by decide +kernel
theorem dL_law_1338 : decode cL_law 1338 = .ok (.ireturn, 1) := by decide +kernel
theorem dL_law_1339 : decode cL_law 1339 = .ok (.goto 86, 3) := by decide +kernel
theorem dL_law_1342 : decode cL_law 1342 = .ok (.aload_n 1, 1) := by decide +kernel
theorem dL_law_1343 : decode cL_law 1343 = .ok (.invokevirtual 175, 3) := by decide +kernel
theorem dL_law_1346 : decode cL_law 1346 = .ok (.aload_n 2, 1) := by decide +kernel
theorem dL_law_1347 : decode cL_law 1347 = .ok (.invokevirtual 178, 3) := by decide +kernel
theorem dL_law_1350 : decode cL_law 1350 = .ok (.if_icmp .eq 75, 3) := by decide +kernel
theorem dL_law_1353 : decode cL_law 1353 = .ok (.iconst 0, 1) := by decide +kernel
theorem dL_law_1354 : decode cL_law 1354 = .ok (.ireturn, 1) := by decide +kernel
theorem dL_law_1355 : decode cL_law 1355 = .ok (.aload_n 1, 1) := by decide +kernel
theorem dL_law_1356 : decode cL_law 1356 = .ok (.aload_n 0, 1) := by decide +kernel
theorem dL_law_1357 : decode cL_law 1357 = .ok (.iload 5, 2) := by decide +kernel
theorem dL_law_1359 : decode cL_law 1359 = .ok (.iconst 1, 1) := by decide +kernel
theorem dL_law_1360 : decode cL_law 1360 = .ok (.iadd, 1) := by decide +kernel
theorem dL_law_1361 : decode cL_law 1361 = .ok (.iaload, 1) := by decide +kernel
theorem dL_law_1362 : decode cL_law 1362 = .ok (.aload_n 3, 1) := by decide +kernel
theorem dL_law_1363 : decode cL_law 1363 = .ok (.invokestatic 179, 3) := by decide +kernel
theorem dL_law_1366 : decode cL_law 1366 = .ok (.istore 6, 2) := by decide +kernel
theorem dL_law_1368 : decode cL_law 1368 = .ok (.aload_n 2, 1) := by decide +kernel
theorem dL_law_1369 : decode cL_law 1369 = .ok (.aload_n 0, 1) := by decide +kernel
theorem dL_law_1370 : decode cL_law 1370 = .ok (.iload 5, 2) := by decide +kernel
theorem dL_law_1372 : decode cL_law 1372 = .ok (.iconst 1, 1) := by decide +kernel
theorem dL_law_1373 : decode cL_law 1373 = .ok (.iadd, 1) := by decide +kernel
theorem dL_law_1374 : decode cL_law 1374 = .ok (.iaload, 1) := by decide +kernel
theorem dL_law_1375 : decode cL_law 1375 = .ok (.invokevirtual 181, 3) := by decide +kernel
theorem dL_law_1378 : decode cL_law 1378 = .ok (.istore 7, 2) := by decide +kernel
theorem dL_law_1380 : decode cL_law 1380 = .ok (.aload_n 2, 1) := by decide +kernel
theorem dL_law_1381 : decode cL_law 1381 = .ok (.invokevirtual 90, 3) := by decide +kernel
theorem dL_law_1384 : decode cL_law 1384 = .ok (.iload 6, 2) := by decide +kernel
theorem dL_law_1386 : decode cL_law 1386 = .ok (.if_icmp .eq 5, 3) := by decide +kernel
theorem dL_law_1389 : decode cL_law 1389 = .ok (.iconst 0, 1) := by decide +kernel
theorem dL_law_1390 : decode cL_law 1390 = .ok (.ireturn, 1) := by decide +kernel
theorem dL_law_1391 : decode cL_law 1391 = .ok (.iload 6, 2) := by decide +kernel
theorem dL_law_1393 : decode cL_law 1393 = .ok (.ifCond .ne 15, 3) := by decide +kernel
theorem dL_law_1396 : decode cL_law 1396 = .ok (.aload_n 3, 1) := by decide +kernel
theorem dL_law_1397 : decode cL_law 1397 = .ok (.iconst 0, 1) := by decide +kernel
theorem dL_law_1398 : decode cL_law 1398 = .ok (.laload, 1) := by decide +kernel
theorem dL_law_1399 : decode cL_law 1399 = .ok (.iload 7, 2) := by decide +kernel
theorem dL_law_1401 : decode cL_law 1401 = .ok (.i2l, 1) := by decide +kernel
theorem dL_law_1402 : decode cL_law 1402 = .ok (.lcmp, 1) := by decide +kernel
theorem dL_law_1403 : decode cL_law 1403 = .ok (.ifCond .eq 5, 3) := by decide +kernel
theorem dL_law_1406 : decode cL_law 1406 = .ok (.iconst 0, 1) := by decide +kernel
theorem dL_law_1407 : decode cL_law 1407 = .ok (.ireturn, 1) := by decide +kernel
theorem dL_law_1408 : decode cL_law 1408 = .ok (.goto 17, 3) := by decide +kernel
theorem dL_law_1411 : decode cL_law 1411 = .ok (.aload_n 1, 1) := by decide +kernel
theorem dL_law_1412 : decode cL_law 1412 = .ok (.invokevirtual 182, 3) := by decide +kernel
theorem dL_law_1415 : decode cL_law 1415 = .ok (.aload_n 2, 1) := by decide +kernel
theorem dL_law_1416 : decode cL_law 1416 = .ok (.invokevirtual 186, 3) := by decide +kernel
theorem dL_law_1419 : decode cL_law 1419 = .ok (.lcmp, 1) := by decide +kernel
theorem dL_law_1420 : decode cL_law 1420 = .ok (.ifCond .eq 5, 3) := by decide +kernel
theorem dL_law_1423 : decode cL_law 1423 = .ok (.iconst 0, 1) := by decide +kernel
theorem dL_law_1424 : decode cL_law 1424 = .ok (.ireturn, 1) := by decide +kernel
theorem dL_law_1425 : decode cL_law 1425 = .ok (.iinc 5 3, 3) := by decide +kernel
theorem dL_law_1428 : decode cL_law 1428 = .ok (.goto (-1400), 3) := by decide +kernel
theorem dL_law_1431 : decode cL_law 1431 = .ok (.iconst 1, 1) := by decide +kernel
theorem dL_law_1432 : decode cL_law 1432 = .ok (.ireturn, 1) := by decide +kernel
end
section
/-! ===== the walk's own words: a method's state as lists, the law's world as two rows of cells ===== -/
/-- b0, b1 (where the class's and the reference's cells begin), array classes by kind, the tables' numbers, the script: its cell, length, ints -/
abbrev gp_T : Type := Nat × Nat × (Nat → ClassId) × va_G × Nat × Nat × (Nat → Int32)
/-- a method: name, code, locals, return type, frames and locals' words that it needs below it, handlers -/
abbrev md_T : Type := MethodName × ByteArray × Nat × Option FieldType × Nat × Nat × List (Nat × Nat × Nat × Nat)
abbrev ps_T : Type := Option Value → Nat → List va_E → List va_E → Prop
abbrev xs_T : Type := String → Nat → List va_E → List va_E → Prop
def TG : List Cond := lw_tbl.filter goodWord
theorem tg_mem (i : Nat) {w : Cond} (h : lw_tbl[i]? = some w) (hg : goodWord w = true) : w ∈ TG := List.mem_filter.mpr ⟨List.mem_of_getElem? h, hg⟩
theorem tg_good : GoodIn TG TG := fun w h => ⟨h, good_of_word (List.mem_filter.mp h).2⟩
theorem tg_sub {ws : List Cond} (h : ∀ w ∈ ws, w ∈ TG) : GoodIn TG ws := fun w hw => ⟨h w hw, good_of_word (List.mem_filter.mp (h w hw)).2⟩
def gFr (g : gp_T) : Nat → Prop := fun q => g.1 ≤ q
abbrev gTy (g : gp_T) : List (ClassId × FieldType) := [(g.2.2.1 0, .int), (g.2.2.1 1, .boolean), (g.2.2.1 2, .long), (g.2.2.1 3, .double)]
abbrev aI (g : gp_T) (n : Nat) (f : Nat → Int32) : va_E := .inl (g.2.2.1 0, n, .inl f)
abbrev aZ (g : gp_T) (n : Nat) (f : Nat → Int32) : va_E := .inl (g.2.2.1 1, n, .inl f)
abbrev aJ (g : gp_T) (n : Nat) (f : Nat → Int64) : va_E := .inl (g.2.2.1 2, n, .inr (.inl f))
abbrev aD (g : gp_T) (n : Nat) (f : Nat → UInt64) : va_E := .inl (g.2.2.1 3, n, .inr (.inr (.inr (.inl f))))
abbrev oB (ci : Nat) (fs : List Value) : va_E := .inr (ci, fs)
def gW (g : gp_T) (A B : List va_E) : va_W := A.mapIdx (fun i c => (g.1 + i, c)) ++ B.mapIdx (fun i c => (g.2.1 + i, c))
def gSz (g : gp_T) (z : Nat) (A B : List va_E) (H : Heap) : Prop := match z with
  | 0 => True
  | 1 => H.size = g.1 + A.length ∧ B = []
  | _ => H.size = g.2.1 + B.length
def gHp (g : gp_T) (z : Nat) (A B : List va_E) (H : Heap) : Prop := va_P g.2.2.2.1 vwCl (gW g A B) H ∧ va_D (gFr g) (gW g A B) ∧ gSz g z A B H
theorem gW_a {g : gp_T} {A B : List va_E} {k : Nat} {c : va_E} (h : A[k]? = some c) : (gW g A B)[k]? = some (g.1 + k, c) := by
  have hk := (List.getElem?_eq_some_iff.mp h).1
  unfold gW
  rw [List.getElem?_append_left (by rw [List.length_mapIdx]; exact hk), List.getElem?_mapIdx, h]
  rfl
theorem gW_b {g : gp_T} {A B : List va_E} {k : Nat} {c : va_E} (h : B[k]? = some c) : (gW g A B)[A.length + k]? = some (g.2.1 + k, c) := by
  unfold gW
  rw [List.getElem?_append_right (by rw [List.length_mapIdx]; omega), List.length_mapIdx, Nat.add_sub_cancel_left, List.getElem?_mapIdx, h]
  rfl
theorem gW_sa {g : gp_T} {A B : List va_E} {k : Nat} {c c' : va_E} (h : A[k]? = some c) : (gW g A B).set k (g.1 + k, c') = gW g (A.set k c') B := by
  have hk := (List.getElem?_eq_some_iff.mp h).1
  unfold gW
  rw [List.set_append_left _ _ (by rw [List.length_mapIdx]; exact hk), List.mapIdx_set]
theorem gW_sb {g : gp_T} {A B : List va_E} {k : Nat} {c' : va_E} : (gW g A B).set (A.length + k) (g.2.1 + k, c') = gW g A (B.set k c') := by
  unfold gW
  rw [List.set_append_right _ _ (by rw [List.length_mapIdx]; omega), List.length_mapIdx, Nat.add_sub_cancel_left, List.mapIdx_set]
theorem gW_pa {g : gp_T} {A : List va_E} {c : va_E} : gW g (A ++ [c]) [] = gW g A [] ++ [(g.1 + A.length, c)] := by
  unfold gW
  simp [List.mapIdx_append]
theorem gW_pb {g : gp_T} {A B : List va_E} {c : va_E} : gW g A (B ++ [c]) = gW g A B ++ [(g.2.1 + B.length, c)] := by
  unfold gW
  simp [List.mapIdx_append]
/-- texts, casts that fail, links within the nest, constructors that are declared, casts that hold -/
def gSt : List (String × Nat × String) := [("PathProfiler", 77, "a graph has 2 to 12 nodes"), ("PathProfiler", 93, "the graph allows no such edge"), ("PathProfiler", 101, "there are 24 edges"), ("PathProfiler", 292, "there is no such edge"), ("PathProfiler", 111, "a weight is 0 to 99"), ("PathProfiler", 121, "a character code is 32 to 126"), ("PathProfiler", 124, "the buffer has 60 characters"), ("PathProfiler", 139, "the buffer is not a graph"), ("PathProfiler", 282, "there is no analysis"), ("PathProfiler", 173, "there is no such node"), ("PathProfiler", 294, "there is no such path"), ("PathProfiler", 208, "the path has no such node"), ("PathProfiler", 287, "there is no analysis, or more than 200 paths"), ("PathProfiler", 235, "there is no walk, or it is over"), ("PathProfiler", 240, "the node has no such edge")]
abbrev xIA : String := "java/lang/IllegalArgumentException"
abbrev xIS : String := "java/lang/IllegalStateException"
abbrev xIB : String := "java/lang/IndexOutOfBoundsException"
def gXn : List (String × String) := [(xIA, xIS), (xIA, xIB), (xIS, xIA), (xIS, xIB), (xIB, xIA), (xIB, xIS)]
def gNm : List (String × Nat × MethodName × String) := [("PathProfiler", 11, yX0_init, "PathProfiler"), ("PathProfiler", 18, yX5_init, "PathProfiler"), ("PathProfiler", 25, yX3_init, "PathProfiler"), ("PathProfiler$Reader", 11, yX0_init, "PathProfiler"), ("PathProfiler", 66, yX7_init, "PathProfiler")]
def gNd : List MethodName := [⟨"java/lang/RuntimeException", "<init>", "()V"⟩, ⟨"java/lang/RuntimeException", "<init>", "(Ljava/lang/String;)V"⟩, ⟨"java/lang/Exception", "<init>", "()V"⟩, ⟨"java/lang/Exception", "<init>", "(Ljava/lang/String;)V"⟩, ⟨"java/lang/Throwable", "<init>", "()V"⟩, ⟨"java/lang/Throwable", "<init>", "(Ljava/lang/String;)V"⟩]
def gNc : List (String × String) := [(xIA, xIA), (xIS, xIS), (xIB, xIB)]
def gKt (g : gp_T) (U : State) : Prop :=
  va_K g.2.2.2.1 vwCl (gTy g) U ∧
  (vx_Zq Bundle.tN "UNASSIGNED_STACK" Bundle.steD (gFr g) U U.heap ∧ vx_Zq Bundle.tN "SUPPRESSED_SENTINEL" Bundle.listD (gFr g) U U.heap) ∧
  (∀ q ∈ gSt, ∃ a, vk_R q.1 q.2.1 q.2.2 a U) ∧ (∀ q ∈ gXn, va_Nc q.1 q.2 U) ∧
  ((∀ q ∈ gNm, va_Nw (.methodLinkNest q.1 q.2.1 q.2.2.1 q.2.2.2) U) ∧ (∀ x ∈ gNd, va_Nw (.declares x) U) ∧ (∀ q ∈ gNc, va_Nw (.castable q.1 q.2) U)) ∧
  va_X g.2.2.2.2.1 g.2.2.2.2.2.1 g.2.2.2.2.2.2 U U.heap ∧ g.2.2.2.2.1 < g.1 ∧ g.1 ≤ U.heap.size
theorem gKt.warm {g : gp_T} {s U : State} (h : gKt g s) (hW : s.WarmedH U.vm) (hs : s.heap.size ≤ U.heap.size) (hk : ∀ q : Nat, q < s.heap.size → ¬ gFr g q → U.heap[q]? = s.heap[q]?) : gKt g U := by
  obtain ⟨h1, ⟨h2, h3⟩, h4, h5, ⟨h6, h7, h8⟩, h9, h10, h11⟩ := h
  refine ⟨h1.moved hW.alike, ⟨(h2.moved hW.alike).kept hk, (h3.moved hW.alike).kept hk⟩, fun q hq => ?_, fun q hq => (h5 q hq).moved hW.alike, ⟨fun q hq => (h6 q hq).warmM hW, fun x hx => (h7 x hx).warmD hW, fun q hq => (h8 q hq).warmC hW⟩, (h9.moved hW.alike).kept (hk _ (by omega) (fun h => ?_)), h10, by omega⟩
  · obtain ⟨a, ha⟩ := h4 q hq
    exact ⟨a, ha.warm hW⟩
  · have h12 : g.1 ≤ g.2.2.2.2.1 := h
    omega
def gWd (g : gp_T) (z : Nat) (A B : List va_E) (U : State) : Prop := gHp g z A B U.heap ∧ gKt g U
def gQc (g : gp_T) (P : ps_T) : Array Value → State → Outcome → State → Prop := fun _ st o t => (∃ (v : Option Value) (z : Nat) (A B : List va_E), o = .returned v ∧ P v z A B ∧ gHp g z A B t.heap) ∧ va_F (gFr g) st t
def gXC (g : gp_T) (X : xs_T) : String → State → State → Prop := fun E st t => (∃ (z : Nat) (A B : List va_E), X E z A B ∧ gHp g z A B t.heap) ∧ va_F (gFr g) st t
def gRm (M : md_T) (mc ms : Nat) : Room := { frames := M.2.2.2.2.1, cells := mc, slots := ms, locals := M.2.2.2.2.2.1 }
def gWord (M : md_T) : Cond := match M.2.2.2.2.2.2 with
  | [] => .code M.1 M.2.1 M.2.2.1 M.2.2.2.1
  | _ => .codeWith M.1 M.2.1 M.2.2.1 M.2.2.2.1 M.2.2.2.2.2.2
/-- a method's contract: from these arguments and cells it returns with P, or throws with X -/
def Ct (g : gp_T) (M : md_T) (args : List Value) (z : Nat) (A B : List va_E) (mc ms : Nat) (P : ps_T) (X : xs_T) : Prop :=
  ∀ l : Launch, l.stackTraces = false → vx_Met l M.1 (gWord M :: TG) (gRm M mc ms) (va_Pc args (gWd g z A B)) (gQc g P) (gXC g X) mc ms (gFr g)
def gCx (g : gp_T) (M : md_T) (p : Program) (l : Launch) (s : State) (m : MethodId) (args : Array Value) (meth : Method) (c : Code) : Prop :=
  p.tables.exec = Jvm.exec ∧ c.code = M.2.1 ∧ c.maxLocals = M.2.2.1 ∧ meth.sig.returnType = M.2.2.2.1 ∧ meth.locks = false ∧ s.vm.findClass M.1.cls = some m.cls ∧ (∀ w ∈ TG, w.before args s = true) ∧ c.exceptionTable.toList = tableOf M.2.2.2.2.2.2 ∧ meth.name = M.1.name ∧ l.stackTraces = false ∧ gKt g s
def LR (ls : Array Slot) (n : Nat) (L : List (Option Value)) : Prop := ls.size = n ∧ lv_wf ls ∧ ∀ (i : Nat) (v : Value), L[i]? = some (some v) → ls[i]? = some (.val v)
def lPr (L : List (Option Value)) : List (Nat × Value) := (List.range L.length).filterMap (fun j => match L[j]? with
  | some (some w) => some (j, w)
  | _ => none)
def lKl (L : List (Option Value)) (i : Nat) : List (Option Value) := match i with
  | 0 => L
  | j + 1 => match L[j]? with
    | some (some w) => bif w.category == 2 then L.set j none else L
    | _ => L
def lS1 (L : List (Option Value)) (i : Nat) (v : Value) : List (Option Value) := (lKl L i).set i (some v)
def lS2 (L : List (Option Value)) (i : Nat) (v : Value) : List (Option Value) := ((lKl L i).set i (some v)).set (i + 1) none
theorem lPr_mem {L : List (Option Value)} {j : Nat} {w : Value} : (j, w) ∈ lPr L ↔ L[j]? = some (some w) := by
  unfold lPr
  rw [List.mem_filterMap]
  constructor
  · rintro ⟨i, -, hi⟩
    split at hi
    next w' h' => cases hi; exact h'
    next => cases hi
  · intro h
    refine ⟨j, List.mem_range.mpr (List.getElem?_eq_some_iff.mp h).1, ?_⟩
    rw [h]
theorem LR.has {ls : Array Slot} {n : Nat} {L : List (Option Value)} (h : LR ls n L) : lv_has ls n (lPr L) := ⟨h.1, h.2.1, fun q hq => h.2.2 q.1 q.2 (lPr_mem.mp hq)⟩
theorem lKl_at {L : List (Option Value)} {i j : Nat} {w : Value} (h : (lKl L i)[j]? = some (some w)) : L[j]? = some (some w) ∧ ¬ (j + 1 = i ∧ w.category = 2) := by
  unfold lKl at h
  cases i with
  | zero => exact ⟨h, fun q => by omega⟩
  | succ i =>
    dsimp only at h
    cases hi : L[i]? with
    | none =>
      rw [hi] at h
      refine ⟨h, fun q => ?_⟩
      have : j = i := by omega
      rw [this, hi] at h
      cases h
    | some o =>
      cases o with
      | none =>
        rw [hi] at h
        refine ⟨h, fun q => ?_⟩
        have : j = i := by omega
        rw [this, hi] at h
        cases h
      | some u =>
        rw [hi] at h
        dsimp only at h
        cases hc : (u.category == 2) with
        | true =>
          rw [hc] at h
          dsimp only [cond_true] at h
          by_cases hj : j = i
          · subst hj
            rw [List.getElem?_set_self (List.getElem?_eq_some_iff.mp hi).1] at h
            cases h
          · rw [List.getElem?_set_ne (Ne.symm hj)] at h
            exact ⟨h, fun q => hj (by omega)⟩
        | false =>
          rw [hc] at h
          dsimp only [cond_false] at h
          refine ⟨h, fun q => ?_⟩
          have : j = i := by omega
          rw [this, hi] at h
          cases h
          rw [q.2] at hc
          cases hc
theorem LR.of1 {ls : Array Slot} {n i : Nat} {L : List (Option Value)} {v : Value} (h : lv_has ls n ((i, v) :: (lPr L).filter (fun q => !(q.1 == i) && !(q.1 + 1 == i && q.2.category == 2)))) : LR ls n (lS1 L i v) := by
  refine ⟨h.1, h.2.1, fun j w hj => ?_⟩
  unfold lS1 at hj
  by_cases e : j = i
  · subst e
    have hl : j < (lKl L j).length := by
      have := (List.getElem?_eq_some_iff.mp hj).1
      rwa [List.length_set] at this
    rw [List.getElem?_set_self hl] at hj
    cases hj
    exact h.2.2 (j, _) List.mem_cons_self
  · rw [List.getElem?_set_ne (Ne.symm e)] at hj
    obtain ⟨h1, h2⟩ := lKl_at hj
    refine h.2.2 (j, w) (List.mem_cons_of_mem _ (List.mem_filter.mpr ⟨lPr_mem.mpr h1, ?_⟩))
    simp only [Bool.and_eq_true, Bool.not_eq_true', beq_eq_false_iff_ne, ne_eq]
    refine ⟨e, ?_⟩
    cases hb : (j + 1 == i && w.category == 2) with
    | false => rfl
    | true => simp at hb; exact absurd hb h2
theorem LR.of2 {ls : Array Slot} {n i : Nat} {L : List (Option Value)} {v : Value} (h : lv_has ls n ((i, v) :: (lPr L).filter (fun q => !(q.1 == i) && (!(q.1 == i + 1) && !(q.1 + 1 == i && q.2.category == 2))))) : LR ls n (lS2 L i v) := by
  refine ⟨h.1, h.2.1, fun j w hj => ?_⟩
  unfold lS2 at hj
  by_cases e2 : j = i + 1
  · subst e2
    have hl := (List.getElem?_eq_some_iff.mp hj).1
    rw [List.length_set] at hl
    rw [List.getElem?_set_self hl] at hj
    cases hj
  · rw [List.getElem?_set_ne (Ne.symm e2)] at hj
    by_cases e : j = i
    · subst e
      have hl : j < (lKl L j).length := by
        have := (List.getElem?_eq_some_iff.mp hj).1
        rwa [List.length_set] at this
      rw [List.getElem?_set_self hl] at hj
      cases hj
      exact h.2.2 (j, _) List.mem_cons_self
    · rw [List.getElem?_set_ne (Ne.symm e)] at hj
      obtain ⟨h1, h2⟩ := lKl_at hj
      refine h.2.2 (j, w) (List.mem_cons_of_mem _ (List.mem_filter.mpr ⟨lPr_mem.mpr h1, ?_⟩))
      simp only [Bool.and_eq_true, Bool.not_eq_true', beq_eq_false_iff_ne, ne_eq]
      refine ⟨e, e2, ?_⟩
      cases hb : (j + 1 == i && w.category == 2) with
      | false => rfl
      | true => simp at hb; exact absurd hb h2
theorem LR.lt {ls : Array Slot} {n i : Nat} {L : List (Option Value)} {v : Value} (h : LR ls n L) (hL : L[i]? = some (some v)) : i < n := by
  have := lv_lt (h.2.2 i v hL)
  rw [h.1] at this
  exact this
/-- the machine comes from this point of the method to its end, as its contract says -/
def AW (g : gp_T) (M : md_T) (mc ms : Nat) (P : ps_T) (X : xs_T) (kc ns pc : Nat) (L : List (Option Value)) (S : List Value) (z : Nat) (A B : List va_E) : Prop :=
  ∀ (p : Program) (l : Launch) (e : Env) (s : State) (m : MethodId) (args : Array Value) (below : List Frame) (meth : Method) (c : Code) (H : Heap) (locs : List Loc) (ls : Array Slot),
    gCx g M p l s m args meth c → gHp g z A B H → va_S (gFr g) s.heap H locs → LR ls M.2.2.1 L →
    W p l e (gRm M mc ms) s m args below meth c H locs kc ns (vx_MQ below (gQc g P) (gXC g X) args s mc ms (gFr g)) (F0 m pc ls S)
/-- the same, with an exception of class E thrown here -/
def AX (g : gp_T) (M : md_T) (mc ms : Nat) (P : ps_T) (X : xs_T) (kc ns pc : Nat) (L : List (Option Value)) (E : String) (z : Nat) (A B : List va_E) : Prop :=
  ∀ (p : Program) (l : Launch) (e : Env) (s : State) (m : MethodId) (args : Array Value) (below : List Frame) (meth : Method) (c : Code) (H : Heap) (locs : List Loc) (ls : Array Slot) (rest : List Value) (q : Addr) (ce : Cell),
    gCx g M p l s m args meth c → gHp g z A B H → va_S (gFr g) s.heap H locs → LR ls M.2.2.1 L → H[q]? = some ce → ce.vm = .none → s.vm.findClass E = some ce.cls →
    vx_W p l e (gRm M mc ms) s m args below meth c H locs kc ns (vx_MQ below (gQc g P) (gXC g X) args s mc ms (gFr g)) (F0 m pc ls rest) q
theorem gWd_blind {g : gp_T} {z : Nat} {A B : List va_E} {av : List Value} : FrameBlind (va_Pc av (gWd g z A B)) := by
  intro a U gf mk h
  refine ⟨h.1, h.2.1, ?_⟩
  exact h.2.2.warm (U := U.calling gf mk a) (State.WarmedH.refl U) (Nat.le_refl _) (fun _ _ _ => rfl)
theorem gWd_pre {g : gp_T} {z : Nat} {A B : List va_E} {s U : State} {H : Heap} {locs : List Loc} (hk : gKt g s) (hH : gHp g z A B H) (hS : va_S (gFr g) s.heap H locs) (hU : U.heap = H) (hW : s.WarmedH U.vm) : gWd g z A B U := by
  refine ⟨by rw [hU]; exact hH, hk.warm hW (by rw [hU]; exact hS.1) (fun q h1 h2 => by rw [hU]; exact hS.2.1 q h1 h2)⟩
/-- a contract out of a walk of the body -/
theorem Ct.of {g : gp_T} {M : md_T} {args : List Value} {z : Nat} {A B : List va_E} {mc ms : Nat} {P : ps_T} {X : xs_T} (L : List (Option Value)) (hy : plainName M.1.cls = true) (hh : M.2.2.2.2.2.2 = []) (hn : (lg_sl args).length ≤ M.2.2.1) (hL : lPr L = lv_args 0 args)
    (k : AW g M mc ms P X 0 0 0 L [] z A B) : Ct g M args z A B mc ms P X := by
  intro l hl
  refine vx_ofW (cc := M.2.1) (maxL := M.2.2.1) (ret := M.2.2.2.1) hy (by unfold gWord; rw [hh]) ?_
  intro p e s m av below meth c s₁ Bd hml ht hP
  obtain ⟨hav, hH, hK⟩ := hP
  subst hav
  rw [lg_entry_eq]
  have hent := lv_entry args hn
  refine k p l e s m _ below meth c s.heap [] _ ⟨Bd.exec, Bd.bytes, hml, Bd.returns, Bd.notSynchronized, findClass_of_methodNamed Bd.named, fun w hw => atoms_spec (ws := gWord M :: TG) Bd.pre w (List.mem_cons_of_mem _ hw), ?_, (name_of_methodNamed Bd.named Bd.method).1, hl, hK⟩ hH va_S.rf ⟨hent.1, hent.2.1, fun i v hi => hent.2.2 (i, v) (by rw [← hL]; exact lPr_mem.mpr hi)⟩
  rw [hh]
  cases hc : c.exceptionTable.toList with
  | nil => rfl
  | cons x r => exact absurd (ht x (by rw [hc]; exact List.mem_cons_self)) id
/-- a contract of a method with handlers -/
theorem Ct.ofH {g : gp_T} {M : md_T} {args : List Value} {z : Nat} {A B : List va_E} {mc ms : Nat} {P : ps_T} {X : xs_T} (L : List (Option Value)) (hy : plainName M.1.cls = true) (hw : gWord M = .codeWith M.1 M.2.1 M.2.2.1 M.2.2.2.1 M.2.2.2.2.2.2) (hn : (lg_sl args).length ≤ M.2.2.1) (hL : lPr L = lv_args 0 args)
    (k : AW g M mc ms P X 0 0 0 L [] z A B) : Ct g M args z A B mc ms P X := by
  intro l hl
  refine vx_ofWH (cc := M.2.1) (maxL := M.2.2.1) (ret := M.2.2.2.1) (hh := M.2.2.2.2.2.2) hy (by rw [hw]) ?_
  intro p e s m av below meth c s₁ Bd hml hP
  obtain ⟨hav, hH, hK⟩ := hP
  subst hav
  rw [lg_entry_eq]
  have hent := lv_entry args hn
  refine k p l e s m _ below meth c s.heap [] _ ⟨Bd.exec, Bd.bytes, hml, Bd.returns, Bd.notSynchronized, findClass_of_methodNamed Bd.named, fun w hw => atoms_spec (ws := gWord M :: TG) Bd.pre w (List.mem_cons_of_mem _ hw), ?_, (name_of_methodNamed Bd.named Bd.method).1, hl, hK⟩ hH va_S.rf ⟨hent.1, hent.2.1, fun i v hi => hent.2.2 (i, v) (by rw [← hL]; exact lPr_mem.mpr hi)⟩
  exact vx_table (x := M.1) Bd (by rw [← hw]; exact atoms_spec (ws := gWord M :: TG) Bd.pre _ List.mem_cons_self)
end
section
section Rules
variable {g : gp_T} {M : md_T} {mc ms : Nat} {P : ps_T} {X : xs_T} {kc ns pc q : Nat} {L : List (Option Value)} {S : List Value} {z : Nat} {A B : List va_E}
theorem a_iconst {n : Int} (v : Int32) (d : decode M.2.1 pc = .ok (.iconst n, 1)) (hv : Int32.ofInt n = v) (hq : pc + 1 = q) (k : AW g M mc ms P X kc ns q L (.int v :: S) z A B) : AW g M mc ms P X kc ns pc L S z A B := by
  subst hq
  intro p l e s m args below meth c H locs ls C hH hS hl
  exact lv_iconst C.1 C.2.1 d hv (k p l e s m args below meth c H locs ls C hH hS hl)
theorem a_bipush {n : Int} (v : Int32) (d : decode M.2.1 pc = .ok (.bipush n, 2)) (hv : (Int8.ofInt n).toInt32 = v) (hq : pc + 2 = q) (k : AW g M mc ms P X kc ns q L (.int v :: S) z A B) : AW g M mc ms P X kc ns pc L S z A B := by
  subst hq
  intro p l e s m args below meth c H locs ls C hH hS hl
  exact lv_bipush C.1 C.2.1 d hv (k p l e s m args below meth c H locs ls C hH hS hl)
theorem a_sipush {n : Int} (v : Int32) (d : decode M.2.1 pc = .ok (.sipush n, 3)) (hv : (Int16.ofInt n).toInt32 = v) (hq : pc + 3 = q) (k : AW g M mc ms P X kc ns q L (.int v :: S) z A B) : AW g M mc ms P X kc ns pc L S z A B := by
  subst hq
  intro p l e s m args below meth c H locs ls C hH hS hl
  exact lv_sipush C.1 C.2.1 d hv (k p l e s m args below meth c H locs ls C hH hS hl)
theorem a_lconst {n : Fin 2} (v : Int64) (d : decode M.2.1 pc = .ok (.lconst n, 1)) (hv : Int64.ofNat (n : Nat) = v) (hq : pc + 1 = q) (k : AW g M mc ms P X kc ns q L (.long v :: S) z A B) : AW g M mc ms P X kc ns pc L S z A B := by
  subst hq
  intro p l e s m args below meth c H locs ls C hH hS hl
  exact lv_lconst C.1 C.2.1 d hv (k p l e s m args below meth c H locs ls C hH hS hl)
theorem a_dconst0  (d : decode M.2.1 pc = .ok (.dconst 0, 1))  (hq : pc + 1 = q) (k : AW g M mc ms P X kc ns q L (.double FP.dconst0 :: S) z A B) : AW g M mc ms P X kc ns pc L S z A B := by
  subst hq
  intro p l e s m args below meth c H locs ls C hH hS hl
  exact lv_dconst0 C.1 C.2.1 d  (k p l e s m args below meth c H locs ls C hH hS hl)
theorem a_iadd {x y : Int32} (d : decode M.2.1 pc = .ok (.iadd, 1))  (hq : pc + 1 = q) (k : AW g M mc ms P X kc ns q L (.int (x + y) :: S) z A B) : AW g M mc ms P X kc ns pc L (.int y :: .int x :: S) z A B := by
  subst hq
  intro p l e s m args below meth c H locs ls C hH hS hl
  exact lv_iadd C.1 C.2.1 d  (k p l e s m args below meth c H locs ls C hH hS hl)
theorem a_isub {x y : Int32} (d : decode M.2.1 pc = .ok (.isub, 1))  (hq : pc + 1 = q) (k : AW g M mc ms P X kc ns q L (.int (x - y) :: S) z A B) : AW g M mc ms P X kc ns pc L (.int y :: .int x :: S) z A B := by
  subst hq
  intro p l e s m args below meth c H locs ls C hH hS hl
  exact lv_isub C.1 C.2.1 d  (k p l e s m args below meth c H locs ls C hH hS hl)
theorem a_imul {x y : Int32} (d : decode M.2.1 pc = .ok (.imul, 1))  (hq : pc + 1 = q) (k : AW g M mc ms P X kc ns q L (.int (x * y) :: S) z A B) : AW g M mc ms P X kc ns pc L (.int y :: .int x :: S) z A B := by
  subst hq
  intro p l e s m args below meth c H locs ls C hH hS hl
  exact lv_imul C.1 C.2.1 d  (k p l e s m args below meth c H locs ls C hH hS hl)
theorem a_iand {x y : Int32} (d : decode M.2.1 pc = .ok (.iand, 1))  (hq : pc + 1 = q) (k : AW g M mc ms P X kc ns q L (.int (x &&& y) :: S) z A B) : AW g M mc ms P X kc ns pc L (.int y :: .int x :: S) z A B := by
  subst hq
  intro p l e s m args below meth c H locs ls C hH hS hl
  exact lv_iand C.1 C.2.1 d  (k p l e s m args below meth c H locs ls C hH hS hl)
theorem a_ior {x y : Int32} (d : decode M.2.1 pc = .ok (.ior, 1))  (hq : pc + 1 = q) (k : AW g M mc ms P X kc ns q L (.int (x ||| y) :: S) z A B) : AW g M mc ms P X kc ns pc L (.int y :: .int x :: S) z A B := by
  subst hq
  intro p l e s m args below meth c H locs ls C hH hS hl
  exact lv_ior C.1 C.2.1 d  (k p l e s m args below meth c H locs ls C hH hS hl)
theorem a_ishl {x y : Int32} (d : decode M.2.1 pc = .ok (.ishl, 1))  (hq : pc + 1 = q) (k : AW g M mc ms P X kc ns q L (.int (x <<< (y &&& 31)) :: S) z A B) : AW g M mc ms P X kc ns pc L (.int y :: .int x :: S) z A B := by
  subst hq
  intro p l e s m args below meth c H locs ls C hH hS hl
  exact lv_ishl C.1 C.2.1 d  (k p l e s m args below meth c H locs ls C hH hS hl)
theorem a_ishr {x y : Int32} (d : decode M.2.1 pc = .ok (.ishr, 1))  (hq : pc + 1 = q) (k : AW g M mc ms P X kc ns q L (.int (x >>> (y &&& 31)) :: S) z A B) : AW g M mc ms P X kc ns pc L (.int y :: .int x :: S) z A B := by
  subst hq
  intro p l e s m args below meth c H locs ls C hH hS hl
  exact lv_ishr C.1 C.2.1 d  (k p l e s m args below meth c H locs ls C hH hS hl)
theorem a_idiv {x y : Int32} (d : decode M.2.1 pc = .ok (.idiv, 1)) (hne : ¬ y = 0) (hq : pc + 1 = q) (k : AW g M mc ms P X kc ns q L (.int (x / y) :: S) z A B) : AW g M mc ms P X kc ns pc L (.int y :: .int x :: S) z A B := by
  subst hq
  intro p l e s m args below meth c H locs ls C hH hS hl
  exact lv_idiv C.1 C.2.1 d hne (k p l e s m args below meth c H locs ls C hH hS hl)
theorem a_irem {x y : Int32} (d : decode M.2.1 pc = .ok (.irem, 1)) (hne : ¬ y = 0) (hq : pc + 1 = q) (k : AW g M mc ms P X kc ns q L (.int (x - x / y * y) :: S) z A B) : AW g M mc ms P X kc ns pc L (.int y :: .int x :: S) z A B := by
  subst hq
  intro p l e s m args below meth c H locs ls C hH hS hl
  exact lv_irem C.1 C.2.1 d hne (k p l e s m args below meth c H locs ls C hH hS hl)
theorem a_i2l {x : Int32} (d : decode M.2.1 pc = .ok (.i2l, 1))  (hq : pc + 1 = q) (k : AW g M mc ms P X kc ns q L (.long x.toInt64 :: S) z A B) : AW g M mc ms P X kc ns pc L (.int x :: S) z A B := by
  subst hq
  intro p l e s m args below meth c H locs ls C hH hS hl
  exact lv_i2l C.1 C.2.1 d rfl (k p l e s m args below meth c H locs ls C hH hS hl)
theorem a_i2d {x : Int32} (d : decode M.2.1 pc = .ok (.i2d, 1))  (hq : pc + 1 = q) (k : AW g M mc ms P X kc ns q L (.double (FP.i2d x) :: S) z A B) : AW g M mc ms P X kc ns pc L (.int x :: S) z A B := by
  subst hq
  intro p l e s m args below meth c H locs ls C hH hS hl
  exact lv_i2d C.1 C.2.1 d  (k p l e s m args below meth c H locs ls C hH hS hl)
theorem a_ladd {x y : Int64} (d : decode M.2.1 pc = .ok (.ladd, 1))  (hq : pc + 1 = q) (k : AW g M mc ms P X kc ns q L (.long (x + y) :: S) z A B) : AW g M mc ms P X kc ns pc L (.long y :: .long x :: S) z A B := by
  subst hq
  intro p l e s m args below meth c H locs ls C hH hS hl
  exact lv_ladd C.1 C.2.1 d  (k p l e s m args below meth c H locs ls C hH hS hl)
theorem a_lmul {x y : Int64} (d : decode M.2.1 pc = .ok (.lmul, 1))  (hq : pc + 1 = q) (k : AW g M mc ms P X kc ns q L (.long (x * y) :: S) z A B) : AW g M mc ms P X kc ns pc L (.long y :: .long x :: S) z A B := by
  subst hq
  intro p l e s m args below meth c H locs ls C hH hS hl
  exact lv_lmul C.1 C.2.1 d  (k p l e s m args below meth c H locs ls C hH hS hl)
theorem a_lcmp {x y : Int64} (d : decode M.2.1 pc = .ok (.lcmp, 1))  (hq : pc + 1 = q) (k : AW g M mc ms P X kc ns q L (.int (lg_cmp x y) :: S) z A B) : AW g M mc ms P X kc ns pc L (.long y :: .long x :: S) z A B := by
  subst hq
  intro p l e s m args below meth c H locs ls C hH hS hl
  exact W.lcmp C.1 C.2.1 d  (k p l e s m args below meth c H locs ls C hH hS hl)
theorem a_ddiv {x y : UInt64} (d : decode M.2.1 pc = .ok (.ddiv, 1)) (hne : vf_n64 (FP.ddiv x y)) (hq : pc + 1 = q) (k : AW g M mc ms P X kc ns q L (.double (FP.ddiv x y) :: S) z A B) : AW g M mc ms P X kc ns pc L (.double y :: .double x :: S) z A B := by
  subst hq
  intro p l e s m args below meth c H locs ls C hH hS hl
  exact lv_ddiv C.1 C.2.1 d hne (k p l e s m args below meth c H locs ls C hH hS hl)
theorem a_dcmp {x y : UInt64} {op : CmpOp} (d : decode M.2.1 pc = .ok (.dcmp op, 1))  (hq : pc + 1 = q) (k : AW g M mc ms P X kc ns q L (.int (Op.cmpValue (FP.dcmp x y) op) :: S) z A B) : AW g M mc ms P X kc ns pc L (.double y :: .double x :: S) z A B := by
  subst hq
  intro p l e s m args below meth c H locs ls C hH hS hl
  exact lv_dcmp C.1 C.2.1 d  (k p l e s m args below meth c H locs ls C hH hS hl)
theorem a_dup {va : Value} (d : decode M.2.1 pc = .ok (.dup, 1)) (hva : va.category = 1) (hq : pc + 1 = q) (k : AW g M mc ms P X kc ns q L (va :: va :: S) z A B) : AW g M mc ms P X kc ns pc L (va :: S) z A B := by
  subst hq
  intro p l e s m args below meth c H locs ls C hH hS hl
  exact lv_dup C.1 C.2.1 d hva (k p l e s m args below meth c H locs ls C hH hS hl)
theorem a_pop {va : Value} (d : decode M.2.1 pc = .ok (.pop, 1)) (hva : va.category = 1) (hq : pc + 1 = q) (k : AW g M mc ms P X kc ns q L S z A B) : AW g M mc ms P X kc ns pc L (va :: S) z A B := by
  subst hq
  intro p l e s m args below meth c H locs ls C hH hS hl
  exact lv_pop C.1 C.2.1 d hva (k p l e s m args below meth c H locs ls C hH hS hl)
theorem a_dup2 {va vb : Value} (d : decode M.2.1 pc = .ok (.dup2, 1)) (hva : va.category = 1) (hvb : vb.category = 1) (hq : pc + 1 = q) (k : AW g M mc ms P X kc ns q L (va :: vb :: va :: vb :: S) z A B) : AW g M mc ms P X kc ns pc L (va :: vb :: S) z A B := by
  subst hq
  intro p l e s m args below meth c H locs ls C hH hS hl
  exact lv_dup2_11 C.1 C.2.1 d hva hvb (k p l e s m args below meth c H locs ls C hH hS hl)
theorem a_ldc2 {idx : Nat} (v : Int64) (d : decode M.2.1 pc = .ok (.ldc2_w idx, 3)) (hc : Cond.constantLong M.1.cls idx v ∈ TG) (hq : pc + 3 = q) (k : AW g M mc ms P X kc ns q L (.long v :: S) z A B) : AW g M mc ms P X kc ns pc L S z A B := by
  subst hq
  intro p l e s m args below meth c H locs ls C hH hS hl
  exact lv_ldc2 C.1 C.2.1 C.2.2.2.2.2.1 (C.2.2.2.2.2.2.1 _ hc) d (k p l e s m args below meth c H locs ls C hH hS hl)
theorem a_iload_n {i : Fin 4} {j : Nat} {x : Int32} (d : decode M.2.1 pc = .ok (.iload_n i, 1)) (hi : (i : Nat) = j) (hL : L[j]? = some (some (.int x))) (hq : pc + 1 = q) (k : AW g M mc ms P X kc ns q L (.int x :: S) z A B) : AW g M mc ms P X kc ns pc L S z A B := by
  subst hq
  intro p l e s m args below meth c H locs ls C hH hS hl
  exact lv_iload_n C.1 C.2.1 d hi (hl.2.2 _ _ hL) (k p l e s m args below meth c H locs ls C hH hS hl)
theorem a_lload_n {i : Fin 4} {j : Nat} {x : Int64} (d : decode M.2.1 pc = .ok (.lload_n i, 1)) (hi : (i : Nat) = j) (hL : L[j]? = some (some (.long x))) (hq : pc + 1 = q) (k : AW g M mc ms P X kc ns q L (.long x :: S) z A B) : AW g M mc ms P X kc ns pc L S z A B := by
  subst hq
  intro p l e s m args below meth c H locs ls C hH hS hl
  exact lv_lload_n C.1 C.2.1 d hi (hl.2.2 _ _ hL) (k p l e s m args below meth c H locs ls C hH hS hl)
theorem a_aload_n {i : Fin 4} {j : Nat} {x : Nat} (d : decode M.2.1 pc = .ok (.aload_n i, 1)) (hi : (i : Nat) = j) (hL : L[j]? = some (some (.ref x))) (hq : pc + 1 = q) (k : AW g M mc ms P X kc ns q L (.ref x :: S) z A B) : AW g M mc ms P X kc ns pc L S z A B := by
  subst hq
  intro p l e s m args below meth c H locs ls C hH hS hl
  exact lv_aload_n C.1 C.2.1 d hi (hl.2.2 _ _ hL) (k p l e s m args below meth c H locs ls C hH hS hl)
theorem a_iload {j : Nat} {x : Int32} (d : decode M.2.1 pc = .ok (.iload j, 2)) (hL : L[j]? = some (some (.int x))) (hq : pc + 2 = q) (k : AW g M mc ms P X kc ns q L (.int x :: S) z A B) : AW g M mc ms P X kc ns pc L S z A B := by
  subst hq
  intro p l e s m args below meth c H locs ls C hH hS hl
  exact lv_iload C.1 C.2.1 d (hl.2.2 _ _ hL) (k p l e s m args below meth c H locs ls C hH hS hl)
theorem a_lload {j : Nat} {x : Int64} (d : decode M.2.1 pc = .ok (.lload j, 2)) (hL : L[j]? = some (some (.long x))) (hq : pc + 2 = q) (k : AW g M mc ms P X kc ns q L (.long x :: S) z A B) : AW g M mc ms P X kc ns pc L S z A B := by
  subst hq
  intro p l e s m args below meth c H locs ls C hH hS hl
  exact lv_lload C.1 C.2.1 d (hl.2.2 _ _ hL) (k p l e s m args below meth c H locs ls C hH hS hl)
theorem a_aload {j : Nat} {x : Nat} (d : decode M.2.1 pc = .ok (.aload j, 2)) (hL : L[j]? = some (some (.ref x))) (hq : pc + 2 = q) (k : AW g M mc ms P X kc ns q L (.ref x :: S) z A B) : AW g M mc ms P X kc ns pc L S z A B := by
  subst hq
  intro p l e s m args below meth c H locs ls C hH hS hl
  exact lv_aload C.1 C.2.1 d (hl.2.2 _ _ hL) (k p l e s m args below meth c H locs ls C hH hS hl)
theorem a_dload {j : Nat} {x : UInt64} (d : decode M.2.1 pc = .ok (.dload j, 2)) (hL : L[j]? = some (some (.double x))) (hq : pc + 2 = q) (k : AW g M mc ms P X kc ns q L (.double x :: S) z A B) : AW g M mc ms P X kc ns pc L S z A B := by
  subst hq
  intro p l e s m args below meth c H locs ls C hH hS hl
  exact lv_dload C.1 C.2.1 d (hl.2.2 _ _ hL) (k p l e s m args below meth c H locs ls C hH hS hl)
theorem a_istore_n {i : Fin 4} {j : Nat} {x : Int32} (d : decode M.2.1 pc = .ok (.istore_n i, 1)) (hi : (i : Nat) = j) (hj : j < M.2.2.1) (hq : pc + 1 = q) (k : AW g M mc ms P X kc ns q (lS1 L j (.int x)) S z A B) : AW g M mc ms P X kc ns pc L (.int x :: S) z A B := by
  subst hq
  intro p l e s m args below meth c H locs ls C hH hS hl
  exact lv_istore_n C.1 C.2.1 d hi hl.has hj rfl (fun ls2 h2 => k p l e s m args below meth c H locs ls2 C hH hS (LR.of1 h2))
theorem a_astore_n {i : Fin 4} {j : Nat} {x : Nat} (d : decode M.2.1 pc = .ok (.astore_n i, 1)) (hi : (i : Nat) = j) (hj : j < M.2.2.1) (hq : pc + 1 = q) (k : AW g M mc ms P X kc ns q (lS1 L j (.ref x)) S z A B) : AW g M mc ms P X kc ns pc L (.ref x :: S) z A B := by
  subst hq
  intro p l e s m args below meth c H locs ls C hH hS hl
  exact lv_astore_n C.1 C.2.1 d hi hl.has hj rfl (fun ls2 h2 => k p l e s m args below meth c H locs ls2 C hH hS (LR.of1 h2))
theorem a_lstore_n {i : Fin 4} {j : Nat} {x : Int64} (d : decode M.2.1 pc = .ok (.lstore_n i, 1)) (hi : (i : Nat) = j) (hj : j + 1 < M.2.2.1) (hq : pc + 1 = q) (k : AW g M mc ms P X kc ns q (lS2 L j (.long x)) S z A B) : AW g M mc ms P X kc ns pc L (.long x :: S) z A B := by
  subst hq
  intro p l e s m args below meth c H locs ls C hH hS hl
  exact lv_lstore_n C.1 C.2.1 d hi hl.has hj rfl (fun ls2 h2 => k p l e s m args below meth c H locs ls2 C hH hS (LR.of2 h2))
theorem a_istore {j : Nat} {x : Int32} (d : decode M.2.1 pc = .ok (.istore j, 2)) (hj : j < M.2.2.1) (hq : pc + 2 = q) (k : AW g M mc ms P X kc ns q (lS1 L j (.int x)) S z A B) : AW g M mc ms P X kc ns pc L (.int x :: S) z A B := by
  subst hq
  intro p l e s m args below meth c H locs ls C hH hS hl
  exact lv_istore C.1 C.2.1 d hl.has hj rfl (fun ls2 h2 => k p l e s m args below meth c H locs ls2 C hH hS (LR.of1 h2))
theorem a_astore {j : Nat} {x : Nat} (d : decode M.2.1 pc = .ok (.astore j, 2)) (hj : j < M.2.2.1) (hq : pc + 2 = q) (k : AW g M mc ms P X kc ns q (lS1 L j (.ref x)) S z A B) : AW g M mc ms P X kc ns pc L (.ref x :: S) z A B := by
  subst hq
  intro p l e s m args below meth c H locs ls C hH hS hl
  exact lv_astore C.1 C.2.1 d hl.has hj rfl (fun ls2 h2 => k p l e s m args below meth c H locs ls2 C hH hS (LR.of1 h2))
theorem a_lstore {j : Nat} {x : Int64} (d : decode M.2.1 pc = .ok (.lstore j, 2)) (hj : j + 1 < M.2.2.1) (hq : pc + 2 = q) (k : AW g M mc ms P X kc ns q (lS2 L j (.long x)) S z A B) : AW g M mc ms P X kc ns pc L (.long x :: S) z A B := by
  subst hq
  intro p l e s m args below meth c H locs ls C hH hS hl
  exact lv_lstore C.1 C.2.1 d hl.has hj rfl (fun ls2 h2 => k p l e s m args below meth c H locs ls2 C hH hS (LR.of2 h2))
theorem a_dstore {j : Nat} {x : UInt64} (d : decode M.2.1 pc = .ok (.dstore j, 2)) (hj : j + 1 < M.2.2.1) (hq : pc + 2 = q) (k : AW g M mc ms P X kc ns q (lS2 L j (.double x)) S z A B) : AW g M mc ms P X kc ns pc L (.double x :: S) z A B := by
  subst hq
  intro p l e s m args below meth c H locs ls C hH hS hl
  exact lv_dstore C.1 C.2.1 d hl.has hj rfl (fun ls2 h2 => k p l e s m args below meth c H locs ls2 C hH hS (LR.of2 h2))
theorem a_iinc {j : Nat} {n : Int} {x v : Int32} (d : decode M.2.1 pc = .ok (.iinc j n, 3)) (hL : L[j]? = some (some (.int x))) (hv : x + Int32.ofInt n = v) (hq : pc + 3 = q) (k : AW g M mc ms P X kc ns q (lS1 L j (.int v)) S z A B) : AW g M mc ms P X kc ns pc L S z A B := by
  subst hq
  intro p l e s m args below meth c H locs ls C hH hS hl
  obtain ⟨k9, hk9⟩ := List.getElem?_of_mem (lPr_mem.mpr hL)
  exact lv_iinc C.1 C.2.1 d hl.has hk9 hv (hl.lt hL) rfl (fun ls2 h2 => k p l e s m args below meth c H locs ls2 C hH hS (LR.of1 h2))
theorem a_if_eq {x : Int32} {off : Int} (t : Nat) (d : decode M.2.1 pc = .ok (.ifCond .eq off, 3)) (ht : (pc : Int) + off = (t : Int)) (hq : pc + 3 = q) (kt : x = 0 → AW g M mc ms P X kc ns t L S z A B) (kf : ¬ x = 0 → AW g M mc ms P X kc ns q L S z A B) : AW g M mc ms P X kc ns pc L (.int x :: S) z A B := by
  subst hq
  intro p l e s m args below meth c H locs ls C hH hS hl
  exact lv_if_eq C.1 C.2.1 d ht (fun h => kt h p l e s m args below meth c H locs ls C hH hS hl) (fun h => kf h p l e s m args below meth c H locs ls C hH hS hl)
theorem a_if_ne {x : Int32} {off : Int} (t : Nat) (d : decode M.2.1 pc = .ok (.ifCond .ne off, 3)) (ht : (pc : Int) + off = (t : Int)) (hq : pc + 3 = q) (kt : ¬ x = 0 → AW g M mc ms P X kc ns t L S z A B) (kf : x = 0 → AW g M mc ms P X kc ns q L S z A B) : AW g M mc ms P X kc ns pc L (.int x :: S) z A B := by
  subst hq
  intro p l e s m args below meth c H locs ls C hH hS hl
  exact lv_if_ne C.1 C.2.1 d ht (fun h => kt h p l e s m args below meth c H locs ls C hH hS hl) (fun h => kf h p l e s m args below meth c H locs ls C hH hS hl)
theorem a_if_lt {x : Int32} {off : Int} (t : Nat) (d : decode M.2.1 pc = .ok (.ifCond .lt off, 3)) (ht : (pc : Int) + off = (t : Int)) (hq : pc + 3 = q) (kt : x < 0 → AW g M mc ms P X kc ns t L S z A B) (kf : ¬ x < 0 → AW g M mc ms P X kc ns q L S z A B) : AW g M mc ms P X kc ns pc L (.int x :: S) z A B := by
  subst hq
  intro p l e s m args below meth c H locs ls C hH hS hl
  exact lv_if_lt C.1 C.2.1 d ht (fun h => kt h p l e s m args below meth c H locs ls C hH hS hl) (fun h => kf h p l e s m args below meth c H locs ls C hH hS hl)
theorem a_if_ge {x : Int32} {off : Int} (t : Nat) (d : decode M.2.1 pc = .ok (.ifCond .ge off, 3)) (ht : (pc : Int) + off = (t : Int)) (hq : pc + 3 = q) (kt : 0 ≤ x → AW g M mc ms P X kc ns t L S z A B) (kf : ¬ 0 ≤ x → AW g M mc ms P X kc ns q L S z A B) : AW g M mc ms P X kc ns pc L (.int x :: S) z A B := by
  subst hq
  intro p l e s m args below meth c H locs ls C hH hS hl
  exact lv_if_ge C.1 C.2.1 d ht (fun h => kt h p l e s m args below meth c H locs ls C hH hS hl) (fun h => kf h p l e s m args below meth c H locs ls C hH hS hl)
theorem a_if_gt {x : Int32} {off : Int} (t : Nat) (d : decode M.2.1 pc = .ok (.ifCond .gt off, 3)) (ht : (pc : Int) + off = (t : Int)) (hq : pc + 3 = q) (kt : 0 < x → AW g M mc ms P X kc ns t L S z A B) (kf : ¬ 0 < x → AW g M mc ms P X kc ns q L S z A B) : AW g M mc ms P X kc ns pc L (.int x :: S) z A B := by
  subst hq
  intro p l e s m args below meth c H locs ls C hH hS hl
  exact lv_if_gt C.1 C.2.1 d ht (fun h => kt h p l e s m args below meth c H locs ls C hH hS hl) (fun h => kf h p l e s m args below meth c H locs ls C hH hS hl)
theorem a_if_le {x : Int32} {off : Int} (t : Nat) (d : decode M.2.1 pc = .ok (.ifCond .le off, 3)) (ht : (pc : Int) + off = (t : Int)) (hq : pc + 3 = q) (kt : x ≤ 0 → AW g M mc ms P X kc ns t L S z A B) (kf : ¬ x ≤ 0 → AW g M mc ms P X kc ns q L S z A B) : AW g M mc ms P X kc ns pc L (.int x :: S) z A B := by
  subst hq
  intro p l e s m args below meth c H locs ls C hH hS hl
  exact lv_if_le C.1 C.2.1 d ht (fun h => kt h p l e s m args below meth c H locs ls C hH hS hl) (fun h => kf h p l e s m args below meth c H locs ls C hH hS hl)
theorem a_icmp_eq {x y : Int32} {off : Int} (t : Nat) (d : decode M.2.1 pc = .ok (.if_icmp .eq off, 3)) (ht : (pc : Int) + off = (t : Int)) (hq : pc + 3 = q) (kt : x = y → AW g M mc ms P X kc ns t L S z A B) (kf : ¬ x = y → AW g M mc ms P X kc ns q L S z A B) : AW g M mc ms P X kc ns pc L (.int y :: .int x :: S) z A B := by
  subst hq
  intro p l e s m args below meth c H locs ls C hH hS hl
  exact lv_icmp_eq C.1 C.2.1 d ht (fun h => kt h p l e s m args below meth c H locs ls C hH hS hl) (fun h => kf h p l e s m args below meth c H locs ls C hH hS hl)
theorem a_icmp_ne {x y : Int32} {off : Int} (t : Nat) (d : decode M.2.1 pc = .ok (.if_icmp .ne off, 3)) (ht : (pc : Int) + off = (t : Int)) (hq : pc + 3 = q) (kt : ¬ x = y → AW g M mc ms P X kc ns t L S z A B) (kf : x = y → AW g M mc ms P X kc ns q L S z A B) : AW g M mc ms P X kc ns pc L (.int y :: .int x :: S) z A B := by
  subst hq
  intro p l e s m args below meth c H locs ls C hH hS hl
  exact lv_icmp_ne C.1 C.2.1 d ht (fun h => kt h p l e s m args below meth c H locs ls C hH hS hl) (fun h => kf h p l e s m args below meth c H locs ls C hH hS hl)
theorem a_icmp_lt {x y : Int32} {off : Int} (t : Nat) (d : decode M.2.1 pc = .ok (.if_icmp .lt off, 3)) (ht : (pc : Int) + off = (t : Int)) (hq : pc + 3 = q) (kt : x < y → AW g M mc ms P X kc ns t L S z A B) (kf : ¬ x < y → AW g M mc ms P X kc ns q L S z A B) : AW g M mc ms P X kc ns pc L (.int y :: .int x :: S) z A B := by
  subst hq
  intro p l e s m args below meth c H locs ls C hH hS hl
  exact lv_icmp_lt C.1 C.2.1 d ht (fun h => kt h p l e s m args below meth c H locs ls C hH hS hl) (fun h => kf h p l e s m args below meth c H locs ls C hH hS hl)
theorem a_icmp_ge {x y : Int32} {off : Int} (t : Nat) (d : decode M.2.1 pc = .ok (.if_icmp .ge off, 3)) (ht : (pc : Int) + off = (t : Int)) (hq : pc + 3 = q) (kt : y ≤ x → AW g M mc ms P X kc ns t L S z A B) (kf : ¬ y ≤ x → AW g M mc ms P X kc ns q L S z A B) : AW g M mc ms P X kc ns pc L (.int y :: .int x :: S) z A B := by
  subst hq
  intro p l e s m args below meth c H locs ls C hH hS hl
  exact lv_icmp_ge C.1 C.2.1 d ht (fun h => kt h p l e s m args below meth c H locs ls C hH hS hl) (fun h => kf h p l e s m args below meth c H locs ls C hH hS hl)
theorem a_icmp_gt {x y : Int32} {off : Int} (t : Nat) (d : decode M.2.1 pc = .ok (.if_icmp .gt off, 3)) (ht : (pc : Int) + off = (t : Int)) (hq : pc + 3 = q) (kt : y < x → AW g M mc ms P X kc ns t L S z A B) (kf : ¬ y < x → AW g M mc ms P X kc ns q L S z A B) : AW g M mc ms P X kc ns pc L (.int y :: .int x :: S) z A B := by
  subst hq
  intro p l e s m args below meth c H locs ls C hH hS hl
  exact lv_icmp_gt C.1 C.2.1 d ht (fun h => kt h p l e s m args below meth c H locs ls C hH hS hl) (fun h => kf h p l e s m args below meth c H locs ls C hH hS hl)
theorem a_icmp_le {x y : Int32} {off : Int} (t : Nat) (d : decode M.2.1 pc = .ok (.if_icmp .le off, 3)) (ht : (pc : Int) + off = (t : Int)) (hq : pc + 3 = q) (kt : x ≤ y → AW g M mc ms P X kc ns t L S z A B) (kf : ¬ x ≤ y → AW g M mc ms P X kc ns q L S z A B) : AW g M mc ms P X kc ns pc L (.int y :: .int x :: S) z A B := by
  subst hq
  intro p l e s m args below meth c H locs ls C hH hS hl
  exact lv_icmp_le C.1 C.2.1 d ht (fun h => kt h p l e s m args below meth c H locs ls C hH hS hl) (fun h => kf h p l e s m args below meth c H locs ls C hH hS hl)
theorem a_goto {off : Int} (t : Nat) (d : decode M.2.1 pc = .ok (.goto off, 3)) (ht : (pc : Int) + off = (t : Int)) (k : AW g M mc ms P X kc ns t L S z A B) : AW g M mc ms P X kc ns pc L S z A B := by
  intro p l e s m args below meth c H locs ls C hH hS hl
  exact lv_goto C.1 C.2.1 d ht (k p l e s m args below meth c H locs ls C hH hS hl)
theorem a_tin {dflt lo hi off : Int} {offs : Array Int} {len : Nat} {x : Int32} (t : Nat) (d : decode M.2.1 pc = .ok (.tableswitch dflt lo hi offs, len)) (h1 : ¬ x.toInt < lo) (h2 : ¬ hi < x.toInt) (ho : offs[(x.toInt - lo).toNat]? = some off) (ht : (pc : Int) + off = (t : Int)) (k : AW g M mc ms P X kc ns t L S z A B) : AW g M mc ms P X kc ns pc L (.int x :: S) z A B := by
  intro p l e s m args below meth c H locs ls C hH hS hl
  exact lv_tableIn C.1 C.2.1 d h1 h2 ho ht (k p l e s m args below meth c H locs ls C hH hS hl)
theorem a_tout {dflt lo hi : Int} {offs : Array Int} {len : Nat} {x : Int32} (t : Nat) (d : decode M.2.1 pc = .ok (.tableswitch dflt lo hi offs, len)) (h : x.toInt < lo ∨ hi < x.toInt) (ht : (pc : Int) + dflt = (t : Int)) (k : AW g M mc ms P X kc ns t L S z A B) : AW g M mc ms P X kc ns pc L (.int x :: S) z A B := by
  intro p l e s m args below meth c H locs ls C hH hS hl
  exact lv_tableOut C.1 C.2.1 d h ht (k p l e s m args below meth c H locs ls C hH hS hl)
theorem a_lookup {dflt off : Int} {ps : Array (Int × Int)} {len : Nat} {x : Int32} (t : Nat) (d : decode M.2.1 pc = .ok (.lookupswitch dflt ps, len)) (hp : (ps.toList.zip (ps.toList.drop 1)).all (fun (a, next) => a.1 < next.1) = true) (ho : Op.lookupswitch.offset ps.toList dflt x.toInt = off) (ht : (pc : Int) + off = (t : Int)) (k : AW g M mc ms P X kc ns t L S z A B) : AW g M mc ms P X kc ns pc L (.int x :: S) z A B := by
  intro p l e s m args below meth c H locs ls C hH hS hl
  exact lv_lookup C.1 C.2.1 d hp ho ht (k p l e s m args below meth c H locs ls C hH hS hl)
theorem a_ialdA {j n : Nat} {f : Nat → Int32} {i : Int32} (d : decode M.2.1 pc = .ok (.iaload, 1)) (hA : A[j]? = some (aI g n f)) (hin : vp_in i n) (hq : pc + 1 = q) (k : AW g M mc ms P X kc ns q L (.int (f i.toNatClampNeg) :: S) z A B) : AW g M mc ms P X kc ns pc L (.int i :: .ref (g.1 + j) :: S) z A B := by
  subst hq
  intro p l e s m args below meth c H locs ls C hH hS hl
  exact va_iald C.1 C.2.1 C.2.2.2.2.2.2.2.2.2.2.1 hH.1 _ 0 (gW_a hA) rfl hin d (k p l e s m args below meth c H locs ls C hH hS hl)
theorem a_ialdB {j n : Nat} {f : Nat → Int32} {i : Int32} (d : decode M.2.1 pc = .ok (.iaload, 1)) (hA : B[j]? = some (aI g n f)) (hin : vp_in i n) (hq : pc + 1 = q) (k : AW g M mc ms P X kc ns q L (.int (f i.toNatClampNeg) :: S) z A B) : AW g M mc ms P X kc ns pc L (.int i :: .ref (g.2.1 + j) :: S) z A B := by
  subst hq
  intro p l e s m args below meth c H locs ls C hH hS hl
  exact va_iald C.1 C.2.1 C.2.2.2.2.2.2.2.2.2.2.1 hH.1 _ 0 (gW_b hA) rfl hin d (k p l e s m args below meth c H locs ls C hH hS hl)
theorem a_zaldA {j n : Nat} {f : Nat → Int32} {i : Int32} (d : decode M.2.1 pc = .ok (.baload, 1)) (hA : A[j]? = some (aZ g n f)) (hin : vp_in i n) (hq : pc + 1 = q) (k : AW g M mc ms P X kc ns q L (.int (f i.toNatClampNeg) :: S) z A B) : AW g M mc ms P X kc ns pc L (.int i :: .ref (g.1 + j) :: S) z A B := by
  subst hq
  intro p l e s m args below meth c H locs ls C hH hS hl
  exact va_zald C.1 C.2.1 C.2.2.2.2.2.2.2.2.2.2.1 hH.1 _ 1 (gW_a hA) rfl hin d (k p l e s m args below meth c H locs ls C hH hS hl)
theorem a_zaldB {j n : Nat} {f : Nat → Int32} {i : Int32} (d : decode M.2.1 pc = .ok (.baload, 1)) (hA : B[j]? = some (aZ g n f)) (hin : vp_in i n) (hq : pc + 1 = q) (k : AW g M mc ms P X kc ns q L (.int (f i.toNatClampNeg) :: S) z A B) : AW g M mc ms P X kc ns pc L (.int i :: .ref (g.2.1 + j) :: S) z A B := by
  subst hq
  intro p l e s m args below meth c H locs ls C hH hS hl
  exact va_zald C.1 C.2.1 C.2.2.2.2.2.2.2.2.2.2.1 hH.1 _ 1 (gW_b hA) rfl hin d (k p l e s m args below meth c H locs ls C hH hS hl)
theorem a_laldA {j n : Nat} {f : Nat → Int64} {i : Int32} (d : decode M.2.1 pc = .ok (.laload, 1)) (hA : A[j]? = some (aJ g n f)) (hin : vp_in i n) (hq : pc + 1 = q) (k : AW g M mc ms P X kc ns q L (.long (f i.toNatClampNeg) :: S) z A B) : AW g M mc ms P X kc ns pc L (.int i :: .ref (g.1 + j) :: S) z A B := by
  subst hq
  intro p l e s m args below meth c H locs ls C hH hS hl
  exact va_lald C.1 C.2.1 C.2.2.2.2.2.2.2.2.2.2.1 hH.1 _ 2 (gW_a hA) rfl hin d (k p l e s m args below meth c H locs ls C hH hS hl)
theorem a_laldB {j n : Nat} {f : Nat → Int64} {i : Int32} (d : decode M.2.1 pc = .ok (.laload, 1)) (hA : B[j]? = some (aJ g n f)) (hin : vp_in i n) (hq : pc + 1 = q) (k : AW g M mc ms P X kc ns q L (.long (f i.toNatClampNeg) :: S) z A B) : AW g M mc ms P X kc ns pc L (.int i :: .ref (g.2.1 + j) :: S) z A B := by
  subst hq
  intro p l e s m args below meth c H locs ls C hH hS hl
  exact va_lald C.1 C.2.1 C.2.2.2.2.2.2.2.2.2.2.1 hH.1 _ 2 (gW_b hA) rfl hin d (k p l e s m args below meth c H locs ls C hH hS hl)
theorem a_daldA {j n : Nat} {f : Nat → UInt64} {i : Int32} (d : decode M.2.1 pc = .ok (.daload, 1)) (hA : A[j]? = some (aD g n f)) (hin : vp_in i n) (hq : pc + 1 = q) (k : AW g M mc ms P X kc ns q L (.double (f i.toNatClampNeg) :: S) z A B) : AW g M mc ms P X kc ns pc L (.int i :: .ref (g.1 + j) :: S) z A B := by
  subst hq
  intro p l e s m args below meth c H locs ls C hH hS hl
  exact va_dald C.1 C.2.1 C.2.2.2.2.2.2.2.2.2.2.1 hH.1 _ 3 (gW_a hA) rfl hin d (k p l e s m args below meth c H locs ls C hH hS hl)
theorem a_daldB {j n : Nat} {f : Nat → UInt64} {i : Int32} (d : decode M.2.1 pc = .ok (.daload, 1)) (hA : B[j]? = some (aD g n f)) (hin : vp_in i n) (hq : pc + 1 = q) (k : AW g M mc ms P X kc ns q L (.double (f i.toNatClampNeg) :: S) z A B) : AW g M mc ms P X kc ns pc L (.int i :: .ref (g.2.1 + j) :: S) z A B := by
  subst hq
  intro p l e s m args below meth c H locs ls C hH hS hl
  exact va_dald C.1 C.2.1 C.2.2.2.2.2.2.2.2.2.2.1 hH.1 _ 3 (gW_b hA) rfl hin d (k p l e s m args below meth c H locs ls C hH hS hl)
theorem a_iastA {j n : Nat} {f : Nat → Int32} {i : Int32} {x : Int32} (d : decode M.2.1 pc = .ok (.iastore, 1)) (hA : A[j]? = some (aI g n f)) (hin : vp_in i n) (hq : pc + 1 = q) (k : AW g M mc ms P X kc ns q L S 0 (A.set j (aI g n (upd f i.toNatClampNeg x))) B) : AW g M mc ms P X kc ns pc L (.int x :: .int i :: .ref (g.1 + j) :: S) z A B := by
  subst hq
  intro p l e s m args below meth c H locs ls C hH hS hl
  refine va_iast C.1 C.2.1 C.2.2.2.2.2.2.2.2.2.2.1 hH.1 hH.2.1 hS _ 0 (gW_a hA) rfl hin d (fun H1 locs1 hP hD hS1 => ?_)
  rw [gW_sa hA] at hP hD
  exact k p l e s m args below meth c H1 locs1 ls C ⟨hP, hD, trivial⟩ hS1 hl
theorem a_iastB {j n : Nat} {f : Nat → Int32} {i : Int32} {x : Int32} (d : decode M.2.1 pc = .ok (.iastore, 1)) (hA : B[j]? = some (aI g n f)) (hin : vp_in i n) (hq : pc + 1 = q) (k : AW g M mc ms P X kc ns q L S 0 A (B.set j (aI g n (upd f i.toNatClampNeg x)))) : AW g M mc ms P X kc ns pc L (.int x :: .int i :: .ref (g.2.1 + j) :: S) z A B := by
  subst hq
  intro p l e s m args below meth c H locs ls C hH hS hl
  refine va_iast C.1 C.2.1 C.2.2.2.2.2.2.2.2.2.2.1 hH.1 hH.2.1 hS _ 0 (gW_b hA) rfl hin d (fun H1 locs1 hP hD hS1 => ?_)
  rw [gW_sb] at hP hD
  exact k p l e s m args below meth c H1 locs1 ls C ⟨hP, hD, trivial⟩ hS1 hl
theorem a_zastA {j n : Nat} {f : Nat → Int32} {i : Int32} {x : Int32} (d : decode M.2.1 pc = .ok (.bastore, 1)) (hA : A[j]? = some (aZ g n f)) (hin : vp_in i n) (hq : pc + 1 = q) (k : AW g M mc ms P X kc ns q L S 0 (A.set j (aZ g n (upd f i.toNatClampNeg (vp_nar .boolean x)))) B) : AW g M mc ms P X kc ns pc L (.int x :: .int i :: .ref (g.1 + j) :: S) z A B := by
  subst hq
  intro p l e s m args below meth c H locs ls C hH hS hl
  refine va_zast C.1 C.2.1 C.2.2.2.2.2.2.2.2.2.2.1 hH.1 hH.2.1 hS _ 1 (gW_a hA) rfl hin d (fun H1 locs1 hP hD hS1 => ?_)
  rw [gW_sa hA] at hP hD
  exact k p l e s m args below meth c H1 locs1 ls C ⟨hP, hD, trivial⟩ hS1 hl
theorem a_zastB {j n : Nat} {f : Nat → Int32} {i : Int32} {x : Int32} (d : decode M.2.1 pc = .ok (.bastore, 1)) (hA : B[j]? = some (aZ g n f)) (hin : vp_in i n) (hq : pc + 1 = q) (k : AW g M mc ms P X kc ns q L S 0 A (B.set j (aZ g n (upd f i.toNatClampNeg (vp_nar .boolean x))))) : AW g M mc ms P X kc ns pc L (.int x :: .int i :: .ref (g.2.1 + j) :: S) z A B := by
  subst hq
  intro p l e s m args below meth c H locs ls C hH hS hl
  refine va_zast C.1 C.2.1 C.2.2.2.2.2.2.2.2.2.2.1 hH.1 hH.2.1 hS _ 1 (gW_b hA) rfl hin d (fun H1 locs1 hP hD hS1 => ?_)
  rw [gW_sb] at hP hD
  exact k p l e s m args below meth c H1 locs1 ls C ⟨hP, hD, trivial⟩ hS1 hl
theorem a_lastA {j n : Nat} {f : Nat → Int64} {i : Int32} {x : Int64} (d : decode M.2.1 pc = .ok (.lastore, 1)) (hA : A[j]? = some (aJ g n f)) (hin : vp_in i n) (hq : pc + 1 = q) (k : AW g M mc ms P X kc ns q L S 0 (A.set j (aJ g n (vp_updL f i.toNatClampNeg x))) B) : AW g M mc ms P X kc ns pc L (.long x :: .int i :: .ref (g.1 + j) :: S) z A B := by
  subst hq
  intro p l e s m args below meth c H locs ls C hH hS hl
  refine va_last C.1 C.2.1 C.2.2.2.2.2.2.2.2.2.2.1 hH.1 hH.2.1 hS _ 2 (gW_a hA) rfl hin d (fun H1 locs1 hP hD hS1 => ?_)
  rw [gW_sa hA] at hP hD
  exact k p l e s m args below meth c H1 locs1 ls C ⟨hP, hD, trivial⟩ hS1 hl
theorem a_lastB {j n : Nat} {f : Nat → Int64} {i : Int32} {x : Int64} (d : decode M.2.1 pc = .ok (.lastore, 1)) (hA : B[j]? = some (aJ g n f)) (hin : vp_in i n) (hq : pc + 1 = q) (k : AW g M mc ms P X kc ns q L S 0 A (B.set j (aJ g n (vp_updL f i.toNatClampNeg x)))) : AW g M mc ms P X kc ns pc L (.long x :: .int i :: .ref (g.2.1 + j) :: S) z A B := by
  subst hq
  intro p l e s m args below meth c H locs ls C hH hS hl
  refine va_last C.1 C.2.1 C.2.2.2.2.2.2.2.2.2.2.1 hH.1 hH.2.1 hS _ 2 (gW_b hA) rfl hin d (fun H1 locs1 hP hD hS1 => ?_)
  rw [gW_sb] at hP hD
  exact k p l e s m args below meth c H1 locs1 ls C ⟨hP, hD, trivial⟩ hS1 hl
theorem a_dastA {j n : Nat} {f : Nat → UInt64} {i : Int32} {x : UInt64} (d : decode M.2.1 pc = .ok (.dastore, 1)) (hA : A[j]? = some (aD g n f)) (hin : vp_in i n) (hq : pc + 1 = q) (k : AW g M mc ms P X kc ns q L S 0 (A.set j (aD g n (vf_upd f i.toNatClampNeg x))) B) : AW g M mc ms P X kc ns pc L (.double x :: .int i :: .ref (g.1 + j) :: S) z A B := by
  subst hq
  intro p l e s m args below meth c H locs ls C hH hS hl
  refine va_dast C.1 C.2.1 C.2.2.2.2.2.2.2.2.2.2.1 hH.1 hH.2.1 hS _ 3 (gW_a hA) rfl hin d (fun H1 locs1 hP hD hS1 => ?_)
  rw [gW_sa hA] at hP hD
  exact k p l e s m args below meth c H1 locs1 ls C ⟨hP, hD, trivial⟩ hS1 hl
theorem a_dastB {j n : Nat} {f : Nat → UInt64} {i : Int32} {x : UInt64} (d : decode M.2.1 pc = .ok (.dastore, 1)) (hA : B[j]? = some (aD g n f)) (hin : vp_in i n) (hq : pc + 1 = q) (k : AW g M mc ms P X kc ns q L S 0 A (B.set j (aD g n (vf_upd f i.toNatClampNeg x)))) : AW g M mc ms P X kc ns pc L (.double x :: .int i :: .ref (g.2.1 + j) :: S) z A B := by
  subst hq
  intro p l e s m args below meth c H locs ls C hH hS hl
  refine va_dast C.1 C.2.1 C.2.2.2.2.2.2.2.2.2.2.1 hH.1 hH.2.1 hS _ 3 (gW_b hA) rfl hin d (fun H1 locs1 hP hD hS1 => ?_)
  rw [gW_sb] at hP hD
  exact k p l e s m args below meth c H1 locs1 ls C ⟨hP, hD, trivial⟩ hS1 hl
theorem a_sld {i : Int32} (d : decode M.2.1 pc = .ok (.iaload, 1)) (hin : vp_in i g.2.2.2.2.2.1) (hq : pc + 1 = q) (k : AW g M mc ms P X kc ns q L (.int (g.2.2.2.2.2.2 i.toNatClampNeg) :: S) z A B) : AW g M mc ms P X kc ns pc L (.int i :: .ref g.2.2.2.2.1 :: S) z A B := by
  subst hq
  intro p l e s m args below meth c H locs ls C hH hS hl
  obtain ⟨-, -, -, -, -, h9, h10, h11⟩ := C.2.2.2.2.2.2.2.2.2.2
  exact va_sld C.1 C.2.1 h9 (by omega) (fun h => by have h12 : g.1 ≤ g.2.2.2.2.1 := h; omega) hS hin d (k p l e s m args below meth c H locs ls C hH hS hl)
theorem a_slen (d : decode M.2.1 pc = .ok (.arraylength, 1)) (hq : pc + 1 = q) (k : AW g M mc ms P X kc ns q L (.int (Int32.ofNat g.2.2.2.2.2.1) :: S) z A B) : AW g M mc ms P X kc ns pc L (.ref g.2.2.2.2.1 :: S) z A B := by
  subst hq
  intro p l e s m args below meth c H locs ls C hH hS hl
  obtain ⟨-, -, -, -, -, h9, h10, h11⟩ := C.2.2.2.2.2.2.2.2.2.2
  exact va_slen C.1 C.2.1 h9 (by omega) (fun h => by have h12 : g.1 ≤ g.2.2.2.2.1 := h; omega) hS d (k p l e s m args below meth c H locs ls C hH hS hl)
theorem a_iret {x : Int32} {ty : FieldType} (d : decode M.2.1 pc = .ok (.ireturn, 1)) (hr : M.2.2.2.1 = some ty) (hn : narrow ty (.int x) = .int x) (hk : kc ≤ mc) (hs : ns ≤ ms) (hp : P (some (.int x)) z A B) : AW g M mc ms P X kc ns pc L [.int x] z A B := by
  intro p l e s m args below meth c H locs ls C hH hS hl
  refine W.widen (k := mc) (n := ms) hk hs (vx_ret ?_)
  exact W.zret C.1 C.2.1 (C.2.2.2.1.trans hr) hn (fun t ht _ => ⟨⟨_, z, A, B, rfl, hp, by rw [ht]; exact hH⟩, hS.F ht⟩) hS.2.2 d (hlocks := C.2.2.2.2.1)
theorem a_lret {x : Int64} (d : decode M.2.1 pc = .ok (.lreturn, 1)) (hr : M.2.2.2.1 = some .long) (hk : kc ≤ mc) (hs : ns ≤ ms) (hp : P (some (.long x)) z A B) : AW g M mc ms P X kc ns pc L [.long x] z A B := by
  intro p l e s m args below meth c H locs ls C hH hS hl
  refine W.widen (k := mc) (n := ms) hk hs (vx_ret ?_)
  exact W.lret C.1 C.2.1 (C.2.2.2.1.trans hr) (fun t ht _ => ⟨⟨_, z, A, B, rfl, hp, by rw [ht]; exact hH⟩, hS.F ht⟩) hS.2.2 d (hlocks := C.2.2.2.2.1)
theorem a_dret {x : UInt64} (d : decode M.2.1 pc = .ok (.dreturn, 1)) (hr : M.2.2.2.1 = some .double) (hk : kc ≤ mc) (hs : ns ≤ ms) (hp : P (some (.double x)) z A B) : AW g M mc ms P X kc ns pc L [.double x] z A B := by
  intro p l e s m args below meth c H locs ls C hH hS hl
  refine W.widen (k := mc) (n := ms) hk hs (vx_ret ?_)
  exact W.dret C.1 C.2.1 (C.2.2.2.1.trans hr) (fun t ht _ => ⟨⟨_, z, A, B, rfl, hp, by rw [ht]; exact hH⟩, hS.F ht⟩) hS.2.2 d (hlocks := C.2.2.2.2.1)
theorem a_ret (d : decode M.2.1 pc = .ok (.return_, 1)) (hr : M.2.2.2.1 = none) (hk : kc ≤ mc) (hs : ns ≤ ms) (hp : P none z A B) : AW g M mc ms P X kc ns pc L [] z A B := by
  intro p l e s m args below meth c H locs ls C hH hS hl
  refine W.widen (k := mc) (n := ms) hk hs (vx_ret ?_)
  exact W.vret C.1 C.2.1 (C.2.2.2.1.trans hr) (fun t ht _ => ⟨⟨_, z, A, B, rfl, hp, by rw [ht]; exact hH⟩, hS.F ht⟩) hS.2.2 d (hlocks := C.2.2.2.2.1)
end Rules
end
section
/-! ===== fields, making, calls, throws, over AW ===== -/
def cF (ci : Nat) (C : String) (T : u_T) (N : Nat) : Prop := vwCl[ci]? = some (C, T, N) ∧ (∀ w ∈ u_ws C T N, w ∈ TG) ∧ (∃ ty0 : Nat → FieldType, ∀ k, k < N → parseFieldDescriptor (T k).2.2.1 = some (ty0 k)) ∧ (∀ a, a < N → ∀ b, b < N → a ≠ b → (T a).2.1 ≠ (T b).2.1)
/-- a field by its link: class and place, final, type -/
def fW (own : String) (index ci k : Nat) (fin : Bool) (ty : FieldType) : Prop := ∃ (C : String) (T : u_T) (N : Nat), cF ci C T N ∧ k < N ∧ Cond.fieldLink own index (T k).1 (T k).2.1 (T k).2.2.1 ∈ TG ∧ (T k).2.2.2 = fin ∧ parseFieldDescriptor (T k).2.2.1 = some ty ∧ ((T k).1 = own ∨ fin = false)
/-- a method by its link -/
def cB (own : String) (index : Nat) (y : md_T) (n : Nat) : Prop := gWord y = .code y.1 y.2.1 y.2.2.1 y.2.2.2.1 ∧ (∀ w ∈ ([.methodLink own index y.1, gWord y, .initialized y.1.cls] : List Cond), w ∈ TG) ∧ (y.1.cls ≠ "java/lang/invoke/MethodHandle" ∧ y.1.cls ≠ "java/lang/invoke/VarHandle" ∧ (parseMethodDescriptor y.1.desc).map (fun d => d.parameters.length) = some n)
def cVw (own : String) (index ci : Nat) (y : md_T) (n : Nat) : Prop := cB own index y n ∧ (∀ w ∈ ([.instanceMethod y.1, .selects y.1.cls y.1 y.1] : List Cond), w ∈ TG) ∧ ∃ (C : String) (T : u_T) (N : Nat), vwCl[ci]? = some (C, T, N) ∧ y.1.cls = C
def cSw (own : String) (index : Nat) (y : md_T) (n : Nat) : Prop := cB own index y n ∧ Cond.static y.1 ∈ TG
def cIw (own : String) (index : Nat) (y : md_T) (n : Nat) : Prop := cB own index y n ∧ Cond.instanceMethod y.1 ∈ TG ∧ y.1.name = "<init>" ∧ y.2.2.2.1 = none
def cNw (own : String) (index : Nat) (y : md_T) (n : Nat) (host : String) : Prop := gWord y = .code y.1 y.2.1 y.2.2.1 y.2.2.2.1 ∧ (own, index, y.1, host) ∈ gNm ∧ (∀ w ∈ ([gWord y, .initialized y.1.cls, .instanceMethod y.1] : List Cond), w ∈ TG) ∧ (y.1.cls ≠ "java/lang/invoke/MethodHandle" ∧ y.1.cls ≠ "java/lang/invoke/VarHandle" ∧ (parseMethodDescriptor y.1.desc).map (fun d => d.parameters.length) = some n) ∧ y.1.name = "<init>" ∧ y.2.2.2.1 = none
/-- a static method with handlers, by its link -/
def cHw (own : String) (index : Nat) (y : md_T) (n : Nat) : Prop := gWord y = .codeWith y.1 y.2.1 y.2.2.1 y.2.2.2.1 y.2.2.2.2.2.2 ∧ (∀ w ∈ ([.methodLink own index y.1, .static y.1, .initialized y.1.cls, gWord y] : List Cond), w ∈ TG) ∧ (y.1.cls ≠ "java/lang/invoke/MethodHandle" ∧ y.1.cls ≠ "java/lang/invoke/VarHandle" ∧ (parseMethodDescriptor y.1.desc).map (fun d => d.parameters.length) = some n)
def gNg : List Cond := gNd.map Cond.declares ++ gNc.map (fun q => Cond.castable q.1 q.2)
abbrev xNm : List String := ["java/lang/RuntimeException", "java/lang/Exception"]
def tW (own : String) (ik is ic : Nat) (cls text : String) : Prop := Cond.classLink own ik cls ∈ TG ∧ Cond.initialized cls ∈ TG ∧ (own, is, text) ∈ gSt ∧ Bundle.fit cls = true ∧ (∀ w ∈ (vx_atS own ic cls xNm).filter goodWord, w ∈ TG) ∧ (∀ w ∈ (vx_atS own ic cls xNm).filter (fun w => !goodWord w), w ∈ gNg) ∧ (∀ w ∈ Cond.classLink own ik cls :: Cond.initialized cls :: vx_atS own ic cls xNm, vx_ot w = true)
theorem tg_ws {y : md_T} (h : gWord y ∈ TG) : GoodIn TG (gWord y :: TG) := tg_sub (fun w hw => by
  rcases List.mem_cons.mp hw with e | e
  · rw [e]; exact h
  · exact e)
section Fields
variable {g : gp_T} {M : md_T} {mc ms : Nat} {P : ps_T} {X : xs_T} {kc ns pc q : Nat} {L : List (Option Value)} {S : List Value} {z : Nat} {A B : List va_E}
theorem a_getA {index ci k j : Nat} {fin : Bool} {ty : FieldType} {fs : List Value} {v : Value} (d : decode M.2.1 pc = .ok (.getfield index, 3)) (fw : fW M.1.cls index ci k fin ty) (hA : A[j]? = some (.inr (ci, fs))) (hv : fs[k]? = some v) (hq : pc + 3 = q) (kk : AW g M mc ms P X kc ns q L (v :: S) z A B) : AW g M mc ms P X kc ns pc L (.ref (g.1 + j) :: S) z A B := by
  subst hq
  intro p l e s m args below meth c H locs ls C hH hS hl
  obtain ⟨C0, T, N, hc, hk, hlk, -, -, -⟩ := fw
  exact va_get C.1 C.2.1 C.2.2.2.2.2.2.1 hc.2.1 C.2.2.2.2.2.1 C.2.2.2.2.2.2.2.2.2.2.1 hH.1 _ (gW_a hA) hc.1 k hk (C.2.2.2.2.2.2.1 _ hlk) (fun _ h => h) hv d (kk p l e s m args below meth c H locs ls C hH hS hl)
theorem a_getB {index ci k j : Nat} {fin : Bool} {ty : FieldType} {fs : List Value} {v : Value} (d : decode M.2.1 pc = .ok (.getfield index, 3)) (fw : fW M.1.cls index ci k fin ty) (hA : B[j]? = some (.inr (ci, fs))) (hv : fs[k]? = some v) (hq : pc + 3 = q) (kk : AW g M mc ms P X kc ns q L (v :: S) z A B) : AW g M mc ms P X kc ns pc L (.ref (g.2.1 + j) :: S) z A B := by
  subst hq
  intro p l e s m args below meth c H locs ls C hH hS hl
  obtain ⟨C0, T, N, hc, hk, hlk, -, -, -⟩ := fw
  exact va_get C.1 C.2.1 C.2.2.2.2.2.2.1 hc.2.1 C.2.2.2.2.2.1 C.2.2.2.2.2.2.2.2.2.2.1 hH.1 _ (gW_b hA) hc.1 k hk (C.2.2.2.2.2.2.1 _ hlk) (fun _ h => h) hv d (kk p l e s m args below meth c H locs ls C hH hS hl)
/-- a field is written: the heap's size stays -/
theorem a_put0 {index ci k q0 a : Nat} {fin : Bool} {ty : FieldType} {ws : va_W} {fs : List Value} {v : Value} {p : Program} {l : Launch} {e : Env} {s : State} {m : MethodId} {args : Array Value} {below : List Frame} {meth : Method} {c : Code} {H : Heap} {locs : List Loc} {ls : Array Slot} {R : Room} {Q : State → Prop} (C : gCx g M p l s m args meth c) (hP : va_P g.2.2.2.1 vwCl ws H) (hD : va_D (gFr g) ws) (hS0 : va_S (gFr g) s.heap H locs) (d : decode M.2.1 pc = .ok (.putfield index, 3)) (fw : fW M.1.cls index ci k fin ty) (hm : fin = true → M.1.name = "<init>") (he : ws[q0]? = some (a, .inr (ci, fs))) (hl : k < fs.length) (hn : narrow ty v = v) (hft : fits ty v = true)
    (kk : ∀ (H1 : Heap) (locs1 : List Loc), va_P g.2.2.2.1 vwCl (ws.set q0 (a, .inr (ci, fs.set k v))) H1 → va_D (gFr g) (ws.set q0 (a, .inr (ci, fs.set k v))) → va_S (gFr g) s.heap H1 locs1 → H1.size = H.size → W p l e R s m args below meth c H1 locs1 kc ns Q (F0 m (pc + 3) ls S)) : W p l e R s m args below meth c H locs kc ns Q (F0 m pc ls (v :: .ref a :: S)) := by
  obtain ⟨C0, T, N, ⟨hc, hin, ⟨ty0, hty⟩, hnm⟩, hk, hlk, hfn, hd, hdecl⟩ := fw
  have hts := C.2.2.2.2.2.2.1
  have hK := C.2.2.2.2.2.2.2.2.2.2.1
  have hap := va_apart (own := M.1.cls) hts hin ty0 hty hnm hK hc
  obtain ⟨r, h1, cell, q1, q2, q3, q4⟩ := hP q0 _ he
  have hr : r = (C0, T, N) := Option.some.inj (h1.symm.trans hc)
  subst hr
  obtain ⟨hSl, hfc, kC, hkC, hkind⟩ := hK.1 ci _ hc
  obtain ⟨cf, kf, fi, f, hi, hsl⟩ := hSl k hk
  have hlay := hts _ (hin _ (u_in_lay hk))
  unfold u_lay at hlay
  have hst := (u_facts hfc hkC (u_lays hts hin hk) hi).1
  cases fin with
  | false =>
    rw [if_neg (by rw [hfn]; decide)] at hlay
    have h6 := u_store hfc hkC hkind hlay hi hd hn hft
    refine W.putK C.1 C.2.1 (f := f) ⟨C.2.2.2.2.2.1, hts _ hlk, ⟨_, _, _, hi⟩, hst⟩ (by rw [q2]; exact h6) q1 q3 (by rw [hsl]; exact k2_hasslot (q4 k hk)) rfl rfl d fun H' e1 e2 e3 => ?_
    rw [hsl] at e1 ⊢
    exact kk H' _ (hP.set hD he ⟨_, hc, t_OB.to (V := updV (vp_V fs) k v) ⟨_, e1, q2, q3, t_set q4 hap hk v⟩ (fun j _ => vp_updV_set hl v j)⟩ e3) (hD.set he) (hS0.put e2 e3 (hD.2 q0 _ he)) e2
  | true =>
    rw [if_pos hfn] at hlay
    have hcf : m.cls = cf := by
      obtain ⟨_, _, c', _, _, _, -, -, hf', -, -, -, hown2, -⟩ := Cond.laysFinal_spec hlay
      have e1 : c' = cf := by have := hi.symm.trans hf'; simp at this; exact this.1.symm
      rw [hdecl.resolve_right (by decide)] at hown2
      rw [← e1]; exact Option.some.inj (C.2.2.2.2.2.1.symm.trans hown2)
    have h6 := u_fits hfc hkC hkind (Or.inr hlay) hi hd hn hft
    refine W.putFinK C.1 C.2.1 C.2.2.2.2.2.1 (hts _ hlk) hi hst hcf (C.2.2.2.2.2.2.2.2.1.trans (hm rfl)) (by rw [q2]; exact h6) q1 q3 (by rw [hsl]; exact k2_hasslot (q4 k hk)) rfl rfl d fun H' e1 e2 e3 => ?_
    rw [hsl] at e1 ⊢
    exact kk H' _ (hP.set hD he ⟨_, hc, t_OB.to (V := updV (vp_V fs) k v) ⟨_, e1, q2, q3, t_set q4 hap hk v⟩ (fun j _ => vp_updV_set hl v j)⟩ e3) (hD.set he) (hS0.put e2 e3 (hD.2 q0 _ he)) e2
theorem gSz.setA {A' : List va_E} {H H1 : Heap} (h : gSz g z A B H) (hs : H1.size = H.size) (hl : A'.length = A.length) : gSz g z A' B H1 := by
  unfold gSz at *
  split at h
  · trivial
  · rw [hs, hl]; exact h
  · rw [hs]; exact h
theorem gSz.setB {B' : List va_E} {H H1 : Heap} (h : gSz g z A B H) (hs : H1.size = H.size) (hl : B'.length = B.length) : gSz g z A B' H1 := by
  unfold gSz at *
  split at h
  · trivial
  · rw [hs]
    refine ⟨h.1, ?_⟩
    rw [h.2] at hl
    exact List.length_eq_zero_iff.mp hl
  · rw [hs, hl]; exact h
theorem a_putA {index ci k j : Nat} {fin : Bool} {ty : FieldType} {fs : List Value} {v : Value} (d : decode M.2.1 pc = .ok (.putfield index, 3)) (fw : fW M.1.cls index ci k fin ty) (hm : fin = true → M.1.name = "<init>") (hA : A[j]? = some (.inr (ci, fs))) (hl : k < fs.length) (hn : narrow ty v = v) (hft : fits ty v = true) (hq : pc + 3 = q) (kk : AW g M mc ms P X kc ns q L S z (A.set j (.inr (ci, fs.set k v))) B) : AW g M mc ms P X kc ns pc L (v :: .ref (g.1 + j) :: S) z A B := by
  subst hq
  intro p l e s m args below meth c H locs ls C hH hS hls
  refine a_put0 C hH.1 hH.2.1 hS d fw hm (gW_a hA) hl hn hft (fun H1 locs1 hP hD hS1 hsz => ?_)
  rw [gW_sa hA] at hP hD
  exact kk p l e s m args below meth c H1 locs1 ls C ⟨hP, hD, hH.2.2.setA hsz (List.length_set ..)⟩ hS1 hls
theorem a_putB {index ci k j : Nat} {fin : Bool} {ty : FieldType} {fs : List Value} {v : Value} (d : decode M.2.1 pc = .ok (.putfield index, 3)) (fw : fW M.1.cls index ci k fin ty) (hm : fin = true → M.1.name = "<init>") (hA : B[j]? = some (.inr (ci, fs))) (hl : k < fs.length) (hn : narrow ty v = v) (hft : fits ty v = true) (hq : pc + 3 = q) (kk : AW g M mc ms P X kc ns q L S z A (B.set j (.inr (ci, fs.set k v)))) : AW g M mc ms P X kc ns pc L (v :: .ref (g.2.1 + j) :: S) z A B := by
  subst hq
  intro p l e s m args below meth c H locs ls C hH hS hls
  refine a_put0 C hH.1 hH.2.1 hS d fw hm (gW_b hA) hl hn hft (fun H1 locs1 hP hD hS1 hsz => ?_)
  rw [gW_sb] at hP hD
  exact kk p l e s m args below meth c H1 locs1 ls C ⟨hP, hD, hH.2.2.setB hsz (List.length_set ..)⟩ hS1 hls
end Fields
section Makes
variable {g : gp_T} {M : md_T} {mc ms : Nat} {P : ps_T} {X : xs_T} {kc ns pc q : Nat} {L : List (Option Value)} {S : List Value} {A B : List va_E}
theorem a_newa0 {atype : ArrayType} {ty : FieldType} {t0 N : Nat} {n : Int32} {a0 : vp_A} {ws : va_W} {p : Program} {l : Launch} {e : Env} {s : State} {m : MethodId} {args : Array Value} {below : List Frame} {meth : Method} {c : Code} {H : Heap} {locs : List Loc} {ls : Array Slot} {R : Room} {Q : State → Prop} (C : gCx g M p l s m args meth c) (hP : va_P g.2.2.2.1 vwCl ws H) (hD : va_D (gFr g) ws) (hS : va_S (gFr g) s.heap H locs) (d : decode M.2.1 pc = .ok (.newarray atype, 2)) (hw : Cond.arrayClass ty ∈ TG) (hty : newarray.typeOf atype = ty) (hpl : ∀ C, ty ≠ .object C) (ht : (gTy g)[t0]? = some (g.2.2.1 t0, ty)) (ha : ∀ cA : ClassId, vp_cell cA a0 = arrV cA N (fun _ => defaultValue ty)) (hn : ¬ n < 0) (hN : n.toNatClampNeg = N) (hbytes : N * componentBytes ty ≤ 536870912) (hc : kc + 1 ≤ R.cells) (hs : ns + N ≤ R.slots) {b : Nat} (hb : H.size = b)
    (kk : ∀ H1 : Heap, va_P g.2.2.2.1 vwCl (ws ++ [(b, .inl (g.2.2.1 t0, a0))]) H1 → va_D (gFr g) (ws ++ [(b, .inl (g.2.2.1 t0, a0))]) → va_S (gFr g) s.heap H1 locs → H1.size = b + 1 → W p l e R s m args below meth c H1 locs (kc + 1) (ns + N) Q (F0 m (pc + 2) ls (.ref b :: S))) : W p l e R s m args below meth c H locs kc ns Q (F0 m pc ls (.int n :: S)) := by
  subst hty
  subst hb
  have hA : ∀ q, s.heap.size ≤ q → gFr g q := fun q h => Nat.le_trans C.2.2.2.2.2.2.2.2.2.2.2.2.2.2.2.2.2 h
  refine va_newaK C.1 C.2.1 (C.2.2.2.2.2.2.1 _ hw) rfl d rfl hn hN hbytes hc hs rfl fun H1 cA e1 z1 o1 hAr hNm => ?_
  have hcA : cA = g.2.2.1 t0 := by
    have h2 := (C.2.2.2.2.2.2.2.2.2.2.1.2 t0 _ ht).2
    have h3 : s.vm.findClass ("[" ++ (newarray.typeOf atype).toString) = some (g.2.2.1 t0) := by
      cases atype <;> exact h2
    exact Option.some.inj (hNm.symm.trans h3)
  subst hcA
  have hk : ∀ (k : Nat) (x : Nat × va_E), ws[k]? = some x → H1[x.1]? = H[x.1]? := fun k x hx => o1 x.1 ((hP k x hx).lt)
  refine kk H1 ((hP.kept hk).app (fun k x hx => ?_)) (hD.push hP rfl (hA _ hS.1)) ⟨Nat.le_trans hS.1 (by omega), fun x h1 h2 => (o1 x (Nat.lt_of_lt_of_le h1 hS.1)).trans (hS.2.1 x h1 h2), hS.2.2⟩ z1
  have hz : k < 1 := (List.getElem?_eq_some_iff.mp hx).1
  rw [show k = 0 by omega] at hx
  cases hx
  show H1[H.size]? = some (vp_cell _ _)
  rw [ha]
  exact e1
theorem a_newaA {atype : ArrayType} {ty : FieldType} {t0 N : Nat} {n : Int32} (a0 : vp_A) (d : decode M.2.1 pc = .ok (.newarray atype, 2)) (hw : Cond.arrayClass ty ∈ TG) (hty : newarray.typeOf atype = ty) (hpl : ∀ C, ty ≠ .object C) (ht : (gTy g)[t0]? = some (g.2.2.1 t0, ty)) (ha : ∀ cA : ClassId, vp_cell cA a0 = arrV cA N (fun _ => defaultValue ty)) (hn : ¬ n < 0) (hN : n.toNatClampNeg = N) (hbytes : N * componentBytes ty ≤ 536870912) (hc : kc + 1 ≤ mc) (hs : ns + N ≤ ms) (hq : pc + 2 = q) (k : AW g M mc ms P X (kc + 1) (ns + N) q L (.ref (g.1 + A.length) :: S) 1 (A ++ [.inl (g.2.2.1 t0, a0)]) []) : AW g M mc ms P X kc ns pc L (.int n :: S) 1 A [] := by
  subst hq
  intro p l e s m args below meth c H locs ls C hH hS hl
  have hsz : H.size = g.1 + A.length := hH.2.2.1
  refine a_newa0 C hH.1 hH.2.1 hS d hw hty hpl ht ha hn hN hbytes hc hs hsz (fun H1 hP hD hS1 hz => ?_)
  rw [← gW_pa] at hP hD
  exact k p l e s m args below meth c H1 locs ls C ⟨hP, hD, ⟨by rw [hz, List.length_append]; rfl, rfl⟩⟩ hS1 hl
theorem a_newaB {atype : ArrayType} {ty : FieldType} {t0 N : Nat} {n : Int32} (a0 : vp_A) (d : decode M.2.1 pc = .ok (.newarray atype, 2)) (hw : Cond.arrayClass ty ∈ TG) (hty : newarray.typeOf atype = ty) (hpl : ∀ C, ty ≠ .object C) (ht : (gTy g)[t0]? = some (g.2.2.1 t0, ty)) (ha : ∀ cA : ClassId, vp_cell cA a0 = arrV cA N (fun _ => defaultValue ty)) (hn : ¬ n < 0) (hN : n.toNatClampNeg = N) (hbytes : N * componentBytes ty ≤ 536870912) (hc : kc + 1 ≤ mc) (hs : ns + N ≤ ms) (hq : pc + 2 = q) (k : AW g M mc ms P X (kc + 1) (ns + N) q L (.ref (g.2.1 + B.length) :: S) 2 A (B ++ [.inl (g.2.2.1 t0, a0)])) : AW g M mc ms P X kc ns pc L (.int n :: S) 2 A B := by
  subst hq
  intro p l e s m args below meth c H locs ls C hH hS hl
  have hsz : H.size = g.2.1 + B.length := hH.2.2
  refine a_newa0 C hH.1 hH.2.1 hS d hw hty hpl ht ha hn hN hbytes hc hs hsz (fun H1 hP hD hS1 hz => ?_)
  rw [← gW_pb] at hP hD
  refine k p l e s m args below meth c H1 locs ls C ⟨hP, hD, ?_⟩ hS1 hl
  show H1.size = g.2.1 + (B ++ [_]).length
  rw [hz, List.length_append]; rfl
def nW (own : String) (index ci : Nat) (N : Nat) (fs : List Value) : Prop := ∃ (C : String) (T : u_T) (ty : Nat → FieldType), cF ci C T N ∧ (∀ k, k < N → parseFieldDescriptor (T k).2.2.1 = some (ty k)) ∧ (∀ j, j < N → defaultValue (ty j) = vp_V fs j) ∧ (∀ w ∈ ([.classLink own index C, .instantiable C N, .initialized C] : List Cond), w ∈ TG)
theorem a_new0 {index ci N : Nat} {fs : List Value} {ws : va_W} {p : Program} {l : Launch} {e : Env} {s : State} {m : MethodId} {args : Array Value} {below : List Frame} {meth : Method} {c : Code} {H : Heap} {locs : List Loc} {ls : Array Slot} {R : Room} {Q : State → Prop} (C : gCx g M p l s m args meth c) (hP : va_P g.2.2.2.1 vwCl ws H) (hD : va_D (gFr g) ws) (hS : va_S (gFr g) s.heap H locs) (d : decode M.2.1 pc = .ok (.new index, 3)) (nw : nW M.1.cls index ci N fs) (hcl : kc + 1 ≤ R.cells) (hs : ns + N ≤ R.slots) {b : Nat} (hb : H.size = b)
    (kk : ∀ H1 : Heap, va_P g.2.2.2.1 vwCl (ws ++ [(b, .inr (ci, fs))]) H1 → va_D (gFr g) (ws ++ [(b, .inr (ci, fs))]) → va_S (gFr g) s.heap H1 locs → H1.size = b + 1 → W p l e R s m args below meth c H1 locs (kc + 1) (ns + N) Q (F0 m (pc + 3) ls (.ref b :: S))) : W p l e R s m args below meth c H locs kc ns Q (F0 m pc ls S) := by
  subst hb
  obtain ⟨C0, T, ty, ⟨hc, hin, -, -⟩, hty, hfs, hwd⟩ := nw
  have hts := C.2.2.2.2.2.2.1
  have hA : ∀ q, s.heap.size ≤ q → gFr g q := fun q h => Nat.le_trans C.2.2.2.2.2.2.2.2.2.2.2.2.2.2.2.2.2 h
  have hKn := C.2.2.2.2.2.2.2.2.2.2.1.1 ci _ hc
  refine W.newcK C.1 C.2.1 C.2.2.2.2.2.1 (hts _ (hwd _ (by simp))) (hts _ (hwd _ (by simp))) (hts _ (hwd _ (by simp))) rfl d hcl hs hKn.2.1 rfl fun H1 kC hkC e1 z1 o1 => ?_
  have hk : ∀ (k : Nat) (x : Nat × va_E), ws[k]? = some x → H1[x.1]? = H[x.1]? := fun k x hx => o1 x.1 ((hP k x hx).lt)
  refine kk H1 ((hP.kept hk).app (fun k x hx => ?_)) (hD.push hP rfl (hA _ hS.1)) ⟨Nat.le_trans hS.1 (by omega), fun x h1 h2 => (o1 x (Nat.lt_of_lt_of_le h1 hS.1)).trans (hS.2.1 x h1 h2), hS.2.2⟩ z1
  have hz : k < 1 := (List.getElem?_eq_some_iff.mp hx).1
  rw [show k = 0 by omega] at hx
  cases hx
  exact ⟨_, hc, (u_born ty hts hin hKn hkC e1 hty).to hfs⟩
theorem a_newA {index ci N : Nat} (fs : List Value) (d : decode M.2.1 pc = .ok (.new index, 3)) (nw : nW M.1.cls index ci N fs) (hc : kc + 1 ≤ mc) (hs : ns + N ≤ ms) (hq : pc + 3 = q) (k : AW g M mc ms P X (kc + 1) (ns + N) q L (.ref (g.1 + A.length) :: S) 1 (A ++ [.inr (ci, fs)]) []) : AW g M mc ms P X kc ns pc L S 1 A [] := by
  subst hq
  intro p l e s m args below meth c H locs ls C hH hS hl
  have hsz : H.size = g.1 + A.length := hH.2.2.1
  refine a_new0 C hH.1 hH.2.1 hS d nw hc hs hsz (fun H1 hP hD hS1 hz => ?_)
  rw [← gW_pa] at hP hD
  exact k p l e s m args below meth c H1 locs ls C ⟨hP, hD, ⟨by rw [hz, List.length_append]; rfl, rfl⟩⟩ hS1 hl
theorem a_newB {index ci N : Nat} (fs : List Value) (d : decode M.2.1 pc = .ok (.new index, 3)) (nw : nW M.1.cls index ci N fs) (hc : kc + 1 ≤ mc) (hs : ns + N ≤ ms) (hq : pc + 3 = q) (k : AW g M mc ms P X (kc + 1) (ns + N) q L (.ref (g.2.1 + B.length) :: S) 2 A (B ++ [.inr (ci, fs)])) : AW g M mc ms P X kc ns pc L S 2 A B := by
  subst hq
  intro p l e s m args below meth c H locs ls C hH hS hl
  have hsz : H.size = g.2.1 + B.length := hH.2.2
  refine a_new0 C hH.1 hH.2.1 hS d nw hc hs hsz (fun H1 hP hD hS1 hz => ?_)
  rw [← gW_pb] at hP hD
  refine k p l e s m args below meth c H1 locs ls C ⟨hP, hD, ?_⟩ hS1 hl
  show H1.size = g.2.1 + (B ++ [_]).length
  rw [hz, List.length_append]; rfl
end Makes
end
section
section Runs2
variable {p : Program} {l : Launch} {e : Env} {R : Room} {s : State} {m : MethodId} {args : Array Value} {below : List Frame} {meth : Method} {c : Code} {H : Heap} {locs : List Loc} {kc ns mc' ms' pc : Nat} {Q : State → Prop} {ls : Array Slot} {st0 rest : List Value} {a : Array Value} {g : gp_T} {P' : ps_T} {X' : xs_T}
/-- behind a call: the callee's end, or what it has thrown -/
theorem a_run (hr : vx_Run p l e R s m args below meth c H locs kc ns mc' ms' (F0 m pc ls st0) rest (gQc g P' a) (gXC g X') (gFr g)) (hS : va_S (gFr g) s.heap H locs)
    (kk : ∀ (v : Option Value) (z : Nat) (A B : List va_E) (H1 : Heap) (locs1 : List Loc), P' v z A B → gHp g z A B H1 → va_S (gFr g) s.heap H1 locs1 → W p l e R s m args below meth c H1 locs1 (kc + mc') (ns + ms') Q (F0 m (pc + 3) ls (v.toList ++ rest)))
    (kx : ∀ (E : String) (ce : Cell) (q : Addr) (z : Nat) (A B : List va_E) (H1 : Heap) (locs1 : List Loc), X' E z A B → gHp g z A B H1 → va_S (gFr g) s.heap H1 locs1 → H1[q]? = some ce → ce.vm = .none → s.vm.findClass E = some ce.cls → vx_W p l e R s m args below meth c H1 locs1 (kc + mc') (ns + ms') Q (F0 m pc ls rest) q) : W p l e R s m args below meth c H locs kc ns Q (F0 m pc ls st0) := by
  intro T hT X
  rcases hr T hT X with ⟨v, st₀, t, T', L, h0, X', hL, e1, e2, hq, st⟩ | ⟨q, st₀, t, T', L, E, ce, h0, X', hL, e1, e2, hx, hce, hcv, hcl, st⟩
  · obtain ⟨⟨r, z, A, B, hv, hp, hb⟩, hF⟩ := hq
    cases hv
    obtain ⟨-, -, k3⟩ := vx_keep h0 e1 hS (fun _ _ h => h) (fun _ h => h) hL hF
    obtain ⟨t2, a1, b1⟩ := kk v z A B T'.heap (locs ++ L) hp (by rw [e1]; exact hb) k3 T' rfl X'
    exact ⟨t2, st t2 a1, b1⟩
  · obtain ⟨⟨z, A, B, hp, hb⟩, hF⟩ := hx
    obtain ⟨-, -, k3⟩ := vx_keep h0 e1 hS (fun _ _ h => h) (fun _ h => h) hL hF
    obtain ⟨t2, a1, b1⟩ := kx E ce q z A B T'.heap (locs ++ L) hp (by rw [e1]; exact hb) k3 (by rw [e1]; exact hce) hcv hcl T' rfl X'
    exact ⟨t2, st.trans a1, b1⟩
end Runs2
section Calls2
variable {g : gp_T} {M : md_T} {mc ms : Nat} {P : ps_T} {X : xs_T} {kc ns pc q : Nat} {L : List (Option Value)} {S S0 : List Value} {z : Nat} {A B : List va_E} {y : md_T} {mc' ms' : Nat} {P' : ps_T} {X' : xs_T} {index ci j n : Nat} {fs : List Value}
theorem a_callVA (As : List Value) (d : decode M.2.1 pc = .ok (.invokevirtual index, 3)) (cv : cVw M.1.cls index ci y n) (hM : Ct g y (.ref (g.1 + j) :: As) z A B mc' ms' P' X') (hA : A[j]? = some (.inr (ci, fs))) (hn : As.length = n) (hS0 : S0 = As.reverse ++ .ref (g.1 + j) :: S) (hcat : (S.map fun v => v.category).sum ≤ 8) (hR : y.2.2.2.2.1 + 1 ≤ M.2.2.2.2.1 ∧ 8 + (y.2.2.1 + 11) + y.2.2.2.2.2.1 ≤ M.2.2.2.2.2.1) (hf : kc + mc' ≤ mc ∧ ns + ms' ≤ ms) (hq : pc + 3 = q)
    (kk : ∀ (v : Option Value) (z' : Nat) (A' B' : List va_E), P' v z' A' B' → AW g M mc ms P X (kc + mc') (ns + ms') q L (v.toList ++ S) z' A' B') (kx : ∀ (E : String) (z' : Nat) (A' B' : List va_E), X' E z' A' B' → AX g M mc ms P X (kc + mc') (ns + ms') pc L E z' A' B') : AW g M mc ms P X kc ns pc L S0 z A B := by
  subst hq; subst hS0
  intro p l e s m args below meth c H locs ls C hH hS hl
  obtain ⟨⟨hgw, hwd, hd⟩, hw2, C0, T0, N0, hci, hcls⟩ := cv
  have hts := C.2.2.2.2.2.2.1
  have hT : GoodIn TG (wsV M.1.cls index y.1.cls y.1 (gWord y :: TG)) := tg_sub (fun w hw => by
    unfold wsV at hw
    simp only [List.cons_append, List.nil_append, List.mem_cons] at hw
    rcases hw with e | e | e | e | e | e
    · rw [e]; exact hwd _ (by simp)
    · rw [e]; exact hw2 _ (by simp)
    · rw [e]; exact hw2 _ (by simp)
    · rw [e]; exact hwd _ (by simp)
    · rw [e]; exact hwd _ (by simp)
    · exact e)
  have cw := cwV (R := gRm M mc ms) (rm := gRm y mc' ms') (mc := mc') (ms := ms') (bytes := y.2.1) (maxL := y.2.2.1) (ret := y.2.2.2.1) (ws' := TG) n hts hT (by rw [hgw]) rfl rfl ⟨rfl, hd⟩ hR
  refine a_run (vx_runV (As := As) (rest := S) ⟨C.1, C.2.1, C.2.2.1, C.2.2.2.2.2.1, hts⟩ (hM l C.2.2.2.2.2.2.2.2.2.1) cw ⟨gWd_blind, ?_, fun U hU hW => ⟨rfl, gWd_pre C.2.2.2.2.2.2.2.2.2.2 hH hS hU hW⟩⟩ rfl hn hl.1 rfl (lv_room hcat) d hf) hS (fun v z' A' B' H1 locs1 hp hH1 hS1 => kk v z' A' B' hp p l e s m args below meth c H1 locs1 ls C hH1 hS1 hl) (fun E ce q9 z' A' B' H1 locs1 hp hH1 hS1 h1 h2 h3 => kx E z' A' B' hp p l e s m args below meth c H1 locs1 ls S q9 ce C hH1 hS1 hl h1 h2 h3)
  have hrc := va_recv C.2.2.2.2.2.2.2.2.2.2.1 hH.1 hci (gW_a hA)
  rw [hcls]
  exact hrc
theorem a_callVB (As : List Value) (d : decode M.2.1 pc = .ok (.invokevirtual index, 3)) (cv : cVw M.1.cls index ci y n) (hM : Ct g y (.ref (g.2.1 + j) :: As) z A B mc' ms' P' X') (hA : B[j]? = some (.inr (ci, fs))) (hn : As.length = n) (hS0 : S0 = As.reverse ++ .ref (g.2.1 + j) :: S) (hcat : (S.map fun v => v.category).sum ≤ 8) (hR : y.2.2.2.2.1 + 1 ≤ M.2.2.2.2.1 ∧ 8 + (y.2.2.1 + 11) + y.2.2.2.2.2.1 ≤ M.2.2.2.2.2.1) (hf : kc + mc' ≤ mc ∧ ns + ms' ≤ ms) (hq : pc + 3 = q)
    (kk : ∀ (v : Option Value) (z' : Nat) (A' B' : List va_E), P' v z' A' B' → AW g M mc ms P X (kc + mc') (ns + ms') q L (v.toList ++ S) z' A' B') (kx : ∀ (E : String) (z' : Nat) (A' B' : List va_E), X' E z' A' B' → AX g M mc ms P X (kc + mc') (ns + ms') pc L E z' A' B') : AW g M mc ms P X kc ns pc L S0 z A B := by
  subst hq; subst hS0
  intro p l e s m args below meth c H locs ls C hH hS hl
  obtain ⟨⟨hgw, hwd, hd⟩, hw2, C0, T0, N0, hci, hcls⟩ := cv
  have hts := C.2.2.2.2.2.2.1
  have hT : GoodIn TG (wsV M.1.cls index y.1.cls y.1 (gWord y :: TG)) := tg_sub (fun w hw => by
    unfold wsV at hw
    simp only [List.cons_append, List.nil_append, List.mem_cons] at hw
    rcases hw with e | e | e | e | e | e
    · rw [e]; exact hwd _ (by simp)
    · rw [e]; exact hw2 _ (by simp)
    · rw [e]; exact hw2 _ (by simp)
    · rw [e]; exact hwd _ (by simp)
    · rw [e]; exact hwd _ (by simp)
    · exact e)
  have cw := cwV (R := gRm M mc ms) (rm := gRm y mc' ms') (mc := mc') (ms := ms') (bytes := y.2.1) (maxL := y.2.2.1) (ret := y.2.2.2.1) (ws' := TG) n hts hT (by rw [hgw]) rfl rfl ⟨rfl, hd⟩ hR
  refine a_run (vx_runV (As := As) (rest := S) ⟨C.1, C.2.1, C.2.2.1, C.2.2.2.2.2.1, hts⟩ (hM l C.2.2.2.2.2.2.2.2.2.1) cw ⟨gWd_blind, ?_, fun U hU hW => ⟨rfl, gWd_pre C.2.2.2.2.2.2.2.2.2.2 hH hS hU hW⟩⟩ rfl hn hl.1 rfl (lv_room hcat) d hf) hS (fun v z' A' B' H1 locs1 hp hH1 hS1 => kk v z' A' B' hp p l e s m args below meth c H1 locs1 ls C hH1 hS1 hl) (fun E ce q9 z' A' B' H1 locs1 hp hH1 hS1 h1 h2 h3 => kx E z' A' B' hp p l e s m args below meth c H1 locs1 ls S q9 ce C hH1 hS1 hl h1 h2 h3)
  have hrc := va_recv C.2.2.2.2.2.2.2.2.2.2.1 hH.1 hci (gW_b hA)
  rw [hcls]
  exact hrc
theorem a_callS (As : List Value) (d : decode M.2.1 pc = .ok (.invokestatic index, 3)) (cv : cSw M.1.cls index y n) (hM : Ct g y As z A B mc' ms' P' X') (hn : As.length = n) (hS0 : S0 = As.reverse ++ S) (hcat : (S.map fun v => v.category).sum ≤ 8) (hR : y.2.2.2.2.1 + 1 ≤ M.2.2.2.2.1 ∧ 8 + (y.2.2.1 + 11) + y.2.2.2.2.2.1 ≤ M.2.2.2.2.2.1) (hf : kc + mc' ≤ mc ∧ ns + ms' ≤ ms) (hq : pc + 3 = q)
    (kk : ∀ (v : Option Value) (z' : Nat) (A' B' : List va_E), P' v z' A' B' → AW g M mc ms P X (kc + mc') (ns + ms') q L (v.toList ++ S) z' A' B') (kx : ∀ (E : String) (z' : Nat) (A' B' : List va_E), X' E z' A' B' → AX g M mc ms P X (kc + mc') (ns + ms') pc L E z' A' B') : AW g M mc ms P X kc ns pc L S0 z A B := by
  subst hq; subst hS0
  intro p l e s m args below meth c H locs ls C hH hS hl
  obtain ⟨⟨hgw, hwd, hd⟩, hst⟩ := cv
  have hts := C.2.2.2.2.2.2.1
  have hcb : CallB (gRm M mc ms) s args M.1.cls index y.1 y.2.1 y.2.2.1 y.2.2.2.1 (gWord y :: TG) (gRm y mc' ms') mc' ms' n := callB_of n hts (tg_ws (hwd _ (by simp))) (by rw [hgw]) rfl rfl (hts _ (hwd _ (by simp))) (hts _ (hwd _ (by simp))) hd hR
  exact a_run (vx_runS (As := As) (rest := S) ⟨C.1, C.2.1, C.2.2.1, C.2.2.2.2.2.1, hts⟩ (hM l C.2.2.2.2.2.2.2.2.2.1) ⟨hcb, hts _ hst⟩ ⟨gWd_blind, fun U hU hW => ⟨rfl, gWd_pre C.2.2.2.2.2.2.2.2.2.2 hH hS hU hW⟩⟩ rfl hn hl.1 rfl (lv_room hcat) d hf) hS (fun v z' A' B' H1 locs1 hp hH1 hS1 => kk v z' A' B' hp p l e s m args below meth c H1 locs1 ls C hH1 hS1 hl) (fun E ce q9 z' A' B' H1 locs1 hp hH1 hS1 h1 h2 h3 => kx E z' A' B' hp p l e s m args below meth c H1 locs1 ls S q9 ce C hH1 hS1 hl h1 h2 h3)
theorem a_callH (As : List Value) (d : decode M.2.1 pc = .ok (.invokestatic index, 3)) (cv : cHw M.1.cls index y n) (hM : Ct g y As z A B mc' ms' P' X') (hn : As.length = n) (hS0 : S0 = As.reverse ++ S) (hcat : (S.map fun v => v.category).sum ≤ 8) (hR : y.2.2.2.2.1 + 1 ≤ M.2.2.2.2.1 ∧ 8 + (y.2.2.1 + 11) + y.2.2.2.2.2.1 ≤ M.2.2.2.2.2.1) (hf : kc + mc' ≤ mc ∧ ns + ms' ≤ ms) (hq : pc + 3 = q)
    (kk : ∀ (v : Option Value) (z' : Nat) (A' B' : List va_E), P' v z' A' B' → AW g M mc ms P X (kc + mc') (ns + ms') q L (v.toList ++ S) z' A' B') (kx : ∀ (E : String) (z' : Nat) (A' B' : List va_E), X' E z' A' B' → AX g M mc ms P X (kc + mc') (ns + ms') pc L E z' A' B') : AW g M mc ms P X kc ns pc L S0 z A B := by
  subst hq; subst hS0
  intro p l e s m args below meth c H locs ls C hH hS hl
  obtain ⟨hgw, hwd, hd⟩ := cv
  have hts := C.2.2.2.2.2.2.1
  have hT : GoodIn TG (va_wsS M.1.cls index y.1 (gWord y :: TG)) := tg_sub (fun w hw => by
    unfold va_wsS at hw
    simp only [List.cons_append, List.nil_append, List.mem_cons] at hw
    rcases hw with e | e | e | e | e
    · rw [e]; exact hwd _ (by simp)
    · rw [e]; exact hwd _ (by simp)
    · rw [e]; exact hwd _ (by simp)
    · rw [e]; exact hwd _ (by simp)
    · exact e)
  have cw := vx_cwSW (R := gRm M mc ms) (rm := gRm y mc' ms') (mc := mc') (ms := ms') (bytes := y.2.1) (maxL := y.2.2.1) (ret := y.2.2.2.1) (hh := y.2.2.2.2.2.2) (ws' := TG) n hts hT (by rw [hgw]) rfl rfl hd hR
  exact a_run (vx_runSX (As := As) (rest := S) ⟨C.1, C.2.1, C.2.2.1, C.2.2.2.2.2.1, hts⟩ (hM l C.2.2.2.2.2.2.2.2.2.1) cw ⟨gWd_blind, fun U hU hW => ⟨rfl, gWd_pre C.2.2.2.2.2.2.2.2.2.2 hH hS hU hW⟩⟩ rfl hn hl.1 rfl (lv_room hcat) d hf) hS (fun v z' A' B' H1 locs1 hp hH1 hS1 => kk v z' A' B' hp p l e s m args below meth c H1 locs1 ls C hH1 hS1 hl) (fun E ce q9 z' A' B' H1 locs1 hp hH1 hS1 h1 h2 h3 => kx E z' A' B' hp p l e s m args below meth c H1 locs1 ls S q9 ce C hH1 hS1 hl h1 h2 h3)
theorem a_callI {b : Nat} (As : List Value) (d : decode M.2.1 pc = .ok (.invokespecial index, 3)) (cv : cIw M.1.cls index y n) (hM : Ct g y (.ref b :: As) z A B mc' ms' P' X') (hn : As.length = n) (hS0 : S0 = As.reverse ++ .ref b :: S) (hcat : (S.map fun v => v.category).sum ≤ 8) (hR : y.2.2.2.2.1 + 1 ≤ M.2.2.2.2.1 ∧ 8 + (y.2.2.1 + 11) + y.2.2.2.2.2.1 ≤ M.2.2.2.2.2.1) (hf : kc + mc' ≤ mc ∧ ns + ms' ≤ ms) (hq : pc + 3 = q)
    (kk : ∀ (v : Option Value) (z' : Nat) (A' B' : List va_E), P' v z' A' B' → AW g M mc ms P X (kc + mc') (ns + ms') q L (v.toList ++ S) z' A' B') (kx : ∀ (E : String) (z' : Nat) (A' B' : List va_E), X' E z' A' B' → AX g M mc ms P X (kc + mc') (ns + ms') pc L E z' A' B') : AW g M mc ms P X kc ns pc L S0 z A B := by
  subst hq; subst hS0
  intro p l e s m args below meth c H locs ls C hH hS hl
  obtain ⟨⟨hgw, hwd, hd⟩, hin, hnm, hret⟩ := cv
  have hts := C.2.2.2.2.2.2.1
  have hgw2 : gWord y = .code y.1 y.2.1 y.2.2.1 none := by rw [hgw, hret]
  have hcb : CallB (gRm M mc ms) s args M.1.cls index y.1 y.2.1 y.2.2.1 none (gWord y :: TG) (gRm y mc' ms') mc' ms' n := callB_of n hts (tg_ws (hwd _ (by simp))) (by rw [hgw2]) rfl rfl (hts _ (hwd _ (by simp))) (hts _ (hwd _ (by simp))) hd hR
  exact a_run (vx_runI (As := As) (rest := S) ⟨C.1, C.2.1, C.2.2.1, C.2.2.2.2.2.1, hts⟩ (hM l C.2.2.2.2.2.2.2.2.2.1) ⟨hcb, hnm, hts _ hin⟩ ⟨gWd_blind, fun U hU hW => ⟨rfl, gWd_pre C.2.2.2.2.2.2.2.2.2.2 hH hS hU hW⟩⟩ rfl hn hl.1 rfl (lv_room hcat) d hf) hS (fun v z' A' B' H1 locs1 hp hH1 hS1 => kk v z' A' B' hp p l e s m args below meth c H1 locs1 ls C hH1 hS1 hl) (fun E ce q9 z' A' B' H1 locs1 hp hH1 hS1 h1 h2 h3 => kx E z' A' B' hp p l e s m args below meth c H1 locs1 ls S q9 ce C hH1 hS1 hl h1 h2 h3)
theorem a_callN {b : Nat} {host : String} (As : List Value) (d : decode M.2.1 pc = .ok (.invokespecial index, 3)) (cv : cNw M.1.cls index y n host) (hM : Ct g y (.ref b :: As) z A B mc' ms' P' X') (hn : As.length = n) (hS0 : S0 = As.reverse ++ .ref b :: S) (hcat : (S.map fun v => v.category).sum ≤ 8) (hR : y.2.2.2.2.1 + 1 ≤ M.2.2.2.2.1 ∧ 8 + (y.2.2.1 + 11) + y.2.2.2.2.2.1 ≤ M.2.2.2.2.2.1) (hf : kc + mc' ≤ mc ∧ ns + ms' ≤ ms) (hq : pc + 3 = q)
    (kk : ∀ (v : Option Value) (z' : Nat) (A' B' : List va_E), P' v z' A' B' → AW g M mc ms P X (kc + mc') (ns + ms') q L (v.toList ++ S) z' A' B') (kx : ∀ (E : String) (z' : Nat) (A' B' : List va_E), X' E z' A' B' → AX g M mc ms P X (kc + mc') (ns + ms') pc L E z' A' B') : AW g M mc ms P X kc ns pc L S0 z A B := by
  subst hq; subst hS0
  intro p l e s m args below meth c H locs ls C hH hS hl
  obtain ⟨hgw, hnest, hwd, hd, hnm, hret⟩ := cv
  have hts := C.2.2.2.2.2.2.1
  have hgw2 : gWord y = .code y.1 y.2.1 y.2.2.1 none := by rw [hgw, hret]
  have hcn : va_CN (gRm M mc ms) s args M.1.cls index y.1 host y.2.1 y.2.2.1 none (gWord y :: TG) (gRm y mc' ms') mc' ms' n := va_cnB n hts (tg_ws (hwd _ (by simp))) (by rw [hgw2]) rfl rfl (C.2.2.2.2.2.2.2.2.2.2.2.2.2.2.1.1 _ hnest) (hts _ (hwd _ (by simp))) hd hR
  exact a_run (vx_runIN (As := As) (rest := S) ⟨C.1, C.2.1, C.2.2.1, C.2.2.2.2.2.1, hts⟩ (hM l C.2.2.2.2.2.2.2.2.2.1) ⟨hcn, hnm, hts _ (hwd _ (by simp))⟩ ⟨gWd_blind, fun U hU hW => ⟨rfl, gWd_pre C.2.2.2.2.2.2.2.2.2.2 hH hS hU hW⟩⟩ rfl hn hl.1 rfl (lv_room hcat) d hf) hS (fun v z' A' B' H1 locs1 hp hH1 hS1 => kk v z' A' B' hp p l e s m args below meth c H1 locs1 ls C hH1 hS1 hl) (fun E ce q9 z' A' B' H1 locs1 hp hH1 hS1 h1 h2 h3 => kx E z' A' B' hp p l e s m args below meth c H1 locs1 ls S q9 ce C hH1 hS1 hl h1 h2 h3)
theorem a_objInit {b : Nat} (d : decode M.2.1 pc = .ok (.invokespecial index, 3)) (hw : ∀ w ∈ ([.methodLink M.1.cls index Lib.objectInit, .instanceMethod Lib.objectInit, .code Lib.objectInit ⟨#[0xb1]⟩ 1 none] : List Cond), w ∈ TG) (hR : 1 ≤ M.2.2.2.2.1 ∧ (S.map fun v => v.category).sum + 12 ≤ M.2.2.2.2.2.1) (hq : pc + 3 = q) (kk : AW g M mc ms P X kc ns q L S z A B) : AW g M mc ms P X kc ns pc L (.ref b :: S) z A B := by
  subst hq
  intro p l e s m args below meth c H locs ls C hH hS hl
  have hts := C.2.2.2.2.2.2.1
  refine W.objInit C.1 C.2.1 C.2.2.2.2.2.1 (hts _ (hw _ (by simp))) (hts _ (hw _ (by simp))) (hts _ (hw _ (by simp))) rfl (hl.1.trans C.2.2.1.symm) rfl d hR.1 ?_ (kk p l e s m args below meth c H locs ls C hH hS hl)
  have h0 : (F0 m pc ls (.ref b :: S)).monitorRoom = 0 := by
    simp [JFrame.monitorRoom]
  rw [h0]
  have := hR.2
  show 2 * 0 + _ + 12 ≤ M.2.2.2.2.2.1
  omega
theorem a_throw {ik is ic : Nat} {cls text : String} (d0 : decode M.2.1 pc = .ok (.new ik, 3)) (d3 : decode M.2.1 (pc + 3) = .ok (.dup, 1)) (d4 : decode M.2.1 (pc + 4) = .ok (.ldc is, 2)) (d6 : decode M.2.1 (pc + 6) = .ok (.invokespecial ic, 3)) (d9 : decode M.2.1 (pc + 9) = .ok (.athrow, 1)) (tw : tW M.1.cls ik is ic cls text) (hh : M.2.2.2.2.2.2 = []) (hR : 5 < M.2.2.2.2.1 ∧ (S.map fun v => v.category).sum + 82 ≤ M.2.2.2.2.2.1) (hf : kc + 1 ≤ mc ∧ ns + 6 ≤ ms) (hx : X cls 0 A B) : AW g M mc ms P X kc ns pc L S z A B := by
  intro p l e s m args below meth c H locs ls C hH hS hl
  obtain ⟨t1, t2, t3, t4, t5, t6, t7⟩ := tw
  have hts := C.2.2.2.2.2.2.1
  obtain ⟨-, ⟨hU, hN⟩, hst, -, ⟨-, hnd, hnc⟩, -⟩ := C.2.2.2.2.2.2.2.2.2.2
  obtain ⟨sa, hsa⟩ := hst _ t3
  refine vx_throwS (names := xNm) C.1 C.2.1 C.2.2.2.2.2.2.2.2.2.1 C.2.2.2.2.2.1 t4 (by decide) (hts _ t1) (hts _ t2) hsa (vx_hat (fun w hw => hts w (t5 w hw)) t6 (fun w hw => ?_)) t7 hU hN hS (hl.1.trans C.2.2.1.symm) d0 d3 d4 d6 d9 ?_ hR.1 hR.2 hf.1 hf.2 C.2.2.2.2.1 (fun t _ h1 h2 => ⟨⟨0, A, B, hx, ?_, hH.2.1, trivial⟩, Nat.le_trans hS.1 h1, fun q9 h3 h4 => (h2 q9 (Nat.lt_of_lt_of_le h3 hS.1)).trans (hS.2.1 q9 h3 h4)⟩) hS.2.2 hf.1 hf.2
  · unfold gNg at hw
    rcases List.mem_append.mp hw with h | h
    · obtain ⟨x9, h1, rfl⟩ := List.mem_map.mp h
      exact (hnd _ h1).use rfl
    · obtain ⟨x9, h1, rfl⟩ := List.mem_map.mp h
      exact (hnc _ h1).use rfl
  · intro x9 hx9
    rw [C.2.2.2.2.2.2.2.1, hh] at hx9
    cases hx9
  · exact hH.1.kept (fun k9 q9 hq9 => h2 _ (hH.1 k9 q9 hq9).lt)
theorem a_throwW {ik is ic : Nat} {cls text : String} (d0 : decode M.2.1 pc = .ok (.new ik, 3)) (d3 : decode M.2.1 (pc + 3) = .ok (.dup, 1)) (d4 : decode M.2.1 (pc + 4) = .ok (.ldc_w is, 3)) (d6 : decode M.2.1 (pc + 7) = .ok (.invokespecial ic, 3)) (d9 : decode M.2.1 (pc + 10) = .ok (.athrow, 1)) (tw : tW M.1.cls ik is ic cls text) (hh : M.2.2.2.2.2.2 = []) (hR : 5 < M.2.2.2.2.1 ∧ (S.map fun v => v.category).sum + 82 ≤ M.2.2.2.2.2.1) (hf : kc + 1 ≤ mc ∧ ns + 6 ≤ ms) (hx : X cls 0 A B) : AW g M mc ms P X kc ns pc L S z A B := by
  intro p l e s m args below meth c H locs ls C hH hS hl
  obtain ⟨t1, t2, t3, t4, t5, t6, t7⟩ := tw
  have hts := C.2.2.2.2.2.2.1
  obtain ⟨-, ⟨hU, hN⟩, hst, -, ⟨-, hnd, hnc⟩, -⟩ := C.2.2.2.2.2.2.2.2.2.2
  obtain ⟨sa, hsa⟩ := hst _ t3
  refine vx_throwSW (names := xNm) C.1 C.2.1 C.2.2.2.2.2.2.2.2.2.1 C.2.2.2.2.2.1 t4 (by decide) (hts _ t1) (hts _ t2) hsa (vx_hat (fun w hw => hts w (t5 w hw)) t6 (fun w hw => ?_)) t7 hU hN hS (hl.1.trans C.2.2.1.symm) d0 d3 d4 d6 d9 ?_ hR.1 hR.2 hf.1 hf.2 C.2.2.2.2.1 (fun t _ h1 h2 => ⟨⟨0, A, B, hx, ?_, hH.2.1, trivial⟩, Nat.le_trans hS.1 h1, fun q9 h3 h4 => (h2 q9 (Nat.lt_of_lt_of_le h3 hS.1)).trans (hS.2.1 q9 h3 h4)⟩) hS.2.2 hf.1 hf.2
  · unfold gNg at hw
    rcases List.mem_append.mp hw with h | h
    · obtain ⟨x9, h1, rfl⟩ := List.mem_map.mp h
      exact (hnd _ h1).use rfl
    · obtain ⟨x9, h1, rfl⟩ := List.mem_map.mp h
      exact (hnc _ h1).use rfl
  · intro x9 hx9
    rw [C.2.2.2.2.2.2.2.1, hh] at hx9
    cases hx9
  · exact hH.1.kept (fun k9 q9 hq9 => h2 _ (hH.1 k9 q9 hq9).lt)
/-- thrown through: no handler -/
theorem ax_out {E : String} (hh : M.2.2.2.2.2.2 = []) (hk : kc ≤ mc) (hs : ns ≤ ms) (hx : X E z A B) : AX g M mc ms P X kc ns pc L E z A B := by
  intro p l e s m args below meth c H locs ls rest q ce C hH hS hl h1 h2 h3
  refine vx_out (fun x9 hx9 => ?_) C.2.2.2.2.1 h1 h2 h3 (fun t ht _ => ⟨⟨z, A, B, hx, by rw [ht]; exact hH⟩, hS.F ht⟩) hS.2.2 hk hs
  rw [C.2.2.2.2.2.2.2.1, hh] at hx9
  cases hx9
/-- caught: the handler begins with a store of the exception, which nobody reads -/
theorem ax_catch {E : String} {i : Fin 4} {j : Nat} {t : Nat} (pre : List (Nat × Nat × Nat × Nat)) (x : Nat × Nat × Nat × Nat) (suf : List (Nat × Nat × Nat × Nat)) (hsp : tableOf M.2.2.2.2.2.2 = tableOf pre ++ tableOf [x] ++ tableOf suf) (hpass : ∀ y ∈ tableOf pre, y.catchType ≠ 0 ∧ ∃ nm : String, Cond.classLink M.1.cls y.catchType nm ∈ TG ∧ (E, nm) ∈ gXn) (x1 : ExceptionTableEntry) (hx1 : tableOf [x] = [x1]) (hcov : covers x1 pc = true) (h0 : x1.catchType ≠ 0) (hlk : Cond.classLink M.1.cls x1.catchType E ∈ TG) (hcast : (E, E) ∈ gNc) (ht : x1.handlerPc = t) (d : decode M.2.1 t = .ok (.astore_n i, 1)) (hi : (i : Nat) = j) (hj : j < M.2.2.1) (hq : t + 1 = q) (k : AW g M mc ms P X kc ns q ((lKl L j).set j none) [] z A B) : AX g M mc ms P X kc ns pc L E z A B := by
  subst hq
  intro p l e s m args below meth c H locs ls rest q ce C hH hS hl h1 h2 h3
  have hts := C.2.2.2.2.2.2.1
  obtain ⟨-, -, -, hxn, ⟨-, -, hnc⟩, -⟩ := C.2.2.2.2.2.2.2.2.2.2
  refine vx_catch (ls := ls) C.2.2.2.2.2.1 (tableOf pre) x1 (tableOf suf) ?_ (fun y hy => ?_) hcov h0 (hts _ hlk) ((hnc _ hcast).use rfl) h1 h2 h3 ?_
  · rw [C.2.2.2.2.2.2.2.1, hsp, hx1, List.append_assoc]; rfl
  · obtain ⟨a1, nm, a2, a3⟩ := hpass y hy
    exact Or.inr ⟨a1, nm, hts _ a2, hxn _ a3⟩
  · rw [ht]
    refine lv_astore_n C.1 C.2.1 d hi hl.has hj rfl (fun ls2 hl2 => k p l e s m args below meth c H locs ls2 C hH hS ?_)
    have h9 := LR.of1 (v := .ref q) hl2
    refine ⟨h9.1, h9.2.1, fun i9 v9 hi9 => ?_⟩
    by_cases e9 : i9 = j
    · subst e9
      have hlt := (List.getElem?_eq_some_iff.mp hi9).1
      rw [List.length_set] at hlt
      rw [List.getElem?_set_self hlt] at hi9
      cases hi9
    · rw [List.getElem?_set_ne (Ne.symm e9)] at hi9
      refine h9.2.2 i9 v9 ?_
      unfold lS1
      rw [List.getElem?_set_ne (Ne.symm e9)]
      exact hi9
theorem ax_no {E : String} (h : False) : AX g M mc ms P X kc ns pc L E z A B := h.elim
end Calls2
end
