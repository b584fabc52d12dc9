section
-- ===== PART A: goes FIRST, ahead of the names: the tables' words, and 'selects' of the private methods out of them =====
/-- a private method of a class that the tables say can be made, by its rows of tables_1 -/
def lw_okq (q : MethodName × Nat) : Prop := (q.1.cls ≠ "java/lang/invoke/MethodHandle" ∧ q.1.cls ≠ "java/lang/invoke/VarHandle") ∧ Cond.instantiable q.1.cls q.2 ∈ tables_1 ∧ Cond.privateMethod q.1 ∈ tables_1 ∧ Cond.instanceMethod q.1 ∈ tables_1
theorem lw_p0 : lw_okq (⟨"Gridpuzzle$Board", "findRuns", "()V"⟩, 9) := ⟨⟨by decide +kernel, by decide +kernel⟩, List.mem_of_getElem? (i := 24) (by decide +kernel), List.mem_of_getElem? (i := 113) (by decide +kernel), List.mem_of_getElem? (i := 114) (by decide +kernel)⟩
theorem lw_p1 : lw_okq (⟨"Gridpuzzle$Board", "findRunsOfLine", "(II)V"⟩, 9) := ⟨⟨by decide +kernel, by decide +kernel⟩, List.mem_of_getElem? (i := 24) (by decide +kernel), List.mem_of_getElem? (i := 117) (by decide +kernel), List.mem_of_getElem? (i := 118) (by decide +kernel)⟩
theorem lw_p2 : lw_okq (⟨"Gridpuzzle$Board", "addRun", "(III)V"⟩, 9) := ⟨⟨by decide +kernel, by decide +kernel⟩, List.mem_of_getElem? (i := 24) (by decide +kernel), List.mem_of_getElem? (i := 132) (by decide +kernel), List.mem_of_getElem? (i := 133) (by decide +kernel)⟩
theorem lw_p3 : lw_okq (⟨"Gridpuzzle$Solving", "start", "()V"⟩, 5) := ⟨⟨by decide +kernel, by decide +kernel⟩, List.mem_of_getElem? (i := 84) (by decide +kernel), List.mem_of_getElem? (i := 173) (by decide +kernel), List.mem_of_getElem? (i := 174) (by decide +kernel)⟩
theorem lw_p4 : lw_okq (⟨"Gridpuzzle$Solving", "firstSetOf", "(I)I"⟩, 5) := ⟨⟨by decide +kernel, by decide +kernel⟩, List.mem_of_getElem? (i := 84) (by decide +kernel), List.mem_of_getElem? (i := 177) (by decide +kernel), List.mem_of_getElem? (i := 178) (by decide +kernel)⟩
theorem lw_p5 : lw_okq (⟨"Gridpuzzle$Solving", "goThrough", "(I)V"⟩, 5) := ⟨⟨by decide +kernel, by decide +kernel⟩, List.mem_of_getElem? (i := 84) (by decide +kernel), List.mem_of_getElem? (i := 191) (by decide +kernel), List.mem_of_getElem? (i := 192) (by decide +kernel)⟩
theorem lw_p6 : lw_okq (⟨"Gridpuzzle$Solving", "takeSingles", "(I)V"⟩, 5) := ⟨⟨by decide +kernel, by decide +kernel⟩, List.mem_of_getElem? (i := 84) (by decide +kernel), List.mem_of_getElem? (i := 196) (by decide +kernel), List.mem_of_getElem? (i := 197) (by decide +kernel)⟩
theorem lw_p7 : lw_okq (⟨"Gridpuzzle$Solving", "take", "(II)V"⟩, 5) := ⟨⟨by decide +kernel, by decide +kernel⟩, List.mem_of_getElem? (i := 84) (by decide +kernel), List.mem_of_getElem? (i := 218) (by decide +kernel), List.mem_of_getElem? (i := 219) (by decide +kernel)⟩
theorem lw_p8 : lw_okq (⟨"Gridpuzzle$Solving", "takeOutsideSets", "(I)V"⟩, 5) := ⟨⟨by decide +kernel, by decide +kernel⟩, List.mem_of_getElem? (i := 84) (by decide +kernel), List.mem_of_getElem? (i := 226) (by decide +kernel), List.mem_of_getElem? (i := 227) (by decide +kernel)⟩
theorem lw_p9 : lw_okq (⟨"Gridpuzzle$Solving", "takeUnfit", "(I)V"⟩, 5) := ⟨⟨by decide +kernel, by decide +kernel⟩, List.mem_of_getElem? (i := 84) (by decide +kernel), List.mem_of_getElem? (i := 236) (by decide +kernel), List.mem_of_getElem? (i := 237) (by decide +kernel)⟩
theorem lw_p10 : lw_okq (⟨"Gridpuzzle$Solving", "hasEmptyCell", "()Z"⟩, 5) := ⟨⟨by decide +kernel, by decide +kernel⟩, List.mem_of_getElem? (i := 84) (by decide +kernel), List.mem_of_getElem? (i := 246) (by decide +kernel), List.mem_of_getElem? (i := 247) (by decide +kernel)⟩
theorem lw_p11 : lw_okq (⟨"java/lang/Throwable", "fillInStackTrace", "(I)Ljava/lang/Throwable;"⟩, 6) := ⟨⟨by decide +kernel, by decide +kernel⟩, List.mem_of_getElem? (i := 322) (by decide +kernel), List.mem_of_getElem? (i := 320) (by decide +kernel), List.mem_of_getElem? (i := 321) (by decide +kernel)⟩
theorem lw_p12 : lw_okq (⟨"Gridpuzzle", "needCell", "(I)V"⟩, 3) := ⟨⟨by decide +kernel, by decide +kernel⟩, List.mem_of_getElem? (i := 16) (by decide +kernel), List.mem_of_getElem? (i := 360) (by decide +kernel), List.mem_of_getElem? (i := 361) (by decide +kernel)⟩
theorem lw_p13 : lw_okq (⟨"Gridpuzzle", "needRun", "(I)V"⟩, 3) := ⟨⟨by decide +kernel, by decide +kernel⟩, List.mem_of_getElem? (i := 16) (by decide +kernel), List.mem_of_getElem? (i := 439) (by decide +kernel), List.mem_of_getElem? (i := 440) (by decide +kernel)⟩
theorem lw_p14 : lw_okq (⟨"Gridpuzzle$Board", "hasTwice", "(I[I)Z"⟩, 9) := ⟨⟨by decide +kernel, by decide +kernel⟩, List.mem_of_getElem? (i := 24) (by decide +kernel), List.mem_of_getElem? (i := 475) (by decide +kernel), List.mem_of_getElem? (i := 476) (by decide +kernel)⟩
theorem lw_p15 : lw_okq (⟨"Gridpuzzle$Board", "totalOf", "(I[I)I"⟩, 9) := ⟨⟨by decide +kernel, by decide +kernel⟩, List.mem_of_getElem? (i := 24) (by decide +kernel), List.mem_of_getElem? (i := 486) (by decide +kernel), List.mem_of_getElem? (i := 487) (by decide +kernel)⟩
def lw_privs_1 : List (MethodName × Nat) := [(⟨"Gridpuzzle$Board", "findRuns", "()V"⟩, 9), (⟨"Gridpuzzle$Board", "findRunsOfLine", "(II)V"⟩, 9), (⟨"Gridpuzzle$Board", "addRun", "(III)V"⟩, 9), (⟨"Gridpuzzle$Solving", "start", "()V"⟩, 5), (⟨"Gridpuzzle$Solving", "firstSetOf", "(I)I"⟩, 5), (⟨"Gridpuzzle$Solving", "goThrough", "(I)V"⟩, 5), (⟨"Gridpuzzle$Solving", "takeSingles", "(I)V"⟩, 5), (⟨"Gridpuzzle$Solving", "take", "(II)V"⟩, 5), (⟨"Gridpuzzle$Solving", "takeOutsideSets", "(I)V"⟩, 5), (⟨"Gridpuzzle$Solving", "takeUnfit", "(I)V"⟩, 5), (⟨"Gridpuzzle$Solving", "hasEmptyCell", "()Z"⟩, 5), (⟨"java/lang/Throwable", "fillInStackTrace", "(I)Ljava/lang/Throwable;"⟩, 6), (⟨"Gridpuzzle", "needCell", "(I)V"⟩, 3), (⟨"Gridpuzzle", "needRun", "(I)V"⟩, 3), (⟨"Gridpuzzle$Board", "hasTwice", "(I[I)Z"⟩, 9), (⟨"Gridpuzzle$Board", "totalOf", "(I[I)I"⟩, 9)]
theorem lw_r1 : ∀ q ∈ lw_privs_1, lw_okq q := List.forall_mem_cons.mpr ⟨lw_p0, List.forall_mem_cons.mpr ⟨lw_p1, List.forall_mem_cons.mpr ⟨lw_p2, List.forall_mem_cons.mpr ⟨lw_p3, List.forall_mem_cons.mpr ⟨lw_p4, List.forall_mem_cons.mpr ⟨lw_p5, List.forall_mem_cons.mpr ⟨lw_p6, List.forall_mem_cons.mpr ⟨lw_p7, List.forall_mem_cons.mpr ⟨lw_p8, List.forall_mem_cons.mpr ⟨lw_p9, List.forall_mem_cons.mpr ⟨lw_p10, List.forall_mem_cons.mpr ⟨lw_p11, List.forall_mem_cons.mpr ⟨lw_p12, List.forall_mem_cons.mpr ⟨lw_p13, List.forall_mem_cons.mpr ⟨lw_p14, List.forall_mem_cons.mpr ⟨lw_p15, fun _ h => absurd h List.not_mem_nil⟩⟩⟩⟩⟩⟩⟩⟩⟩⟩⟩⟩⟩⟩⟩⟩
theorem lw_p16 : lw_okq (⟨"Gridpuzzle$Trying", "start", "()V"⟩, 6) := ⟨⟨by decide +kernel, by decide +kernel⟩, List.mem_of_getElem? (i := 59) (by decide +kernel), List.mem_of_getElem? (i := 535) (by decide +kernel), List.mem_of_getElem? (i := 536) (by decide +kernel)⟩
theorem lw_p17 : lw_okq (⟨"Gridpuzzle$Trying", "tryNext", "(I)Z"⟩, 6) := ⟨⟨by decide +kernel, by decide +kernel⟩, List.mem_of_getElem? (i := 59) (by decide +kernel), List.mem_of_getElem? (i := 549) (by decide +kernel), List.mem_of_getElem? (i := 550) (by decide +kernel)⟩
theorem lw_p18 : lw_okq (⟨"Gridpuzzle$Trying", "suits", "(II)Z"⟩, 6) := ⟨⟨by decide +kernel, by decide +kernel⟩, List.mem_of_getElem? (i := 59) (by decide +kernel), List.mem_of_getElem? (i := 557) (by decide +kernel), List.mem_of_getElem? (i := 558) (by decide +kernel)⟩
theorem lw_p19 : lw_okq (⟨"Gridpuzzle$Trying", "keepFirstAnswer", "()V"⟩, 6) := ⟨⟨by decide +kernel, by decide +kernel⟩, List.mem_of_getElem? (i := 59) (by decide +kernel), List.mem_of_getElem? (i := 568) (by decide +kernel), List.mem_of_getElem? (i := 569) (by decide +kernel)⟩
theorem lw_p20 : lw_okq (⟨"Gridpuzzle$Trying", "backFrom", "(I)I"⟩, 6) := ⟨⟨by decide +kernel, by decide +kernel⟩, List.mem_of_getElem? (i := 59) (by decide +kernel), List.mem_of_getElem? (i := 572) (by decide +kernel), List.mem_of_getElem? (i := 573) (by decide +kernel)⟩
theorem lw_p21 : lw_okq (⟨"Gridpuzzle$Trying", "fillBy", "(I)V"⟩, 6) := ⟨⟨by decide +kernel, by decide +kernel⟩, List.mem_of_getElem? (i := 59) (by decide +kernel), List.mem_of_getElem? (i := 589) (by decide +kernel), List.mem_of_getElem? (i := 590) (by decide +kernel)⟩
theorem lw_p22 : lw_okq (⟨"GridpuzzleModel", "layRuns", "()V"⟩, 18) := ⟨⟨by decide +kernel, by decide +kernel⟩, List.mem_of_getElem? (i := 621) (by decide +kernel), List.mem_of_getElem? (i := 627) (by decide +kernel), List.mem_of_getElem? (i := 628) (by decide +kernel)⟩
theorem lw_p23 : lw_okq (⟨"GridpuzzleModel", "goesWell", "(I)Z"⟩, 18) := ⟨⟨by decide +kernel, by decide +kernel⟩, List.mem_of_getElem? (i := 621) (by decide +kernel), List.mem_of_getElem? (i := 698) (by decide +kernel), List.mem_of_getElem? (i := 699) (by decide +kernel)⟩
theorem lw_p24 : lw_okq (⟨"GridpuzzleModel", "isCell", "(I)Z"⟩, 18) := ⟨⟨by decide +kernel, by decide +kernel⟩, List.mem_of_getElem? (i := 621) (by decide +kernel), List.mem_of_getElem? (i := 706) (by decide +kernel), List.mem_of_getElem? (i := 707) (by decide +kernel)⟩
theorem lw_p25 : lw_okq (⟨"GridpuzzleModel", "turn", "(I)V"⟩, 18) := ⟨⟨by decide +kernel, by decide +kernel⟩, List.mem_of_getElem? (i := 621) (by decide +kernel), List.mem_of_getElem? (i := 710) (by decide +kernel), List.mem_of_getElem? (i := 711) (by decide +kernel)⟩
theorem lw_p26 : lw_okq (⟨"GridpuzzleModel", "countOpen", "()I"⟩, 18) := ⟨⟨by decide +kernel, by decide +kernel⟩, List.mem_of_getElem? (i := 621) (by decide +kernel), List.mem_of_getElem? (i := 718) (by decide +kernel), List.mem_of_getElem? (i := 719) (by decide +kernel)⟩
theorem lw_p27 : lw_okq (⟨"GridpuzzleModel", "isOpen", "(I)Z"⟩, 18) := ⟨⟨by decide +kernel, by decide +kernel⟩, List.mem_of_getElem? (i := 621) (by decide +kernel), List.mem_of_getElem? (i := 722) (by decide +kernel), List.mem_of_getElem? (i := 723) (by decide +kernel)⟩
theorem lw_p28 : lw_okq (⟨"GridpuzzleModel", "isRun", "(I)Z"⟩, 18) := ⟨⟨by decide +kernel, by decide +kernel⟩, List.mem_of_getElem? (i := 621) (by decide +kernel), List.mem_of_getElem? (i := 734) (by decide +kernel), List.mem_of_getElem? (i := 735) (by decide +kernel)⟩
theorem lw_p29 : lw_okq (⟨"GridpuzzleModel", "copyGiven", "()V"⟩, 18) := ⟨⟨by decide +kernel, by decide +kernel⟩, List.mem_of_getElem? (i := 621) (by decide +kernel), List.mem_of_getElem? (i := 742) (by decide +kernel), List.mem_of_getElem? (i := 743) (by decide +kernel)⟩
theorem lw_p30 : lw_okq (⟨"GridpuzzleModel", "isUnlike", "(I)Z"⟩, 18) := ⟨⟨by decide +kernel, by decide +kernel⟩, List.mem_of_getElem? (i := 621) (by decide +kernel), List.mem_of_getElem? (i := 746) (by decide +kernel), List.mem_of_getElem? (i := 747) (by decide +kernel)⟩
theorem lw_p31 : lw_okq (⟨"GridpuzzleModel", "cellOf", "(II)I"⟩, 18) := ⟨⟨by decide +kernel, by decide +kernel⟩, List.mem_of_getElem? (i := 621) (by decide +kernel), List.mem_of_getElem? (i := 750) (by decide +kernel), List.mem_of_getElem? (i := 751) (by decide +kernel)⟩
def lw_privs_2 : List (MethodName × Nat) := [(⟨"Gridpuzzle$Trying", "start", "()V"⟩, 6), (⟨"Gridpuzzle$Trying", "tryNext", "(I)Z"⟩, 6), (⟨"Gridpuzzle$Trying", "suits", "(II)Z"⟩, 6), (⟨"Gridpuzzle$Trying", "keepFirstAnswer", "()V"⟩, 6), (⟨"Gridpuzzle$Trying", "backFrom", "(I)I"⟩, 6), (⟨"Gridpuzzle$Trying", "fillBy", "(I)V"⟩, 6), (⟨"GridpuzzleModel", "layRuns", "()V"⟩, 18), (⟨"GridpuzzleModel", "goesWell", "(I)Z"⟩, 18), (⟨"GridpuzzleModel", "isCell", "(I)Z"⟩, 18), (⟨"GridpuzzleModel", "turn", "(I)V"⟩, 18), (⟨"GridpuzzleModel", "countOpen", "()I"⟩, 18), (⟨"GridpuzzleModel", "isOpen", "(I)Z"⟩, 18), (⟨"GridpuzzleModel", "isRun", "(I)Z"⟩, 18), (⟨"GridpuzzleModel", "copyGiven", "()V"⟩, 18), (⟨"GridpuzzleModel", "isUnlike", "(I)Z"⟩, 18), (⟨"GridpuzzleModel", "cellOf", "(II)I"⟩, 18)]
theorem lw_r2 : ∀ q ∈ lw_privs_2, lw_okq q := List.forall_mem_cons.mpr ⟨lw_p16, List.forall_mem_cons.mpr ⟨lw_p17, List.forall_mem_cons.mpr ⟨lw_p18, List.forall_mem_cons.mpr ⟨lw_p19, List.forall_mem_cons.mpr ⟨lw_p20, List.forall_mem_cons.mpr ⟨lw_p21, List.forall_mem_cons.mpr ⟨lw_p22, List.forall_mem_cons.mpr ⟨lw_p23, List.forall_mem_cons.mpr ⟨lw_p24, List.forall_mem_cons.mpr ⟨lw_p25, List.forall_mem_cons.mpr ⟨lw_p26, List.forall_mem_cons.mpr ⟨lw_p27, List.forall_mem_cons.mpr ⟨lw_p28, List.forall_mem_cons.mpr ⟨lw_p29, List.forall_mem_cons.mpr ⟨lw_p30, List.forall_mem_cons.mpr ⟨lw_p31, fun _ h => absurd h List.not_mem_nil⟩⟩⟩⟩⟩⟩⟩⟩⟩⟩⟩⟩⟩⟩⟩⟩
theorem lw_p32 : lw_okq (⟨"GridpuzzleModel", "sumUp", "(I)I"⟩, 18) := ⟨⟨by decide +kernel, by decide +kernel⟩, List.mem_of_getElem? (i := 621) (by decide +kernel), List.mem_of_getElem? (i := 754) (by decide +kernel), List.mem_of_getElem? (i := 755) (by decide +kernel)⟩
theorem lw_p33 : lw_okq (⟨"GridpuzzleModel", "attempt", "(I)I"⟩, 18) := ⟨⟨by decide +kernel, by decide +kernel⟩, List.mem_of_getElem? (i := 621) (by decide +kernel), List.mem_of_getElem? (i := 786) (by decide +kernel), List.mem_of_getElem? (i := 787) (by decide +kernel)⟩
theorem lw_p34 : lw_okq (⟨"GridpuzzleModel", "layTried", "()V"⟩, 18) := ⟨⟨by decide +kernel, by decide +kernel⟩, List.mem_of_getElem? (i := 621) (by decide +kernel), List.mem_of_getElem? (i := 790) (by decide +kernel), List.mem_of_getElem? (i := 791) (by decide +kernel)⟩
theorem lw_p35 : lw_okq (⟨"GridpuzzleModel", "isAnswer", "()Z"⟩, 18) := ⟨⟨by decide +kernel, by decide +kernel⟩, List.mem_of_getElem? (i := 621) (by decide +kernel), List.mem_of_getElem? (i := 794) (by decide +kernel), List.mem_of_getElem? (i := 795) (by decide +kernel)⟩
theorem lw_p36 : lw_okq (⟨"GridpuzzleModel", "isGood", "(II)Z"⟩, 18) := ⟨⟨by decide +kernel, by decide +kernel⟩, List.mem_of_getElem? (i := 621) (by decide +kernel), List.mem_of_getElem? (i := 798) (by decide +kernel), List.mem_of_getElem? (i := 799) (by decide +kernel)⟩
theorem lw_p37 : lw_okq (⟨"GridpuzzleModel", "has", "(II)Z"⟩, 18) := ⟨⟨by decide +kernel, by decide +kernel⟩, List.mem_of_getElem? (i := 621) (by decide +kernel), List.mem_of_getElem? (i := 802) (by decide +kernel), List.mem_of_getElem? (i := 803) (by decide +kernel)⟩
theorem lw_p38 : lw_okq (⟨"GridpuzzleModel", "keep", "(I)V"⟩, 18) := ⟨⟨by decide +kernel, by decide +kernel⟩, List.mem_of_getElem? (i := 621) (by decide +kernel), List.mem_of_getElem? (i := 806) (by decide +kernel), List.mem_of_getElem? (i := 807) (by decide +kernel)⟩
theorem lw_p39 : lw_okq (⟨"GridpuzzleModel", "solve", "(I)V"⟩, 18) := ⟨⟨by decide +kernel, by decide +kernel⟩, List.mem_of_getElem? (i := 621) (by decide +kernel), List.mem_of_getElem? (i := 822) (by decide +kernel), List.mem_of_getElem? (i := 823) (by decide +kernel)⟩
theorem lw_p40 : lw_okq (⟨"GridpuzzleModel", "goThroughSingles", "()V"⟩, 18) := ⟨⟨by decide +kernel, by decide +kernel⟩, List.mem_of_getElem? (i := 621) (by decide +kernel), List.mem_of_getElem? (i := 826) (by decide +kernel), List.mem_of_getElem? (i := 827) (by decide +kernel)⟩
theorem lw_p41 : lw_okq (⟨"GridpuzzleModel", "take", "(II)V"⟩, 18) := ⟨⟨by decide +kernel, by decide +kernel⟩, List.mem_of_getElem? (i := 621) (by decide +kernel), List.mem_of_getElem? (i := 833) (by decide +kernel), List.mem_of_getElem? (i := 834) (by decide +kernel)⟩
theorem lw_p42 : lw_okq (⟨"GridpuzzleModel", "goThroughSets", "()V"⟩, 18) := ⟨⟨by decide +kernel, by decide +kernel⟩, List.mem_of_getElem? (i := 621) (by decide +kernel), List.mem_of_getElem? (i := 837) (by decide +kernel), List.mem_of_getElem? (i := 838) (by decide +kernel)⟩
theorem lw_p43 : lw_okq (⟨"GridpuzzleModel", "goThroughRows", "()V"⟩, 18) := ⟨⟨by decide +kernel, by decide +kernel⟩, List.mem_of_getElem? (i := 621) (by decide +kernel), List.mem_of_getElem? (i := 847) (by decide +kernel), List.mem_of_getElem? (i := 848) (by decide +kernel)⟩
theorem lw_p44 : lw_okq (⟨"GridpuzzleModel", "canBe", "(III)Z"⟩, 18) := ⟨⟨by decide +kernel, by decide +kernel⟩, List.mem_of_getElem? (i := 621) (by decide +kernel), List.mem_of_getElem? (i := 851) (by decide +kernel), List.mem_of_getElem? (i := 852) (by decide +kernel)⟩
theorem lw_p45 : lw_okq (⟨"GridpuzzleModel", "isDead", "()Z"⟩, 18) := ⟨⟨by decide +kernel, by decide +kernel⟩, List.mem_of_getElem? (i := 621) (by decide +kernel), List.mem_of_getElem? (i := 855) (by decide +kernel), List.mem_of_getElem? (i := 856) (by decide +kernel)⟩
theorem lw_p46 : lw_okq (⟨"GridpuzzleModel", "find", "(I)I"⟩, 18) := ⟨⟨by decide +kernel, by decide +kernel⟩, List.mem_of_getElem? (i := 621) (by decide +kernel), List.mem_of_getElem? (i := 867) (by decide +kernel), List.mem_of_getElem? (i := 868) (by decide +kernel)⟩
def lw_privs_3 : List (MethodName × Nat) := [(⟨"GridpuzzleModel", "sumUp", "(I)I"⟩, 18), (⟨"GridpuzzleModel", "attempt", "(I)I"⟩, 18), (⟨"GridpuzzleModel", "layTried", "()V"⟩, 18), (⟨"GridpuzzleModel", "isAnswer", "()Z"⟩, 18), (⟨"GridpuzzleModel", "isGood", "(II)Z"⟩, 18), (⟨"GridpuzzleModel", "has", "(II)Z"⟩, 18), (⟨"GridpuzzleModel", "keep", "(I)V"⟩, 18), (⟨"GridpuzzleModel", "solve", "(I)V"⟩, 18), (⟨"GridpuzzleModel", "goThroughSingles", "()V"⟩, 18), (⟨"GridpuzzleModel", "take", "(II)V"⟩, 18), (⟨"GridpuzzleModel", "goThroughSets", "()V"⟩, 18), (⟨"GridpuzzleModel", "goThroughRows", "()V"⟩, 18), (⟨"GridpuzzleModel", "canBe", "(III)Z"⟩, 18), (⟨"GridpuzzleModel", "isDead", "()Z"⟩, 18), (⟨"GridpuzzleModel", "find", "(I)I"⟩, 18)]
theorem lw_r3 : ∀ q ∈ lw_privs_3, lw_okq q := List.forall_mem_cons.mpr ⟨lw_p32, List.forall_mem_cons.mpr ⟨lw_p33, List.forall_mem_cons.mpr ⟨lw_p34, List.forall_mem_cons.mpr ⟨lw_p35, List.forall_mem_cons.mpr ⟨lw_p36, List.forall_mem_cons.mpr ⟨lw_p37, List.forall_mem_cons.mpr ⟨lw_p38, List.forall_mem_cons.mpr ⟨lw_p39, List.forall_mem_cons.mpr ⟨lw_p40, List.forall_mem_cons.mpr ⟨lw_p41, List.forall_mem_cons.mpr ⟨lw_p42, List.forall_mem_cons.mpr ⟨lw_p43, List.forall_mem_cons.mpr ⟨lw_p44, List.forall_mem_cons.mpr ⟨lw_p45, List.forall_mem_cons.mpr ⟨lw_p46, fun _ h => absurd h List.not_mem_nil⟩⟩⟩⟩⟩⟩⟩⟩⟩⟩⟩⟩⟩⟩⟩
def lw_privs : List (MethodName × Nat) := lw_privs_1 ++ (lw_privs_2 ++ (lw_privs_3))
def lw_tbl : List Cond := k2_sels lw_privs ++ tables_1
theorem lw_privs_ok : ∀ q ∈ lw_privs, lw_okq q := by
  show ∀ q ∈ lw_privs_1 ++ (lw_privs_2 ++ (lw_privs_3)), lw_okq q
  exact List.forall_mem_append.mpr ⟨lw_r1, List.forall_mem_append.mpr ⟨lw_r2, lw_r3⟩⟩
end
section
/-! ===== BEGIN words of one list among another's, by their places ===== -/
theorem goodIn_r {big : List Cond} (ws : List Cond) (ps : List Nat) (hp : ws = ps.filterMap (fun i => big[i]?)) (h : ws.all goodWord = true) : GoodIn big ws := by
  intro w hw
  have h1 := List.all_eq_true.mp h w hw
  rw [hp] at hw
  obtain ⟨i, -, hi⟩ := List.mem_filterMap.mp hw
  have hm : w ∈ big := by first | exact List.mem_of_getElem? hi | exact List.getElem?_mem hi
  exact ⟨hm, good_of_word h1⟩
theorem goodIn_app {big a b : List Cond} (ha : GoodIn big a) (hb : GoodIn big b) : GoodIn big (a ++ b) := fun w h => (List.mem_append.mp h).elim (ha w) (hb w)
theorem goodIn_ca {big a b : List Cond} {c : Cond} (ha : GoodIn big (c :: a)) (hb : GoodIn big b) : GoodIn big (c :: (a ++ b)) := fun w h => (List.mem_cons.mp h).elim (fun e => ha w (List.mem_cons.mpr (Or.inl e))) (fun h => (List.mem_append.mp h).elim (fun h => ha w (List.mem_cons.mpr (Or.inr h))) (hb w))
theorem goodIn_sub {big ws : List Cond} (hm : ∀ w ∈ ws, w ∈ big) (h : ws.all goodWord = true) : GoodIn big ws := fun w hw => ⟨hm w hw, good_of_word (List.all_eq_true.mp h w hw)⟩
/-! ===== END ===== -/

/-! ===== BEGIN exceptions that leave a method, and their catching by the caller (launches without stack traces) ===== -/
section VXA
/-! The laws vx_back, vx_callV, vx_callS, vx_callSW, vx_throw0, vx_throwS follow proofs of the library, with one case more: JvmDerived/Free/Laws.lean (Back.of_free), Shelf42/LK1.lean (callV, callS), Shelf/KitTraced.lean (throwNew0V, throwNewS). -/
/-- where a method has thrown q: the class by its name, the cell, what was written, the world -/
def vx_T (XC : String → State → State → Prop) (st : State) (q : Addr) (t : State) (mc ms : Nat) (free : Addr → Prop) : Prop :=
  ∃ (E : String) (ce : Cell) (L : List Loc), XC E st t ∧ t.heap[q]? = some ce ∧ ce.vm = .none ∧ st.vm.findClass E = some ce.cls ∧ st.WarmedH t.vm ∧ st.sameButNew ({ t with vm := st.vm } : State) L mc ms ∧ ∀ z ∈ L, free z.base
def vx_Q (Qc : Array Value → State → Outcome → State → Prop) (XC : String → State → State → Prop) (mc ms : Nat) (free : Addr → Prop) : Array Value → State → Outcome → State → Prop := fun a st o t =>
  (Qc a st o t ∧ ∃ L, FrameEnd st o t L mc ms ∧ ∀ q ∈ L, free q.base) ∨ ∃ q, o = .threw q ∧ vx_T XC st q t mc ms free
/-- a callee that returns or throws -/
def vx_Met (l : Launch) (y : MethodName) (ws : List Cond) (rm : Room) (Pc : Array Value → State → Prop) (Qc : Array Value → State → Outcome → State → Prop) (XC : String → State → State → Prop) (mc ms : Nat) (free : Addr → Prop) : Prop :=
  MetFree l y (headSpec ws rm) Pc (fun _ _ _ _ _ => True) (vx_Q Qc XC mc ms free)
def vx_Post (XC : String → State → State → Prop) (mc ms : Nat) (free : Addr → Prop) : Pt → Array Value → Addr → Pt → Prop := fun A a q B =>
  ∃ (g : JFrame) (mk : MethodId) (t : State) (L : List Loc) (E : String) (ce : Cell), B.U.heap = t.heap ∧ B.U.vm = t.vm ∧ XC E (A.U.calling g mk a) t ∧ t.heap[q]? = some ce ∧ ce.vm = .none ∧ A.U.vm.findClass E = some ce.cls ∧ B.locs = A.locs ++ L ∧ (∀ z ∈ L, free z.base) ∧ B.cells = A.cells + mc ∧ B.slots = A.slots + ms
def vx_Back (l : Launch) (R : Room) (p : Program) (e : Env) (below : List Frame) (s : State) (sargs : Array Value) (y : MethodName) (len W9 : Nat)
    (Pre : Pt → Array Value → Prop) (Post : Pt → Array Value → Option Value → Pt → Prop) (PostX : Pt → Array Value → Addr → Pt → Prop) : Prop :=
  ∀ (m : MethodId) (meth : Method) (c : Code) (A : Pt) (g : JFrame) (ig : Instr) (mk : MethodId) (a : Array Value),
    Stand p l e R s m sargs below meth c A.U A.locs A.cells A.slots → g.method = m → g.locals.size = c.maxLocals → decode c.code g.pc = .ok (ig, len) →
    2 * g.monitorRoom + (g.stack.map fun v => v.category).sum ≤ W9 → A.U.methodNamed? y = some mk → Pre A a →
    (∃ (v : Option Value) (B : Pt), Stand p l e R s m sargs below meth c B.U B.locs B.cells B.slots ∧ Post A a v B ∧
      Steps p.tables e below (doInvoke e (A.U.setTop g) [] mk a).1 (B.U.setTop { g with pc := g.pc + len, stack := v.toList ++ g.stack })) ∨
    (∃ (q : Addr) (B : Pt), Stand p l e R s m sargs below meth c B.U B.locs B.cells B.slots ∧ PostX A a q B ∧
      Steps p.tables e below (doInvoke e (A.U.setTop g) [] mk a).1 ((B.U.setTop g).pushFrame (.throwing q)))
section Payer
variable {l : Launch} {R : Room} {p : Program} {e : Env} {below : List Frame} {s : State} {sargs : Array Value} {y : MethodName} {len W9 : Nat}
theorem vx_back {ws : List Cond} {rm : Room} {Pc : Array Value → State → Prop} {Qc : Array Value → State → Outcome → State → Prop} {XC : String → State → State → Prop} {mc ms : Nat} {free : Addr → Prop} {bytes : ByteArray} {maxL : Nat} {ret : Option FieldType}
    (hM : vx_Met l y ws rm Pc Qc XC mc ms free) (hblind : FrameBlind Pc) (hrc : rm.cells = mc) (hrs : rm.slots = ms)
    (hframes : rm.frames + 1 ≤ R.frames) (hlocals : W9 + (maxL + 11) + rm.locals ≤ R.locals)
    (hws : ∀ w ∈ ws, ∀ a' U, s.WarmedH U.vm → w.before a' U = true) (hcode : Cond.code y bytes maxL ret ∈ ws) (hinit : ∀ a' U, s.WarmedH U.vm → (Cond.initialized y.cls).before a' U = true) :
    vx_Back l R p e below s sargs y len W9 (PreOf R mc ms Pc) (PostOf Qc mc ms free) (vx_Post XC mc ms free) := by
  intro m meth c A g ig mk a X hg hsize hdg hW hn hp
  have h1 : (headSpec ws rm).pre.before a A.U = true := atoms_intro fun w hw => hws w hw _ _ X.warmed
  have h2 : (Cond.code y bytes maxL ret).before a A.U = true := hws _ hcode _ _ X.warmed
  have h3 : (Cond.initialized y.cls).before a A.U = true := hinit _ _ X.warmed
  have h4 : A.cells + (headSpec ws rm).room.cells ≤ R.cells := by rw [show (headSpec ws rm).room.cells = mc from hrc]; exact hp.1
  have h5 : A.slots + (headSpec ws rm).room.slots ≤ R.slots := by rw [show (headSpec ws rm).room.slots = ms from hrs]; exact hp.2.1
  have hPc : Pc a (A.U.calling g mk a) := hblind _ _ _ _ hp.2.2
  obtain ⟨U, Ls, c0, s0⟩ := A
  dsimp only [Pt.U, Pt.locs, Pt.cells, Pt.slots] at h1 h2 h3 h4 h5 X hn hPc ⊢
  obtain ⟨methY, cY, hmY, hcY, -, hlY, -, -, -, -⟩ := Cond.code_spec hn h2
  obtain ⟨kY, hkY, -⟩ := className_of_methodNamed hn
  have hinitY : kY.init = .initialized := Cond.initialized_spec (findClass_of_methodNamed hn) hkY h3
  have h : At U g.method c below := by rw [hg]; exact X.here
  have hlocals9 : W9 + (maxL + 11) + (headSpec ws rm).room.locals ≤ R.locals := hlocals
  have happ : (headSpec ws rm).appliesLoose y e.platform (U.calling g mk a) = true :=
    Spec.appliesLoose_calling (g := g) h hdg hn hkY hinitY
      (X.room_calling (g := g) (R' := (headSpec ws rm).room) hsize hmY hcY hframes (by rw [hlY]; omega) h4 h5) h1
  obtain ⟨mid, hmid⟩ := h.above
  have hfr : (U.setTop g).frames = (.java g :: mid) ++ below := by rw [State.frames_setTop' g h.top, hmid]; rfl
  obtain ⟨o, s₂, hsteps, -, hend, hq⟩ := Steps.callFree hM p X.admits X.cas X.clock (acts := []) hfr happ hPc trivial
  have hq' : vx_Q Qc XC mc ms free a (U.calling g mk a) o s₂ := hq
  rw [State.frames_setTop' g h.top] at hend
  obtain ⟨g₀, hg0⟩ := Option.isSome_iff_exists.mp h.top
  obtain ⟨r, hr⟩ := State.topJava?_eq_some.mp hg0
  have hr' : (({ U with heap := s₂.heap, slotsUsed := s₂.slotsUsed } : State).setVm s₂.vm).frames = .java g₀ :: r := hr
  rcases hq' with ⟨hqc, L, hfe, hL⟩ | ⟨q, rfl, E, ce, L, hx, hce, hcv, hcl, hW₂, hsm, hL⟩
  · obtain ⟨⟨v, rfl⟩, hW₂, e2, q2, q3, q4, q5, q6⟩ := id hfe
    have e3 : s₂ = ({ (U.calling g mk a).setFrames s₂.frames with heap := s₂.heap, slotsUsed := s₂.slotsUsed } : State).setVm s₂.vm := by
      have : s₂ = ({ s₂ with vm := (U.calling g mk a).vm } : State).setVm s₂.vm := rfl
      rw [e2] at this
      exact this
    obtain ⟨c₂, i₂, len₂, hc₂, hd₂, hf₂⟩ := hend
    have hW' : U.WarmedH s₂.vm := hW₂
    have hcc : c₂ = c := by
      have h1 : s₂.code? g.method = U.code? g.method := by
        rw [State.code?_eq, State.code?_eq, hW'.alike.method?]
      exact Option.some.inj (hc₂.symm.trans (h1.trans h.code))
    subst hcc
    have hlen : len₂ = len := by rw [hdg] at hd₂; cases hd₂; rfl
    subst hlen
    have hs₂ : s₂ = (({ U with heap := s₂.heap, slotsUsed := s₂.slotsUsed } : State).setVm s₂.vm).setTop { g with pc := g.pc + len₂, stack := v.toList ++ g.stack } := by
      refine e3.trans ?_
      rw [hf₂, State.calling_eq h.top, State.setFrames_setFrames, State.setTop_of_frames _ hr', hr]
      rfl
    have hsame : U.sameButNew ({ U with heap := s₂.heap, slotsUsed := s₂.slotsUsed } : State) L mc ms := by
      refine ⟨?_, q2, q3, q4, q5, q6⟩
      obtain ⟨t, ht, -⟩ := State.frames_cons hr
      show ({ U with heap := s₂.heap, slotsUsed := s₂.slotsUsed } : State) = { U.setFrames U.frames with heap := s₂.heap, slotsUsed := s₂.slotsUsed }
      rw [State.setFrames_self ht]
    subst hg
    refine Or.inl ⟨v, ⟨(({ U with heap := s₂.heap, slotsUsed := s₂.slotsUsed } : State).setVm s₂.vm), Ls ++ L, c0 + mc, s0 + ms⟩,
      ⟨X.admits, X.cas, X.clock, X.frames, X.room, X.hears, X.method, X.code, (X.here.setHeapUsed s₂.heap s₂.slotsUsed).setVm hW'.alike, X.tail, State.WarmedH.trans X.warmed hW', X.limits, X.bytes, X.same.trans (hsame.setVm s.vm)⟩,
      ⟨g, mk, s₂, L, rfl, rfl, hqc, rfl, hL, rfl, rfl⟩, ?_⟩
    show Steps p.tables e below _ ((({ U with heap := s₂.heap, slotsUsed := s₂.slotsUsed } : State).setVm s₂.vm).setTop { g with pc := g.pc + len₂, stack := v.toList ++ g.stack })
    rw [← hs₂]
    exact hsteps
  · obtain ⟨e2, q2, q3, q4, q5, q6⟩ := id hsm
    have e3 : s₂ = ({ (U.calling g mk a).setFrames s₂.frames with heap := s₂.heap, slotsUsed := s₂.slotsUsed } : State).setVm s₂.vm := by
      have : s₂ = ({ s₂ with vm := (U.calling g mk a).vm } : State).setVm s₂.vm := rfl
      rw [e2] at this
      exact this
    have hf₂ : s₂.frames = .throwing q :: .java g :: U.frames.tail := hend
    have hW' : U.WarmedH s₂.vm := hW₂
    have hs₂ : s₂ = ((({ U with heap := s₂.heap, slotsUsed := s₂.slotsUsed } : State).setVm s₂.vm).setTop g).pushFrame (.throwing q) := by
      refine e3.trans ?_
      rw [hf₂, State.calling_eq h.top, State.setFrames_setFrames, State.pushFrame, State.frames_setTop _ hr', State.setTop_of_frames _ hr', State.setFrames_setFrames, hr]
      rfl
    have hsame : U.sameButNew ({ U with heap := s₂.heap, slotsUsed := s₂.slotsUsed } : State) L mc ms := by
      refine ⟨?_, q2, q3, q4, q5, q6⟩
      obtain ⟨t, ht, -⟩ := State.frames_cons hr
      show ({ U with heap := s₂.heap, slotsUsed := s₂.slotsUsed } : State) = { U.setFrames U.frames with heap := s₂.heap, slotsUsed := s₂.slotsUsed }
      rw [State.setFrames_self ht]
    subst hg
    refine Or.inr ⟨q, ⟨(({ U with heap := s₂.heap, slotsUsed := s₂.slotsUsed } : State).setVm s₂.vm), Ls ++ L, c0 + mc, s0 + ms⟩,
      ⟨X.admits, X.cas, X.clock, X.frames, X.room, X.hears, X.method, X.code, (X.here.setHeapUsed s₂.heap s₂.slotsUsed).setVm hW'.alike, X.tail, State.WarmedH.trans X.warmed hW', X.limits, X.bytes, X.same.trans (hsame.setVm s.vm)⟩,
      ⟨g, mk, s₂, L, E, ce, rfl, rfl, hx, hce, hcv, hcl, rfl, hL, rfl, rfl⟩, ?_⟩
    show Steps p.tables e below _ (((({ U with heap := s₂.heap, slotsUsed := s₂.slotsUsed } : State).setVm s₂.vm).setTop g).pushFrame (.throwing q))
    rw [← hs₂]
    exact hsteps
end Payer
section Calls
variable {p : Program} {l : Launch} {e : Env} {R : Room} {s : State} {m : MethodId} {args : Array Value} {below : List Frame} {meth : Method} {c : Code} {T : State} {locs : List Loc} {cells slots : Nat}
theorem vx_callV (X : Stand p l e R s m args below meth c T locs cells slots) (hexec : p.tables.exec = Jvm.exec) {own C : String} {index : Nat} {y : MethodName} {bytes : ByteArray} {maxL : Nat} {ret : Option FieldType}
    (hown : s.vm.findClass own = some m.cls) (hlink : (Cond.methodLink own index y).before args s = true) (hinst : (Cond.instanceMethod y).before args s = true) (hsel : (Cond.selects C y y).before args s = true)
    (hcode : (Cond.code y bytes maxL ret).before args s = true) (hy : y.cls ≠ "java/lang/invoke/MethodHandle" ∧ y.cls ≠ "java/lang/invoke/VarHandle")
    {W9 : Nat} {Pre : Pt → Array Value → Prop} {Post : Pt → Array Value → Option Value → Pt → Prop} {PostX : Pt → Array Value → Addr → Pt → Prop} (hK : vx_Back l R p e below s args y 3 W9 Pre Post PostX)
    {b : Addr} {cellB : Cell} (hcell : T.heap[b]? = some cellB) (hobj : cellB.vm.isStatics = false) (hcls : s.vm.findClass C = some cellB.cls)
    {g : JFrame} (hg : g.method = m) (hsize : g.locals.size = c.maxLocals) {argsL rest : List Value} (hlen : ∀ sig, parseMethodDescriptor y.desc = some sig → argsL.length = sig.parameters.length)
    (hstack : g.stack = argsL.reverse ++ .ref b :: rest) (hW : 2 * g.monitorRoom + (rest.map fun v => v.category).sum ≤ W9) (hdg : decode c.code g.pc = .ok (.invokevirtual index, 3))
    (hpre : ∀ vm₁, s.WarmedH vm₁ → Pre ⟨T.setVm vm₁, locs, cells, slots⟩ (Value.ref b :: argsL).toArray) :
    (∃ (v : Option Value) (vm₁ : Vm) (B : Pt), s.WarmedH vm₁ ∧ Stand p l e R s m args below meth c B.U B.locs B.cells B.slots ∧ Post ⟨T.setVm vm₁, locs, cells, slots⟩ (Value.ref b :: argsL).toArray v B ∧
      ∀ target, Steps p.tables e below (B.U.setTop { g with pc := g.pc + 3, stack := v.toList ++ rest }) target → Steps p.tables e below (T.setTop g) target) ∨
    (∃ (q : Addr) (vm₁ : Vm) (B : Pt), s.WarmedH vm₁ ∧ Stand p l e R s m args below meth c B.U B.locs B.cells B.slots ∧ PostX ⟨T.setVm vm₁, locs, cells, slots⟩ (Value.ref b :: argsL).toArray q B ∧
      Steps p.tables e below (T.setTop g) ((B.U.setTop { g with stack := rest }).pushFrame (.throwing q))) := by
  obtain ⟨mk, methM, hnamed, hmethM, hstM, habM⟩ := Cond.instanceMethod_spec hinst
  obtain ⟨methM', cM, hmethM', -, -, -, -, -, -, hsigM⟩ := Cond.code_spec hnamed hcode
  cases hmethM.symm.trans hmethM'
  obtain ⟨c2, r2, m2, q1, q2, q3, q4, kP, hkP, hkPi⟩ := Cond.selects_spec hsel
  cases hcls.symm.trans q1
  cases (State.methodFound?_of_named hnamed hy).symm.trans q2
  cases hnamed.symm.trans q3
  have hselP : selectMethod e.platform s.vm cellB.cls mk = .method mk := by rw [Launch.admits_selectMethod X.admits]; exact q4
  obtain ⟨vm₁, X₁, hstep₁⟩ := X.invokevirtual hexec hown hlink hnamed hmethM hstM hkP hkPi hy (a := b) (cell := cellB) hcell
    (fun z h => by rw [h] at hobj; cases hobj) hselP hmethM habM hkP hkPi (g := g) hg (argsL := argsL) (rest := rest) (hlen _ hsigM) hstack hdg
  rcases hK m meth c ⟨T.setVm vm₁, locs, cells, slots⟩ { g with stack := rest } (.invokevirtual index) mk (Value.ref b :: argsL).toArray X₁ hg hsize hdg hW (X₁.named hnamed) (hpre vm₁ X₁.warmed) with ⟨v, B, X', hpost, hsteps⟩ | ⟨q, B, X', hpost, hsteps⟩
  · exact Or.inl ⟨v, vm₁, B, X₁.warmed, X', hpost, fun target h => hstep₁ _ fun acts => by rw [doInvoke_state]; exact hsteps.trans h⟩
  · exact Or.inr ⟨q, vm₁, B, X₁.warmed, X', hpost, hstep₁ _ fun acts => by rw [doInvoke_state]; exact hsteps⟩
theorem vx_callS (X : Stand p l e R s m args below meth c T locs cells slots) (hexec : p.tables.exec = Jvm.exec) {own : String} {index : Nat} {y : MethodName} {bytes : ByteArray} {maxL : Nat} {ret : Option FieldType}
    (hown : s.vm.findClass own = some m.cls) (hlink : (Cond.methodLink own index y).before args s = true) (hstat : (Cond.static y).before args s = true) (hinit : (Cond.initialized y.cls).before args s = true)
    (hcode : (Cond.code y bytes maxL ret).before args s = true) (hy : y.cls ≠ "java/lang/invoke/MethodHandle" ∧ y.cls ≠ "java/lang/invoke/VarHandle")
    {W9 : Nat} {Pre : Pt → Array Value → Prop} {Post : Pt → Array Value → Option Value → Pt → Prop} {PostX : Pt → Array Value → Addr → Pt → Prop} (hK : vx_Back l R p e below s args y 3 W9 Pre Post PostX)
    {g : JFrame} (hg : g.method = m) (hsize : g.locals.size = c.maxLocals) {argsL rest : List Value} (hlen : ∀ sig, parseMethodDescriptor y.desc = some sig → argsL.length = sig.parameters.length)
    (hstack : g.stack = argsL.reverse ++ rest) (hW : 2 * g.monitorRoom + (rest.map fun v => v.category).sum ≤ W9) (hdg : decode c.code g.pc = .ok (.invokestatic index, 3))
    (hpre : ∀ vm₁, s.WarmedH vm₁ → Pre ⟨T.setVm vm₁, locs, cells, slots⟩ argsL.toArray) :
    (∃ (v : Option Value) (vm₁ : Vm) (B : Pt), s.WarmedH vm₁ ∧ Stand p l e R s m args below meth c B.U B.locs B.cells B.slots ∧ Post ⟨T.setVm vm₁, locs, cells, slots⟩ argsL.toArray v B ∧
      ∀ target, Steps p.tables e below (B.U.setTop { g with pc := g.pc + 3, stack := v.toList ++ rest }) target → Steps p.tables e below (T.setTop g) target) ∨
    (∃ (q : Addr) (vm₁ : Vm) (B : Pt), s.WarmedH vm₁ ∧ Stand p l e R s m args below meth c B.U B.locs B.cells B.slots ∧ PostX ⟨T.setVm vm₁, locs, cells, slots⟩ argsL.toArray q B ∧
      Steps p.tables e below (T.setTop g) ((B.U.setTop { g with stack := rest }).pushFrame (.throwing q))) := by
  obtain ⟨mk, hnamed⟩ := Cond.code_named hcode
  obtain ⟨methM, cM, hmethM, -, -, -, -, -, -, hsigM⟩ := Cond.code_spec hnamed hcode
  have hstatic : methM.isStatic = true := Cond.static_spec hnamed hmethM hstat
  obtain ⟨kP, hkP, -⟩ := className_of_methodNamed hnamed
  have hinitP : kP.init = .initialized := Cond.initialized_spec (findClass_of_methodNamed hnamed) hkP hinit
  obtain ⟨vm₁, X₁, hstep₁⟩ := X.invokestatic hexec hown hlink hnamed hmethM hstatic hkP hinitP hy (g := g) hg (argsL := argsL) (rest := rest) (hlen _ hsigM) hstack hdg
  rcases hK m meth c ⟨T.setVm vm₁, locs, cells, slots⟩ { g with stack := rest } (.invokestatic index) mk argsL.toArray X₁ hg hsize hdg hW (X₁.named hnamed) (hpre vm₁ X₁.warmed) with ⟨v, B, X', hpost, hsteps⟩ | ⟨q, B, X', hpost, hsteps⟩
  · exact Or.inl ⟨v, vm₁, B, X₁.warmed, X', hpost, fun target h => hstep₁ _ fun acts => by rw [doInvoke_state]; exact hsteps.trans h⟩
  · exact Or.inr ⟨q, vm₁, B, X₁.warmed, X', hpost, hstep₁ _ fun acts => by rw [doInvoke_state]; exact hsteps⟩
end Calls
theorem vx_cls {s : State} {T : State} {vm₁ : Vm} {E : String} {k : ClassId} (hW : s.WarmedH vm₁) (h : (T.setVm vm₁).vm.findClass E = some k) : s.vm.findClass E = some k := by
  have h1 : vm₁.findClass E = some k := h
  rw [hW.alike.findClass] at h1
  exact h1
/-- the method's frame g, with q thrown over it -/
def vx_W (p : Program) (l : Launch) (e : Env) (R : Room) (s : State) (m : MethodId) (args : Array Value) (below : List Frame) (meth : Method) (c : Code) (H : Heap) (locs : List Loc) (cells slots : Nat) (Q : State → Prop) (g : JFrame) (q : Addr) : Prop :=
  ∀ T : State, T.heap = H → Stand p l e R s m args below meth c T locs cells slots → ∃ t, Steps p.tables e below ((T.setTop g).pushFrame (.throwing q)) t ∧ Q t
def vx_Run (p : Program) (l : Launch) (e : Env) (R : Room) (s : State) (m : MethodId) (args : Array Value) (below : List Frame) (meth : Method) (c : Code) (H : Heap) (locs : List Loc) (cells slots mc ms : Nat) (g : JFrame) (rest : List Value) (Qa : State → Outcome → State → Prop) (XC : String → State → State → Prop) (free : Addr → Prop) : Prop :=
  ∀ T : State, T.heap = H → Stand p l e R s m args below meth c T locs cells slots →
    (∃ (v : Option Value) (st₀ t T' : State) (L : List Loc), st₀.heap = H ∧ Stand p l e R s m args below meth c T' (locs ++ L) (cells + mc) (slots + ms) ∧ (∀ q ∈ L, free q.base) ∧ T'.heap = t.heap ∧ T'.vm = t.vm ∧ Qa st₀ (.returned v) t ∧
      Goes p e below T g T' { g with pc := g.pc + 3, stack := v.toList ++ rest }) ∨
    (∃ (q : Addr) (st₀ t T' : State) (L : List Loc) (E : String) (ce : Cell), st₀.heap = H ∧ Stand p l e R s m args below meth c T' (locs ++ L) (cells + mc) (slots + ms) ∧ (∀ z ∈ L, free z.base) ∧ T'.heap = t.heap ∧ T'.vm = t.vm ∧ XC E st₀ t ∧ t.heap[q]? = some ce ∧ ce.vm = .none ∧ s.vm.findClass E = some ce.cls ∧
      Steps p.tables e below (T.setTop g) ((T'.setTop { g with stack := rest }).pushFrame (.throwing q)))
def vx_X {S : Type} (px : S → Prop) (B : String → S → State → Prop) (A : Nat → Prop) : String → State → State → Prop := fun E st t => ∃ u : S, px u ∧ B E u t ∧ va_F A st t
section Runs
variable {p : Program} {l : Launch} {e : Env} {R : Room} {s : State} {m : MethodId} {args : Array Value} {below : List Frame} {meth : Method} {c : Code} {H : Heap} {locs : List Loc} {cells slots : Nat}
variable {y : MethodName} {bytes cc : ByteArray} {maxL nL mc ms n index : Nat} {ret : Option FieldType} {ws : List Cond} {rm : Room} {Pc : Array Value → State → Prop} {Qc : Array Value → State → Outcome → State → Prop} {XC : String → State → State → Prop} {free : Addr → Prop} {Ts : List Cond} {own C : String} {b : Addr} {As rest : List Value} {g : JFrame}
theorem vx_callBack (cb : CallB R s args own index y bytes maxL ret ws rm mc ms n) (hM : vx_Met l y ws rm Pc Qc XC mc ms free) (hbl : FrameBlind Pc) : vx_Back l R p e below s args y 3 8 (PreOf R mc ms Pc) (PostOf Qc mc ms free) (vx_Post XC mc ms free) := by
  obtain ⟨hrc, hrs, hfr, hlo, hws, hcw, -, hini, -⟩ := cb
  exact vx_back (bytes := bytes) (maxL := maxL) (ret := ret) hM hbl hrc hrs hfr hlo hws hcw (fun a' U hW => word_at hW (Or.inl (by first | rfl | simp [Cond.onTables, Cond.keeps, Cond.steady])) hini)
theorem vx_runV (S : CallFix p m c cc nL s args Ts own) (hM : vx_Met l y ws rm Pc Qc XC mc ms free) (cw : CallW R s args own C index y bytes maxL ret ws rm mc ms n) (hp : PreV s H C b Pc As)
    (hg : g.method = m) (hn : As.length = n) (hsize : g.locals.size = nL) (hstack : g.stack = As.reverse ++ .ref b :: rest) (hW : 2 * g.monitorRoom + (rest.map fun v => v.category).sum ≤ 8) (hdg : decode cc g.pc = .ok (.invokevirtual index, 3)) (hf : cells + mc ≤ R.cells ∧ slots + ms ≤ R.slots) :
    vx_Run p l e R s m args below meth c H locs cells slots mc ms g rest (Qc (Value.ref b :: As).toArray) XC free := by
  have hK : vx_Back l R p e below s args y 3 8 (PreOf R mc ms Pc) (PostOf Qc mc ms free) (vx_Post XC mc ms free) := vx_callBack cw.1 hM hp.1
  obtain ⟨⟨-, -, -, -, -, -, hcode, -, hy, hlen, hl⟩, hin, hse⟩ := cw
  obtain ⟨hx, hb, hml, ho, -⟩ := S
  obtain ⟨-, ⟨cellB, hcB, hoB, hclB⟩, hPc⟩ := hp
  intro T hT X
  rcases vx_callV X hx (C := C) (bytes := bytes) (maxL := maxL) (ret := ret) ho hl hin hse hcode hy hK (by rw [hT]; exact hcB) hoB hclB hg (hsize.trans hml.symm) (argsL := As) (rest := rest) (fun sig h => hn.trans (hlen sig h)) hstack hW (by rw [hb]; exact hdg)
    (fun vm₁ hW₁ => ⟨hf.1, hf.2, hPc (T.setVm vm₁) hT hW₁⟩) with ⟨v, vm₁, ⟨U', l2, c2, s2⟩, hW₁, X', ⟨g', mk, t, L, e1, e2, hq, h1, hL, h2, h3⟩, st⟩ | ⟨q, vm₁, ⟨U', l2, c2, s2⟩, hW₁, X', ⟨g', mk, t, L, E, ce, e1, e2, hq, hce, hcv, hcl, h1, hL, h2, h3⟩, st⟩
  · dsimp only [Pt.U, Pt.locs, Pt.cells, Pt.slots] at X' e1 e2 h1 h2 h3 st
    subst h1; subst h2; subst h3
    exact Or.inl ⟨v, (T.setVm vm₁).calling g' mk (Value.ref b :: As).toArray, t, U', L, hT, X', hL, e1, e2, hq, st⟩
  · dsimp only [Pt.U, Pt.locs, Pt.cells, Pt.slots] at X' e1 e2 h1 h2 h3 st hcl
    subst h1; subst h2; subst h3
    exact Or.inr ⟨q, (T.setVm vm₁).calling g' mk (Value.ref b :: As).toArray, t, U', L, E, ce, hT, X', hL, e1, e2, hq, hce, hcv, vx_cls hW₁ hcl, st⟩
theorem vx_runS (S : CallFix p m c cc nL s args Ts own) (hM : vx_Met l y ws rm Pc Qc XC mc ms free) (cw : CallB R s args own index y bytes maxL ret ws rm mc ms n ∧ (Cond.static y).before args s = true) (hp : PreS s H Pc As)
    (hg : g.method = m) (hn : As.length = n) (hsize : g.locals.size = nL) (hstack : g.stack = As.reverse ++ rest) (hW : 2 * g.monitorRoom + (rest.map fun v => v.category).sum ≤ 8) (hdg : decode cc g.pc = .ok (.invokestatic index, 3)) (hf : cells + mc ≤ R.cells ∧ slots + ms ≤ R.slots) :
    vx_Run p l e R s m args below meth c H locs cells slots mc ms g rest (Qc As.toArray) XC free := by
  have hK : vx_Back l R p e below s args y 3 8 (PreOf R mc ms Pc) (PostOf Qc mc ms free) (vx_Post XC mc ms free) := vx_callBack cw.1 hM hp.1
  obtain ⟨⟨-, -, -, -, -, -, hcode, hini, hy, hlen, hl⟩, hstt⟩ := cw
  obtain ⟨hx, hb, hml, ho, -⟩ := S
  intro T hT X
  rcases vx_callS X hx (bytes := bytes) (maxL := maxL) (ret := ret) ho hl hstt hini hcode hy hK hg (hsize.trans hml.symm) (argsL := As) (rest := rest) (fun sig h => hn.trans (hlen sig h)) hstack hW (by rw [hb]; exact hdg)
    (fun vm₁ hW₁ => ⟨hf.1, hf.2, hp.2 (T.setVm vm₁) hT hW₁⟩) with ⟨v, vm₁, ⟨U', l2, c2, s2⟩, hW₁, X', ⟨g', mk, t, L, e1, e2, hq, h1, hL, h2, h3⟩, st⟩ | ⟨q, vm₁, ⟨U', l2, c2, s2⟩, hW₁, X', ⟨g', mk, t, L, E, ce, e1, e2, hq, hce, hcv, hcl, h1, hL, h2, h3⟩, st⟩
  · dsimp only [Pt.U, Pt.locs, Pt.cells, Pt.slots] at X' e1 e2 h1 h2 h3 st
    subst h1; subst h2; subst h3
    exact Or.inl ⟨v, (T.setVm vm₁).calling g' mk As.toArray, t, U', L, hT, X', hL, e1, e2, hq, st⟩
  · dsimp only [Pt.U, Pt.locs, Pt.cells, Pt.slots] at X' e1 e2 h1 h2 h3 st hcl
    subst h1; subst h2; subst h3
    exact Or.inr ⟨q, (T.setVm vm₁).calling g' mk As.toArray, t, U', L, E, ce, hT, X', hL, e1, e2, hq, hce, hcv, vx_cls hW₁ hcl, st⟩
end Runs
section Rows
variable {p : Program} {l : Launch} {e : Env} {R : Room} {s : State} {m : MethodId} {args : Array Value} {below : List Frame} {meth : Method} {c : Code} {H : Heap} {locs : List Loc} {cells slots : Nat} {Q : State → Prop}
variable {mc ms : Nat} {free : Addr → Prop} {A0 A1 : Nat → Prop} {H0 : Heap} {a : Array Value} {pc : Nat} {ls : Array Slot} {st0 rest : List Value}
theorem vx_keep {st₀ t T' : State} {L : List Loc} (h0 : st₀.heap = H) (e1 : T'.heap = t.heap) (hS : va_S A0 H0 H locs) (hA : ∀ q, q < H.size → A1 q → A0 q) (hf : ∀ q, free q → A0 q) (hL : ∀ q ∈ L, free q.base) (hF : va_F A1 st₀ t) :
    H.size ≤ T'.heap.size ∧ (∀ q : Nat, q < H.size → ¬ A1 q → T'.heap[q]? = H[q]?) ∧ va_S A0 H0 T'.heap (locs ++ L) := by
  obtain ⟨hz, hk⟩ := hF
  rw [h0] at hz hk
  exact ⟨by rw [e1]; exact hz, fun q h1 h2 => by rw [e1]; exact hk q h1 h2,
    ⟨Nat.le_trans hS.1 (by rw [e1]; exact hz), fun q h1 h2 => by rw [e1, hk q (Nat.lt_of_lt_of_le h1 hS.1) (fun z => h2 (hA q (Nat.lt_of_lt_of_le h1 hS.1) z))]; exact hS.2.1 q h1 h2, fun q hq => by
      rcases List.mem_append.mp hq with h | h
      · exact hS.2.2 q h
      · exact hf _ (hL q h)⟩⟩
theorem vx_calli {S SX : Type} {post : Int32 → S → Prop} {px : SX → Prop} {B : S → State → Prop} {BX : String → SX → State → Prop} {AX : Nat → Prop} (hr : vx_Run p l e R s m args below meth c H locs cells slots mc ms (F0 m pc ls st0) rest (va_Qi post B A1 a) (vx_X px BX AX) free) (hS : va_S A0 H0 H locs) (hA : ∀ q, q < H.size → A1 q → A0 q) (hf : ∀ q, free q → A0 q) (hAX : ∀ q, q < H.size → AX q → A0 q)
    (kx : ∀ (E : String) (ce : Cell) (q9 : Addr) (u : SX) (t : State) (H1 : Heap) (locs1 : List Loc), t.heap = H1 → s.vm.Alike t.vm → px u → BX E u t → H.size ≤ H1.size → (∀ q : Nat, q < H.size → ¬ AX q → H1[q]? = H[q]?) → va_S A0 H0 H1 locs1 → H1[q9]? = some ce → ce.vm = .none → s.vm.findClass E = some ce.cls → vx_W p l e R s m args below meth c H1 locs1 (cells + mc) (slots + ms) Q (F0 m pc ls rest) q9)
    (kk : ∀ (r : Int32) (u : S) (t : State) (H1 : Heap) (locs1 : List Loc), t.heap = H1 → s.vm.Alike t.vm → post r u → B u t → H.size ≤ H1.size → (∀ q : Nat, q < H.size → ¬ A1 q → H1[q]? = H[q]?) → va_S A0 H0 H1 locs1 → W p l e R s m args below meth c H1 locs1 (cells + mc) (slots + ms) Q (F0 m (pc + 3) ls (.int r :: rest))) : W p l e R s m args below meth c H locs cells slots Q (F0 m pc ls st0) := by
  intro T hT X
  rcases hr T hT X with ⟨v, st₀, t, T', L, h0, X', hL, e1, e2, ⟨⟨r, u, hv, hp, hb⟩, hF⟩, st⟩ | ⟨q, st₀, t, T', L, E, ce, h0, X', hL, e1, e2, ⟨u, hp, hb, hF⟩, hce, hcv, hcl, st⟩
  · cases hv
    obtain ⟨k1, k2, k3⟩ := vx_keep h0 e1 hS hA hf hL hF
    obtain ⟨t2, a1, b1⟩ := kk r u t T'.heap (locs ++ L) e1.symm (by rw [← e2]; exact X'.warmed.alike) hp hb k1 k2 k3 T' rfl X'
    exact ⟨t2, st t2 a1, b1⟩
  · obtain ⟨k1, k2, k3⟩ := vx_keep h0 e1 hS hAX hf hL hF
    obtain ⟨t2, a1, b1⟩ := kx E ce q u t T'.heap (locs ++ L) e1.symm (by rw [← e2]; exact X'.warmed.alike) hp hb k1 k2 k3 (by rw [e1]; exact hce) hcv hcl T' rfl X'
    exact ⟨t2, st.trans a1, b1⟩
theorem vx_calll {S SX : Type} {post : Int64 → S → Prop} {px : SX → Prop} {B : S → State → Prop} {BX : String → SX → State → Prop} {AX : Nat → Prop} (hr : vx_Run p l e R s m args below meth c H locs cells slots mc ms (F0 m pc ls st0) rest (va_Ql post B A1 a) (vx_X px BX AX) free) (hS : va_S A0 H0 H locs) (hA : ∀ q, q < H.size → A1 q → A0 q) (hf : ∀ q, free q → A0 q) (hAX : ∀ q, q < H.size → AX q → A0 q)
    (kx : ∀ (E : String) (ce : Cell) (q9 : Addr) (u : SX) (t : State) (H1 : Heap) (locs1 : List Loc), t.heap = H1 → s.vm.Alike t.vm → px u → BX E u t → H.size ≤ H1.size → (∀ q : Nat, q < H.size → ¬ AX q → H1[q]? = H[q]?) → va_S A0 H0 H1 locs1 → H1[q9]? = some ce → ce.vm = .none → s.vm.findClass E = some ce.cls → vx_W p l e R s m args below meth c H1 locs1 (cells + mc) (slots + ms) Q (F0 m pc ls rest) q9)
    (kk : ∀ (r : Int64) (u : S) (t : State) (H1 : Heap) (locs1 : List Loc), t.heap = H1 → s.vm.Alike t.vm → post r u → B u t → H.size ≤ H1.size → (∀ q : Nat, q < H.size → ¬ A1 q → H1[q]? = H[q]?) → va_S A0 H0 H1 locs1 → W p l e R s m args below meth c H1 locs1 (cells + mc) (slots + ms) Q (F0 m (pc + 3) ls (.long r :: rest))) : W p l e R s m args below meth c H locs cells slots Q (F0 m pc ls st0) := by
  intro T hT X
  rcases hr T hT X with ⟨v, st₀, t, T', L, h0, X', hL, e1, e2, ⟨⟨r, u, hv, hp, hb⟩, hF⟩, st⟩ | ⟨q, st₀, t, T', L, E, ce, h0, X', hL, e1, e2, ⟨u, hp, hb, hF⟩, hce, hcv, hcl, st⟩
  · cases hv
    obtain ⟨k1, k2, k3⟩ := vx_keep h0 e1 hS hA hf hL hF
    obtain ⟨t2, a1, b1⟩ := kk r u t T'.heap (locs ++ L) e1.symm (by rw [← e2]; exact X'.warmed.alike) hp hb k1 k2 k3 T' rfl X'
    exact ⟨t2, st t2 a1, b1⟩
  · obtain ⟨k1, k2, k3⟩ := vx_keep h0 e1 hS hAX hf hL hF
    obtain ⟨t2, a1, b1⟩ := kx E ce q u t T'.heap (locs ++ L) e1.symm (by rw [← e2]; exact X'.warmed.alike) hp hb k1 k2 k3 (by rw [e1]; exact hce) hcv hcl T' rfl X'
    exact ⟨t2, st.trans a1, b1⟩
theorem vx_callf {S SX : Type} {post : UInt32 → S → Prop} {px : SX → Prop} {B : S → State → Prop} {BX : String → SX → State → Prop} {AX : Nat → Prop} (hr : vx_Run p l e R s m args below meth c H locs cells slots mc ms (F0 m pc ls st0) rest (va_Qf post B A1 a) (vx_X px BX AX) free) (hS : va_S A0 H0 H locs) (hA : ∀ q, q < H.size → A1 q → A0 q) (hf : ∀ q, free q → A0 q) (hAX : ∀ q, q < H.size → AX q → A0 q)
    (kx : ∀ (E : String) (ce : Cell) (q9 : Addr) (u : SX) (t : State) (H1 : Heap) (locs1 : List Loc), t.heap = H1 → s.vm.Alike t.vm → px u → BX E u t → H.size ≤ H1.size → (∀ q : Nat, q < H.size → ¬ AX q → H1[q]? = H[q]?) → va_S A0 H0 H1 locs1 → H1[q9]? = some ce → ce.vm = .none → s.vm.findClass E = some ce.cls → vx_W p l e R s m args below meth c H1 locs1 (cells + mc) (slots + ms) Q (F0 m pc ls rest) q9)
    (kk : ∀ (r : UInt32) (u : S) (t : State) (H1 : Heap) (locs1 : List Loc), t.heap = H1 → s.vm.Alike t.vm → post r u → B u t → H.size ≤ H1.size → (∀ q : Nat, q < H.size → ¬ A1 q → H1[q]? = H[q]?) → va_S A0 H0 H1 locs1 → W p l e R s m args below meth c H1 locs1 (cells + mc) (slots + ms) Q (F0 m (pc + 3) ls (.float r :: rest))) : W p l e R s m args below meth c H locs cells slots Q (F0 m pc ls st0) := by
  intro T hT X
  rcases hr T hT X with ⟨v, st₀, t, T', L, h0, X', hL, e1, e2, ⟨⟨r, u, hv, hp, hb⟩, hF⟩, st⟩ | ⟨q, st₀, t, T', L, E, ce, h0, X', hL, e1, e2, ⟨u, hp, hb, hF⟩, hce, hcv, hcl, st⟩
  · cases hv
    obtain ⟨k1, k2, k3⟩ := vx_keep h0 e1 hS hA hf hL hF
    obtain ⟨t2, a1, b1⟩ := kk r u t T'.heap (locs ++ L) e1.symm (by rw [← e2]; exact X'.warmed.alike) hp hb k1 k2 k3 T' rfl X'
    exact ⟨t2, st t2 a1, b1⟩
  · obtain ⟨k1, k2, k3⟩ := vx_keep h0 e1 hS hAX hf hL hF
    obtain ⟨t2, a1, b1⟩ := kx E ce q u t T'.heap (locs ++ L) e1.symm (by rw [← e2]; exact X'.warmed.alike) hp hb k1 k2 k3 (by rw [e1]; exact hce) hcv hcl T' rfl X'
    exact ⟨t2, st.trans a1, b1⟩
theorem vx_calld {S SX : Type} {post : UInt64 → S → Prop} {px : SX → Prop} {B : S → State → Prop} {BX : String → SX → State → Prop} {AX : Nat → Prop} (hr : vx_Run p l e R s m args below meth c H locs cells slots mc ms (F0 m pc ls st0) rest (va_Qd post B A1 a) (vx_X px BX AX) free) (hS : va_S A0 H0 H locs) (hA : ∀ q, q < H.size → A1 q → A0 q) (hf : ∀ q, free q → A0 q) (hAX : ∀ q, q < H.size → AX q → A0 q)
    (kx : ∀ (E : String) (ce : Cell) (q9 : Addr) (u : SX) (t : State) (H1 : Heap) (locs1 : List Loc), t.heap = H1 → s.vm.Alike t.vm → px u → BX E u t → H.size ≤ H1.size → (∀ q : Nat, q < H.size → ¬ AX q → H1[q]? = H[q]?) → va_S A0 H0 H1 locs1 → H1[q9]? = some ce → ce.vm = .none → s.vm.findClass E = some ce.cls → vx_W p l e R s m args below meth c H1 locs1 (cells + mc) (slots + ms) Q (F0 m pc ls rest) q9)
    (kk : ∀ (r : UInt64) (u : S) (t : State) (H1 : Heap) (locs1 : List Loc), t.heap = H1 → s.vm.Alike t.vm → post r u → B u t → H.size ≤ H1.size → (∀ q : Nat, q < H.size → ¬ A1 q → H1[q]? = H[q]?) → va_S A0 H0 H1 locs1 → W p l e R s m args below meth c H1 locs1 (cells + mc) (slots + ms) Q (F0 m (pc + 3) ls (.double r :: rest))) : W p l e R s m args below meth c H locs cells slots Q (F0 m pc ls st0) := by
  intro T hT X
  rcases hr T hT X with ⟨v, st₀, t, T', L, h0, X', hL, e1, e2, ⟨⟨r, u, hv, hp, hb⟩, hF⟩, st⟩ | ⟨q, st₀, t, T', L, E, ce, h0, X', hL, e1, e2, ⟨u, hp, hb, hF⟩, hce, hcv, hcl, st⟩
  · cases hv
    obtain ⟨k1, k2, k3⟩ := vx_keep h0 e1 hS hA hf hL hF
    obtain ⟨t2, a1, b1⟩ := kk r u t T'.heap (locs ++ L) e1.symm (by rw [← e2]; exact X'.warmed.alike) hp hb k1 k2 k3 T' rfl X'
    exact ⟨t2, st t2 a1, b1⟩
  · obtain ⟨k1, k2, k3⟩ := vx_keep h0 e1 hS hAX hf hL hF
    obtain ⟨t2, a1, b1⟩ := kx E ce q u t T'.heap (locs ++ L) e1.symm (by rw [← e2]; exact X'.warmed.alike) hp hb k1 k2 k3 (by rw [e1]; exact hce) hcv hcl T' rfl X'
    exact ⟨t2, st.trans a1, b1⟩
theorem vx_callv {S SX : Type} {post : S → Prop} {px : SX → Prop} {B : S → State → Prop} {BX : String → SX → State → Prop} {AX : Nat → Prop} (hr : vx_Run p l e R s m args below meth c H locs cells slots mc ms (F0 m pc ls st0) rest (va_Qv post B A1 a) (vx_X px BX AX) free) (hS : va_S A0 H0 H locs) (hA : ∀ q, q < H.size → A1 q → A0 q) (hf : ∀ q, free q → A0 q) (hAX : ∀ q, q < H.size → AX q → A0 q)
    (kx : ∀ (E : String) (ce : Cell) (q9 : Addr) (u : SX) (t : State) (H1 : Heap) (locs1 : List Loc), t.heap = H1 → s.vm.Alike t.vm → px u → BX E u t → H.size ≤ H1.size → (∀ q : Nat, q < H.size → ¬ AX q → H1[q]? = H[q]?) → va_S A0 H0 H1 locs1 → H1[q9]? = some ce → ce.vm = .none → s.vm.findClass E = some ce.cls → vx_W p l e R s m args below meth c H1 locs1 (cells + mc) (slots + ms) Q (F0 m pc ls rest) q9)
    (kk : ∀ (u : S) (t : State) (H1 : Heap) (locs1 : List Loc), t.heap = H1 → s.vm.Alike t.vm → post u → B u t → H.size ≤ H1.size → (∀ q : Nat, q < H.size → ¬ A1 q → H1[q]? = H[q]?) → va_S A0 H0 H1 locs1 → W p l e R s m args below meth c H1 locs1 (cells + mc) (slots + ms) Q (F0 m (pc + 3) ls (rest))) : W p l e R s m args below meth c H locs cells slots Q (F0 m pc ls st0) := by
  intro T hT X
  rcases hr T hT X with ⟨v, st₀, t, T', L, h0, X', hL, e1, e2, ⟨⟨u, hv, hp, hb⟩, hF⟩, st⟩ | ⟨q, st₀, t, T', L, E, ce, h0, X', hL, e1, e2, ⟨u, hp, hb, hF⟩, hce, hcv, hcl, st⟩
  · cases hv
    obtain ⟨k1, k2, k3⟩ := vx_keep h0 e1 hS hA hf hL hF
    obtain ⟨t2, a1, b1⟩ := kk u t T'.heap (locs ++ L) e1.symm (by rw [← e2]; exact X'.warmed.alike) hp hb k1 k2 k3 T' rfl X'
    exact ⟨t2, st t2 a1, b1⟩
  · obtain ⟨k1, k2, k3⟩ := vx_keep h0 e1 hS hAX hf hL hF
    obtain ⟨t2, a1, b1⟩ := kx E ce q u t T'.heap (locs ++ L) e1.symm (by rw [← e2]; exact X'.warmed.alike) hp hb k1 k2 k3 (by rw [e1]; exact hce) hcv hcl T' rfl X'
    exact ⟨t2, st.trans a1, b1⟩
/-- caught by the row x of this method's table; the rows ahead don't take it -/
theorem vx_catch {own name : String} {E : String} {ce : Cell} {q : Addr} (hown : s.vm.findClass own = some m.cls) (pre : List ExceptionTableEntry) (x : ExceptionTableEntry) (suf : List ExceptionTableEntry) (hsplit : c.exceptionTable.toList = pre ++ x :: suf)
    (hpass : ∀ z ∈ pre, covers z pc = false ∨ (z.catchType ≠ 0 ∧ ∃ nm : String, (Cond.classLink own z.catchType nm).before args s = true ∧ va_Nc E nm s)) (hx : covers x pc = true) (h0 : x.catchType ≠ 0)
    (hlink : (Cond.classLink own x.catchType name).before args s = true) (hcast : (Cond.castable E name).before args s = true) (hcell : H[q]? = some ce) (hv : ce.vm = .none) (hcl : s.vm.findClass E = some ce.cls)
    (kk : W p l e R s m args below meth c H locs cells slots Q (F0 m x.handlerPc ls [.ref q])) : vx_W p l e R s m args below meth c H locs cells slots Q (F0 m pc ls rest) q := by
  intro T hT X
  have hpl : e.platform.magicAccessors = ({} : Platform).magicAccessors := by rw [X.admits.platform]
  obtain ⟨c3, c4, hc3, hc4, hasg⟩ := Cond.castable_spec hcast
  cases Option.some.inj (hc3.symm.trans hcl)
  obtain ⟨c5, hc5, hcl5⟩ := Cond.classLink_spec hown hlink e.platform hpl
  cases Option.some.inj (hc4.symm.trans hc5)
  obtain ⟨vm', X', st⟩ := X.thenCaughtThrough q (g := F0 m pc ls rest) rfl (Steps.refl _) (by rw [hT]; exact hcell) (by rw [hv]; rfl) (by obtain ⟨k9, h9, -⟩ := Vm.findClass_spec hcl; exact ⟨k9, h9⟩) pre x suf hsplit
    (fun z hz => by
      rcases hpass z hz with h | ⟨hz0, nm, hl1, hn1⟩
      · exact Or.inl h
      · obtain ⟨c6, hc6, hcl6⟩ := Cond.classLink_spec hown hl1 e.platform hpl
        obtain ⟨a8, b8, h1, h2, h3⟩ := hn1
        cases Option.some.inj (h1.symm.trans hcl)
        cases Option.some.inj (h2.symm.trans hc6)
        exact Or.inr ⟨hz0, _, hcl6, h3⟩) hx (Or.inr ⟨h0, c4, hcl5, hasg⟩)
  obtain ⟨t, a1, b1⟩ := kk (T.setVm vm') hT X'
  exact ⟨t, st.trans a1, b1⟩
end Rows
section Ends
variable {p : Program} {l : Launch} {e : Env} {R : Room} {s : State} {m : MethodId} {args : Array Value} {below : List Frame} {meth : Method} {c : Code} {H : Heap} {locs : List Loc} {cells slots : Nat} {Q : State → Prop}
variable {mc ms : Nat} {free : Addr → Prop} {A0 A1 : Nat → Prop} {H0 : Heap} {a : Array Value} {ls : Array Slot} {st0 rest : List Value}
variable {Qc : Array Value → State → Outcome → State → Prop} {XC : String → State → State → Prop}
/-- what a body that may throw owes at its end -/
def vx_MQ (below : List Frame) (Qc : Array Value → State → Outcome → State → Prop) (XC : String → State → State → Prop) (a : Array Value) (s : State) (mc ms : Nat) (free : Addr → Prop) : State → Prop := fun t =>
  ∃ o, t.status = .running ∧ Ended t below o ∧ vx_Q Qc XC mc ms free a s o t
theorem vx_ret {g : JFrame} {mc ms : Nat} (k : W p l e R s m args below meth c H locs cells slots (MQ below Qc args s mc ms free) g) : W p l e R s m args below meth c H locs cells slots (vx_MQ below Qc XC args s mc ms free) g := by
  intro T hT X
  obtain ⟨t, a1, o, b1, b2, b3, b4⟩ := k T hT X
  exact ⟨t, a1, o, b1, b2, Or.inl ⟨b3, b4⟩⟩
/-- not caught here: it goes on to the caller -/
theorem vx_widen {g : JFrame} {q : Addr} {k n : Nat} (h1 : cells ≤ k) (h2 : slots ≤ n) (kk : vx_W p l e R s m args below meth c H locs k n Q g q) : vx_W p l e R s m args below meth c H locs cells slots Q g q := fun T hT X => kk T hT (stand_widen X h1 h2)
theorem vx_out {pc : Nat} {E : String} {ce : Cell} {q : Addr} {mc ms : Nat} (hout : ∀ x ∈ c.exceptionTable.toList, covers x pc = false) (hlocks : meth.locks = false) (hcell : H[q]? = some ce) (hv : ce.vm = .none) (hcl : s.vm.findClass E = some ce.cls)
    (hx : ∀ t : State, t.heap = H → s.vm.Alike t.vm → XC E s t) (hf : ∀ z ∈ locs, free z.base) (hc : cells ≤ mc) (hs : slots ≤ ms) :
    vx_W p l e R s m args below meth c H locs cells slots (vx_MQ below Qc XC args s mc ms free) (F0 m pc ls rest) q := by
  intro T hT X
  obtain ⟨st1, hrun, hend, hW, hsm⟩ := X.leaveThrown q (g := F0 m pc ls rest) rfl rfl rfl hout hlocks
  have hcell9 : (T.setFrames (.throwing q :: below)).heap[q]? = some ce := by
    show T.heap[q]? = some ce
    rw [hT]; exact hcell
  exact ⟨_, st1, .threw q, hrun, hend, Or.inr ⟨q, rfl, E, ce, locs, hx _ hT hW.alike, hcell9, hv, hcl, hW, hsm.mono hc hs, hf⟩⟩
theorem vx_frame {U : State} {k n : Nat} (h : s.sameButNew ({ U with vm := s.vm } : State) locs k n) : s.heap.size ≤ U.heap.size ∧ ∀ q : Nat, q < s.heap.size → (∀ z ∈ locs, z.base ≠ q) → U.heap[q]? = s.heap[q]? := by
  obtain ⟨-, h2, -, -, -, h6⟩ := h
  refine ⟨h2, fun q hq hz => ?_⟩
  obtain ⟨c9, e1, e2, e3, e4⟩ := h6 q _ (Array.getElem?_eq_getElem hq)
  have hs : c9.slots = (s.heap[q]).slots := Array.ext_getElem? fun i => e4 i fun hm => hz _ hm rfl
  have h9 : c9 = s.heap[q] := by
    rw [hs] at e2
    exact e2
  have e5 : U.heap[q]? = some c9 := e1
  rw [e5, h9, Array.getElem?_eq_getElem hq]
/-- the words of a throw but the four that speak of the heap -/
def vx_no (w : Cond) : Bool := decide (w ≠ .isRef (.static Bundle.tN "UNASSIGNED_STACK" Bundle.steD)) && decide (w ≠ .isRef (.static Bundle.tN "SUPPRESSED_SENTINEL" Bundle.listD)) && decide (w ≠ .laysStatic Bundle.tN "UNASSIGNED_STACK" Bundle.steD) && decide (w ≠ .laysStatic Bundle.tN "SUPPRESSED_SENTINEL" Bundle.listD)
def vx_at0 (own : String) (ic : Nat) (X : String) (names : List String) : List Cond := (Bundle.ownAtoms0 own ic X names).filter vx_no
def vx_atS (own : String) (ic : Nat) (X : String) (names : List String) : List Cond := (Bundle.ownAtoms own ic X names).filter vx_no
/-- a word that the tables alone decide, or a good one -/
def vx_ot (w : Cond) : Bool := w.onTables || goodWord w
theorem vx_ot_at {args a' : Array Value} {s U : State} {w : Cond} (hW : s.WarmedH U.vm) (hvm : s.vm = U.vm) (hg : vx_ot w = true) (h : w.before args s = true) : w.before a' U = true := by
  simp only [vx_ot, Bool.or_eq_true] at hg
  rcases hg with hg | hg
  · exact va_tabs hg hvm h
  · exact word_at hW (good_of_word hg) h
/-- a list's words: the good ones out of the method's own list, the others by premises of their own -/
theorem vx_hat {args : Array Value} {s : State} {L B : List Cond} (h1 : ∀ w ∈ L.filter goodWord, w.before args s = true) (h2 : ∀ w ∈ L.filter (fun w => !goodWord w), w ∈ B) (h3 : ∀ w ∈ B, w.before args s = true) : ∀ w ∈ L, w.before args s = true := by
  intro w hw
  by_cases g : goodWord w = true
  · exact h1 w (List.mem_filter.mpr ⟨hw, g⟩)
  · refine h3 w (h2 w (List.mem_filter.mpr ⟨hw, ?_⟩))
    show (!goodWord w) = true
    cases hgw : goodWord w
    · rfl
    · exact absurd hgw g
theorem vx_c {args : Array Value} {s : State} {w : Cond} {B : List Cond} (h : w.before args s = true) (t : ∀ w ∈ B, w.before args s = true) : ∀ w' ∈ w :: B, w'.before args s = true := fun w' h' => (List.mem_cons.mp h').elim (fun e => by rw [e]; exact h) (t w')
theorem vx_n {args : Array Value} {s : State} : ∀ w ∈ ([] : List Cond), w.before args s = true := fun _ h => nomatch h
theorem vx_own {args : Array Value} {s : State} {L : List Cond} (h1 : ∀ w ∈ L.filter vx_no, w.before args s = true)
    (hU : (Cond.isRef (.static Bundle.tN "UNASSIGNED_STACK" Bundle.steD)).before args s = true) (hN : (Cond.isRef (.static Bundle.tN "SUPPRESSED_SENTINEL" Bundle.listD)).before args s = true)
    (lU : (Cond.laysStatic Bundle.tN "UNASSIGNED_STACK" Bundle.steD).before args s = true) (lN : (Cond.laysStatic Bundle.tN "SUPPRESSED_SENTINEL" Bundle.listD).before args s = true) : ∀ w ∈ L, w.before args s = true := by
  intro w hw
  by_cases e1 : w = .isRef (.static Bundle.tN "UNASSIGNED_STACK" Bundle.steD)
  · rw [e1]; exact hU
  · by_cases e2 : w = .isRef (.static Bundle.tN "SUPPRESSED_SENTINEL" Bundle.listD)
    · rw [e2]; exact hN
    · by_cases e3 : w = .laysStatic Bundle.tN "UNASSIGNED_STACK" Bundle.steD
      · rw [e3]; exact lU
      · by_cases e4 : w = .laysStatic Bundle.tN "SUPPRESSED_SENTINEL" Bundle.listD
        · rw [e4]; exact lN
        · exact h1 w (List.mem_filter.mpr ⟨hw, by unfold vx_no; rw [decide_eq_true e1, decide_eq_true e2, decide_eq_true e3, decide_eq_true e4]; rfl⟩)
/-- where a static field lies, its class's statics cell in H -/
def vx_L (C n d : String) (A : Nat → Prop) (U : State) (H : Heap) : Prop := ∃ (c : ClassId) (k : Class) (i : Nat) (f : Field) (a : Nat) (cell : Cell), U.vm.findClass C = some c ∧ U.fieldFound? C n d = some (c, k, i, f) ∧ f.isStatic = true ∧ k.statics = some a ∧ H[a]? = some cell ∧ cell.vm.isStatics = true ∧ cell.cls = c ∧ f.slot < cell.slots.size ∧ k.staticTypes[f.slot]? = some f.type ∧ ¬ A a
theorem vx_L.moved {C n d : String} {A : Nat → Prop} {u U : State} {H : Heap} (hvm : u.vm.Alike U.vm) (h : vx_L C n d A u H) : vx_L C n d A U H := by
  obtain ⟨c, k, i, f, a, cell, h1, h2, h3, h4, h5, h6, h7, h8, h9, h10⟩ := h
  obtain ⟨k', hi', he⟩ := State.fieldFound?_setVm hvm h2
  exact ⟨c, k', i, f, a, cell, by rw [hvm.findClass]; exact h1, hi', h3, by rw [he]; exact h4, h5, h6, h7, h8, by rw [he]; exact h9, h10⟩
theorem vx_L.kept {C n d : String} {A : Nat → Prop} {U : State} {H H1 : Heap} (h : vx_L C n d A U H) (hq : ∀ a : Nat, a < H.size → ¬ A a → H1[a]? = H[a]?) : vx_L C n d A U H1 := by
  obtain ⟨c, k, i, f, a, cell, h1, h2, h3, h4, h5, h6, h7, h8, h9, h10⟩ := h
  exact ⟨c, k, i, f, a, cell, h1, h2, h3, h4, by rw [hq a (Array.getElem?_eq_some_iff.mp h5).1 h10]; exact h5, h6, h7, h8, h9, h10⟩
theorem vx_L.narrow {C n d : String} {A B : Nat → Prop} {U : State} {H : Heap} (h : vx_L C n d A U H) (hAB : ∀ q, B q → A q) : vx_L C n d B U H := by
  obtain ⟨c, k, i, f, a, cell, h1, h2, h3, h4, h5, h6, h7, h8, h9, h10⟩ := h
  exact ⟨c, k, i, f, a, cell, h1, h2, h3, h4, h5, h6, h7, h8, h9, fun z => h10 (hAB _ z)⟩
theorem vx_L.word {C n d : String} {A : Nat → Prop} {s : State} {args : Array Value} (h : vx_L C n d A s s.heap) : (Cond.laysStatic C n d).before args s = true := by
  obtain ⟨c, k, i, f, a, cell, h1, h2, h3, h4, h5, h6, h7, h8, h9, -⟩ := h
  show (Cond.laysStatic C n d).holds args s none s [] = true
  exact Cond.laysStatic_of h1 h2 h3 h4 h5 h6 h7 h8 h9
/-- .. and what it holds: null or some reference -/
def vx_Zq (C n d : String) (A : Nat → Prop) (U : State) (H : Heap) : Prop := va_Zq C n d A U H ∧ vx_L C n d A U H
theorem vx_Zq.moved {C n d : String} {A : Nat → Prop} {u U : State} {H : Heap} (hvm : u.vm.Alike U.vm) (h : vx_Zq C n d A u H) : vx_Zq C n d A U H := ⟨va_Zq.moved hvm h.1, vx_L.moved hvm h.2⟩
theorem vx_Zq.kept {C n d : String} {A : Nat → Prop} {U : State} {H H1 : Heap} (h : vx_Zq C n d A U H) (hq : ∀ a : Nat, a < H.size → ¬ A a → H1[a]? = H[a]?) : vx_Zq C n d A U H1 := ⟨va_Zq.kept h.1 hq, vx_L.kept h.2 hq⟩
theorem vx_Zq.narrow {C n d : String} {A B : Nat → Prop} {U : State} {H : Heap} (h : vx_Zq C n d A U H) (hAB : ∀ q, B q → A q) : vx_Zq C n d B U H := ⟨va_Zq.narrow h.1 hAB, vx_L.narrow h.2 hAB⟩
theorem vx_Zqof {args : Array Value} {s : State} {C n d : String} {A : Nat → Prop} (hl : (Cond.laysStatic C n d).before args s = true) (hini : (Cond.initialized C).before args s = true) (h : (Cond.isRef (.static C n d)).before args s = true) (hA : ∀ a : Nat, a < s.heap.size → ¬ A a) : vx_Zq C n d A s s.heap := by
  refine ⟨va_Zqof hl hini h hA, ?_⟩
  obtain ⟨c, k, i, f, a, cell, h1, h2, h3, h4, h5, h6, h7, h8, h9⟩ := Cond.laysStatic_spec hl
  exact ⟨c, k, i, f, a, cell, h1, h2, h3, h4, h5, h6, h7, h8, h9, hA a (Array.getElem?_eq_some_iff.mp h5).1⟩
theorem vx_isRef {C n d : String} {v : Value} {A : Nat → Prop} {s : State} {args : Array Value} (h : va_Z C n d v A s s.heap) (hv : v.isRef = true) : (Cond.isRef (.static C n d)).before args s = true := by
  obtain ⟨cf, kf, fi, f, a, cell, h1, h2, h3, h4, h5, h6, h7, -⟩ := h
  have he : (Term.static C n d).eval args s none [] s = some v := by
    simp [Term.eval, State.fieldNamed?, h1, h2, h4, h5, h6, h7]
  simp only [Cond.before, Cond.holds, Cond.value, he]
  cases v <;> simp_all [Value.isRef]
theorem vx_isRefq {C n d : String} {A : Nat → Prop} {s : State} {args : Array Value} (h : va_Zq C n d A s s.heap) : (Cond.isRef (.static C n d)).before args s = true := by
  rcases h with h | ⟨t, h⟩
  · exact vx_isRef h rfl
  · exact vx_isRef h rfl
/-- the same frame, seen from here: as if the method were called anew in this heap -/
theorem vx_rebase {T : State} (X : Stand p l e R s m args below meth c T locs cells slots) {R' : Room} (hf : R'.frames ≤ R.frames) (hl : R'.locals ≤ R.locals) (hc : cells + R'.cells ≤ R.cells) (hs : slots + R'.slots ≤ R.slots) :
    Stand p l e R' ((T.setVm s.vm).setFrames (.invoking m args :: below)) m args below meth c T [] 0 0 := by
  have htop : (T.setVm s.vm).topJava?.isSome := X.here.top
  have hF : ((T.setVm s.vm).setFrames (.invoking m args :: below)).frames = .invoking m args :: below := State.frames_setFrames _ (State.cur_lt_of_top htop)
  obtain ⟨g₀, hg0⟩ := Option.isSome_iff_exists.mp htop
  obtain ⟨r, hr⟩ := State.topJava?_eq_some.mp hg0
  have hl9 : e.platform.stackLimits (T.setVm s.vm).me = e.platform.stackLimits s.me := X.limits
  have hb9 : (T.setVm s.vm).me.stackBytes = s.me.stackBytes := X.bytes
  refine ⟨X.admits, X.cas, X.clock, hF, ?_, X.hears, X.method, X.code, X.here, X.tail, X.warmed, ?_, ?_, ?_⟩
  · have h := X.room
    have hU : ((T.setVm s.vm).setFrames (.invoking m args :: below)).localsInUse = s.localsInUse := by
      rw [State.localsInUse_invoking hF (meth := meth) (c := c) X.method X.code, State.localsInUse_invoking X.frames X.method X.code]
    simp only [State.hasRoom, Bool.and_eq_true, decide_eq_true_eq] at h ⊢
    obtain ⟨⟨⟨⟨h1, h2, h3, h4, h5, h6⟩, h7⟩, h8⟩, h9⟩ := h
    rw [X.frames, List.length_cons] at h2 h3
    have q1 := X.heapSize
    have q2 := X.used
    simp only [hF, hU, List.length_cons, State.stackLimits_setFrames, State.stackBytes_setFrames, hl9, hb9]
    refine ⟨⟨⟨⟨by omega, by omega, by omega, by omega, by omega, h6⟩, ?_⟩, ?_⟩, X.book⟩
    · show T.heap.size + R'.cells ≤ e.platform.maxCells
      omega
    · show T.slotsUsed + R'.slots ≤ e.platform.maxSlots
      omega
  · rw [State.stackLimits_setFrames]; rfl
  · rw [State.stackBytes_setFrames]; rfl
  · refine ⟨?_, Nat.le_refl _, Nat.le_refl _, ?_, ?_, fun a c9 h9 => ⟨c9, h9, rfl, rfl, fun _ _ => rfl⟩⟩
    · obtain ⟨t, ht, -⟩ := State.frames_cons hr
      show T.setVm s.vm = { ((T.setVm s.vm).setFrames (.invoking m args :: below)).setFrames (T.setVm s.vm).frames with heap := T.heap, slotsUsed := T.slotsUsed }
      rw [State.setFrames_setFrames, State.setFrames_self ht]
      rfl
    · show T.slotsUsed = T.slotsUsed + ((T.heap.toList.drop T.heap.size).map (·.slots.size)).sum
      rw [List.drop_eq_nil_of_le (Nat.le_of_eq Array.length_toList)]
      rfl
    · show ((T.heap.toList.drop T.heap.size).map (·.slots.size)).sum ≤ 0
      rw [List.drop_eq_nil_of_le (Nat.le_of_eq Array.length_toList)]
      exact Nat.le_refl _
/-- 'throw new E()': new; dup; invokespecial; athrow -/
theorem vx_throw0 {cc : ByteArray} {pc : Nat} (hexec : p.tables.exec = Jvm.exec) (hb : c.code = cc) (hl : l.stackTraces = false) {own cls : String} {names : List String} {ik ic mc ms : Nat} {A : Nat → Prop}
    (hown : s.vm.findClass own = some m.cls) (hcls : Bundle.fit cls = true) (hnames : ∀ n ∈ names, Bundle.fit n = true)
    (hk : (Cond.classLink own ik cls).before args s = true) (hini : (Cond.initialized cls).before args s = true) (hat : ∀ w ∈ vx_at0 own ic cls names, w.before args s = true)
    (hgood : ∀ w ∈ Cond.classLink own ik cls :: Cond.initialized cls :: vx_at0 own ic cls names, vx_ot w = true)
    (hU : vx_Zq Bundle.tN "UNASSIGNED_STACK" Bundle.steD A s s.heap) (hN : vx_Zq Bundle.tN "SUPPRESSED_SENTINEL" Bundle.listD A s s.heap) (hS : va_S A s.heap H locs) (hsize : ls.size = c.maxLocals)
    (d0 : decode cc pc = .ok (.new ik, 3)) (d3 : decode cc (pc + 3) = .ok (.dup, 1)) (d4 : decode cc (pc + 4) = .ok (.invokespecial ic, 3)) (d7 : decode cc (pc + 7) = .ok (.athrow, 1))
    (hout : ∀ x ∈ c.exceptionTable.toList, covers x (pc + 7) = false)
    (hRframes : names.length + 3 < R.frames) (hRlocals : (rest.map fun v => v.category).sum + (13 * (names.length + 1) + 42) ≤ R.locals) (hRcells : cells + 1 ≤ R.cells) (hRslots : slots + 6 ≤ R.slots) (hlocks : meth.locks = false)
    (hx : ∀ t : State, s.vm.Alike t.vm → H.size ≤ t.heap.size → (∀ q : Nat, q < H.size → t.heap[q]? = H[q]?) → XC cls s t)
    (hf : ∀ z ∈ locs, free z.base) (hc : cells + 1 ≤ mc) (hs : slots + 6 ≤ ms) :
    W p l e R s m args below meth c H locs cells slots (vx_MQ below Qc XC args s mc ms free) (F0 m pc ls rest) := by
  intro T hT X
  have htr : e.platform.stackTraces = false := (show e.platform.stackTraces = l.stackTraces by rw [X.admits.platform]).trans hl
  have Y := vx_rebase X (R' := { frames := R.frames, locals := R.locals, cells := 1, slots := 6 }) (Nat.le_refl _) (Nat.le_refl _) hRcells hRslots
  obtain ⟨s', hA⟩ : ∃ z, z = (T.setVm s.vm).setFrames (.invoking m args :: below) := ⟨_, rfl⟩
  rw [← hA] at Y
  have hvm : s'.vm = s.vm := by rw [hA]; rfl
  have hhp : s'.heap = H := by rw [hA]; exact hT
  have hW0 : s.WarmedH s'.vm := by rw [hvm]; exact State.WarmedH.refl s
  have hat' : ∀ w ∈ vx_at0 own ic cls names, w.before args s' = true := fun w hw => vx_ot_at hW0 hvm.symm (hgood w (List.mem_cons_of_mem _ (List.mem_cons_of_mem _ hw))) (hat w hw)
  have hk' : (Cond.classLink own ik cls).before args s' = true := vx_ot_at hW0 hvm.symm (hgood _ List.mem_cons_self) hk
  have hini' : (Cond.initialized cls).before args s' = true := vx_ot_at hW0 hvm.symm (hgood _ (List.mem_cons_of_mem _ List.mem_cons_self)) hini
  have hU' : vx_Zq Bundle.tN "UNASSIGNED_STACK" Bundle.steD A s' s'.heap := by rw [hhp]; exact vx_Zq.moved hW0.alike (hU.kept hS.2.1)
  have hN' : vx_Zq Bundle.tN "SUPPRESSED_SENTINEL" Bundle.listD A s' s'.heap := by rw [hhp]; exact vx_Zq.moved hW0.alike (hN.kept hS.2.1)
  have h : ∀ w ∈ Bundle.ownAtoms0 own ic cls names, w.before args s' = true := vx_own hat' (vx_isRefq hU'.1) (vx_isRefq hN'.1) hU'.2.word hN'.2.word
  have hown' : s'.vm.findClass own = some m.cls := by rw [hvm]; exact hown
  have hins : (Cond.instantiable cls 6).before args s' = true := h _ (by simp [Bundle.ownAtoms0])
  obtain ⟨vm₁, cX, kX, hfX, hkX, -, -, X₁, st1⟩ := Y.newCold hexec (own := own) (C := cls) (index := ik) (n := 6) hown' hk' hins hini'
    (g := F0 m pc ls rest) rfl (by rw [hb]; exact d0) (Nat.le_refl _) (Nat.le_refl _)
  generalize hT1 : (T.setVm vm₁).pushCell { cls := cX, slots := kX.instanceTypes.map defaultValue, vm := .none } = T1 at X₁ st1
  have hcat : (Value.ref T.heap.size).category = 1 := rfl
  have hcellA : T1.heap[T.heap.size]? = some (freshCell cX kX) := by rw [← hT1]; exact State.heap_pushCell_size _ _
  have d3' : decode c.code (pc + 3) = .ok (.dup, 1) := by rw [hb]; exact d3
  obtain ⟨U, hsteps, hrun, hend, hW, hsame, ce, hce, hO⟩ := X₁.ctorThrow0 hexec htr (own := own) (cls := cls) (names := names) (ic := ic) hown' hcls hnames h (fun x hx => nomatch hx) hfX hkX hcellA (by rw [hhp, hT]; exact Nat.le_refl _)
    (g := { method := m, pc := pc + 4, locals := ls, stack := .ref T.heap.size :: .ref T.heap.size :: rest, locked := none }) rfl hsize rfl rfl (rest := rest) rfl
    (by rw [hb]; exact d4) (by rw [hb]; exact d7) hout hRframes (by simp only [List.map_cons, List.sum_cons, hcat]; omega) hlocks
  obtain ⟨f1, f2⟩ := vx_frame hsame
  rw [hhp] at f1 f2
  have hWs : s.WarmedH U.vm := State.WarmedH.trans hW0 hW
  have hcl : s.vm.findClass cls = some ce.cls := by
    have h9 := hO.cls
    rw [hvm] at h9
    exact h9
  have hall : s.sameButNew ({ U with vm := s.vm } : State) locs mc ms := by
    subst hA
    obtain ⟨e1, e2⟩ := hsame
    rw [State.setFrames_setFrames] at e1
    have h2 : (T.setVm s.vm).sameButNew ({ U with vm := s.vm } : State) [] (0 + 1) (0 + 6) := ⟨e1, e2⟩
    have h3 := X.same.trans h2
    rw [List.append_nil] at h3
    exact h3.mono hc hs
  refine ⟨U, ?_, .threw T.heap.size, hrun, hend, Or.inr ⟨T.heap.size, rfl, cls, ce, locs, hx U hWs.alike f1 (fun q hq => f2 q hq (fun z hz => nomatch hz)), hce, hO.vm, hcl, hWs, hall, hf⟩⟩
  refine st1 _ ?_
  show Steps p.tables e below (T1.setTop { method := m, pc := pc + 3, locals := ls, stack := .ref T.heap.size :: rest, locked := none }) _
  jvm_step X₁.here [X₁.here.top, hexec, d3', Value.category]
  exact hsteps
/-- 'throw new E("text")': new; dup; ldc; invokespecial; athrow -/
theorem vx_throwS {cc : ByteArray} {pc : Nat} (hexec : p.tables.exec = Jvm.exec) (hb : c.code = cc) (hl : l.stackTraces = false) {own cls text : String} {names : List String} {ik is ic mc ms sa : Nat} {A : Nat → Prop}
    (hown : s.vm.findClass own = some m.cls) (hcls : Bundle.fit cls = true) (hnames : ∀ n ∈ names, Bundle.fit n = true)
    (hk : (Cond.classLink own ik cls).before args s = true) (hini : (Cond.initialized cls).before args s = true) (hstr : vk_R own is text sa s) (hat : ∀ w ∈ vx_atS own ic cls names, w.before args s = true)
    (hgood : ∀ w ∈ Cond.classLink own ik cls :: Cond.initialized cls :: vx_atS own ic cls names, vx_ot w = true)
    (hU : vx_Zq Bundle.tN "UNASSIGNED_STACK" Bundle.steD A s s.heap) (hN : vx_Zq Bundle.tN "SUPPRESSED_SENTINEL" Bundle.listD A s s.heap) (hS : va_S A s.heap H locs) (hsize : ls.size = c.maxLocals)
    (d0 : decode cc pc = .ok (.new ik, 3)) (d3 : decode cc (pc + 3) = .ok (.dup, 1)) (d4 : decode cc (pc + 4) = .ok (.ldc is, 2)) (d6 : decode cc (pc + 6) = .ok (.invokespecial ic, 3)) (d9 : decode cc (pc + 9) = .ok (.athrow, 1))
    (hout : ∀ x ∈ c.exceptionTable.toList, covers x (pc + 9) = false)
    (hRframes : names.length + 3 < R.frames) (hRlocals : (rest.map fun v => v.category).sum + (13 * (names.length + 1) + 43) ≤ R.locals) (hRcells : cells + 1 ≤ R.cells) (hRslots : slots + 6 ≤ R.slots) (hlocks : meth.locks = false)
    (hx : ∀ t : State, s.vm.Alike t.vm → H.size ≤ t.heap.size → (∀ q : Nat, q < H.size → t.heap[q]? = H[q]?) → XC cls s t)
    (hf : ∀ z ∈ locs, free z.base) (hc : cells + 1 ≤ mc) (hs : slots + 6 ≤ ms) :
    W p l e R s m args below meth c H locs cells slots (vx_MQ below Qc XC args s mc ms free) (F0 m pc ls rest) := by
  intro T hT X
  have htr : e.platform.stackTraces = false := (show e.platform.stackTraces = l.stackTraces by rw [X.admits.platform]).trans hl
  have Y := vx_rebase X (R' := { frames := R.frames, locals := R.locals, cells := 1, slots := 6 }) (Nat.le_refl _) (Nat.le_refl _) hRcells hRslots
  obtain ⟨s', hA⟩ : ∃ z, z = (T.setVm s.vm).setFrames (.invoking m args :: below) := ⟨_, rfl⟩
  rw [← hA] at Y
  have hvm : s'.vm = s.vm := by rw [hA]; rfl
  have hhp : s'.heap = H := by rw [hA]; exact hT
  have hW0 : s.WarmedH s'.vm := by rw [hvm]; exact State.WarmedH.refl s
  have hat' : ∀ w ∈ vx_atS own ic cls names, w.before args s' = true := fun w hw => vx_ot_at hW0 hvm.symm (hgood w (List.mem_cons_of_mem _ (List.mem_cons_of_mem _ hw))) (hat w hw)
  have hk' : (Cond.classLink own ik cls).before args s' = true := vx_ot_at hW0 hvm.symm (hgood _ List.mem_cons_self) hk
  have hini' : (Cond.initialized cls).before args s' = true := vx_ot_at hW0 hvm.symm (hgood _ (List.mem_cons_of_mem _ List.mem_cons_self)) hini
  have hU' : vx_Zq Bundle.tN "UNASSIGNED_STACK" Bundle.steD A s' s'.heap := by rw [hhp]; exact vx_Zq.moved hW0.alike (hU.kept hS.2.1)
  have hN' : vx_Zq Bundle.tN "SUPPRESSED_SENTINEL" Bundle.listD A s' s'.heap := by rw [hhp]; exact vx_Zq.moved hW0.alike (hN.kept hS.2.1)
  have h : ∀ w ∈ Bundle.ownAtoms own ic cls names, w.before args s' = true := vx_own hat' (vx_isRefq hU'.1) (vx_isRefq hN'.1) hU'.2.word hN'.2.word
  have hown' : s'.vm.findClass own = some m.cls := by rw [hvm]; exact hown
  have hins : (Cond.instantiable cls 6).before args s' = true := h _ (by simp [Bundle.ownAtoms])
  obtain ⟨vm₁, cX, kX, hfX, hkX, -, -, X₁, st1⟩ := Y.newCold hexec (own := own) (C := cls) (index := ik) (n := 6) hown' hk' hins hini'
    (g := F0 m pc ls rest) rfl (by rw [hb]; exact d0) (Nat.le_refl _) (Nat.le_refl _)
  generalize hT1 : (T.setVm vm₁).pushCell { cls := cX, slots := kX.instanceTypes.map defaultValue, vm := .none } = T1 at X₁ st1
  have hcat : (Value.ref T.heap.size).category = 1 := rfl
  have hcellA : T1.heap[T.heap.size]? = some (freshCell cX kX) := by rw [← hT1]; exact State.heap_pushCell_size _ _
  have d3' : decode c.code (pc + 3) = .ok (.dup, 1) := by rw [hb]; exact d3
  have d4' : decode c.code (pc + 4) = .ok (.ldc is, 2) := by rw [hb]; exact d4
  have hstr' : vk_R own is text sa s' := vk_R.warm hW0 hstr
  obtain ⟨U, hsteps, hrun, hend, hW, hsame, ce, hce, hO⟩ := X₁.ctorThrowS hexec htr (own := own) (cls := cls) (names := names) (ic := ic) hown' hcls hnames h (fun x hx => nomatch hx) hfX hkX hcellA (by rw [hhp, hT]; exact Nat.le_refl _) (msg := .ref sa) rfl
    (g := { method := m, pc := pc + 6, locals := ls, stack := .ref sa :: .ref T.heap.size :: .ref T.heap.size :: rest, locked := none }) rfl hsize rfl rfl (rest := rest) rfl
    (by rw [hb]; exact d6) (by rw [hb]; exact d9) hout hRframes (by simp only [List.map_cons, List.sum_cons, hcat]; omega) hlocks
  obtain ⟨f1, f2⟩ := vx_frame hsame
  rw [hhp] at f1 f2
  have hWs : s.WarmedH U.vm := State.WarmedH.trans hW0 hW
  have hcl : s.vm.findClass cls = some ce.cls := by
    have h9 := hO.cls
    rw [hvm] at h9
    exact h9
  have hall : s.sameButNew ({ U with vm := s.vm } : State) locs mc ms := by
    subst hA
    obtain ⟨e1, e2⟩ := hsame
    rw [State.setFrames_setFrames] at e1
    have h2 : (T.setVm s.vm).sameButNew ({ U with vm := s.vm } : State) [] (0 + 1) (0 + 6) := ⟨e1, e2⟩
    have h3 := X.same.trans h2
    rw [List.append_nil] at h3
    exact h3.mono hc hs
  refine ⟨U, ?_, .threw T.heap.size, hrun, hend, Or.inr ⟨T.heap.size, rfl, cls, ce, locs, hx U hWs.alike f1 (fun q hq => f2 q hq (fun z hz => nomatch hz)), hce, hO.vm, hcl, hWs, hall, hf⟩⟩
  refine st1 _ ?_
  show Steps p.tables e below (T1.setTop { method := m, pc := pc + 3, locals := ls, stack := .ref T.heap.size :: rest, locked := none }) _
  jvm_step X₁.here [X₁.here.top, hexec, d3', Value.category]
  exact X₁.ldcString hexec (own := own) (text := text) (index := is) (a := sa) hown' hstr'.1 hstr'.2
    (g := { method := m, pc := pc + 4, locals := ls, stack := .ref T.heap.size :: .ref T.heap.size :: rest, locked := none }) rfl d4' _ hsteps
/-- 'throw new E("text")', the text by a wide index -/
theorem vx_throwSW {cc : ByteArray} {pc : Nat} (hexec : p.tables.exec = Jvm.exec) (hb : c.code = cc) (hl : l.stackTraces = false) {own cls text : String} {names : List String} {ik is ic mc ms sa : Nat} {A : Nat → Prop}
    (hown : s.vm.findClass own = some m.cls) (hcls : Bundle.fit cls = true) (hnames : ∀ n ∈ names, Bundle.fit n = true)
    (hk : (Cond.classLink own ik cls).before args s = true) (hini : (Cond.initialized cls).before args s = true) (hstr : vk_R own is text sa s) (hat : ∀ w ∈ vx_atS own ic cls names, w.before args s = true)
    (hgood : ∀ w ∈ Cond.classLink own ik cls :: Cond.initialized cls :: vx_atS own ic cls names, vx_ot w = true)
    (hU : vx_Zq Bundle.tN "UNASSIGNED_STACK" Bundle.steD A s s.heap) (hN : vx_Zq Bundle.tN "SUPPRESSED_SENTINEL" Bundle.listD A s s.heap) (hS : va_S A s.heap H locs) (hsize : ls.size = c.maxLocals)
    (d0 : decode cc pc = .ok (.new ik, 3)) (d3 : decode cc (pc + 3) = .ok (.dup, 1)) (d4 : decode cc (pc + 4) = .ok (.ldc_w is, 3)) (d7 : decode cc (pc + 7) = .ok (.invokespecial ic, 3)) (d10 : decode cc (pc + 10) = .ok (.athrow, 1))
    (hout : ∀ x ∈ c.exceptionTable.toList, covers x (pc + 10) = false)
    (hRframes : names.length + 3 < R.frames) (hRlocals : (rest.map fun v => v.category).sum + (13 * (names.length + 1) + 43) ≤ R.locals) (hRcells : cells + 1 ≤ R.cells) (hRslots : slots + 6 ≤ R.slots) (hlocks : meth.locks = false)
    (hx : ∀ t : State, s.vm.Alike t.vm → H.size ≤ t.heap.size → (∀ q : Nat, q < H.size → t.heap[q]? = H[q]?) → XC cls s t)
    (hf : ∀ z ∈ locs, free z.base) (hc : cells + 1 ≤ mc) (hs : slots + 6 ≤ ms) :
    W p l e R s m args below meth c H locs cells slots (vx_MQ below Qc XC args s mc ms free) (F0 m pc ls rest) := by
  intro T hT X
  have htr : e.platform.stackTraces = false := (show e.platform.stackTraces = l.stackTraces by rw [X.admits.platform]).trans hl
  have Y := vx_rebase X (R' := { frames := R.frames, locals := R.locals, cells := 1, slots := 6 }) (Nat.le_refl _) (Nat.le_refl _) hRcells hRslots
  obtain ⟨s', hA⟩ : ∃ z, z = (T.setVm s.vm).setFrames (.invoking m args :: below) := ⟨_, rfl⟩
  rw [← hA] at Y
  have hvm : s'.vm = s.vm := by rw [hA]; rfl
  have hhp : s'.heap = H := by rw [hA]; exact hT
  have hW0 : s.WarmedH s'.vm := by rw [hvm]; exact State.WarmedH.refl s
  have hat' : ∀ w ∈ vx_atS own ic cls names, w.before args s' = true := fun w hw => vx_ot_at hW0 hvm.symm (hgood w (List.mem_cons_of_mem _ (List.mem_cons_of_mem _ hw))) (hat w hw)
  have hk' : (Cond.classLink own ik cls).before args s' = true := vx_ot_at hW0 hvm.symm (hgood _ List.mem_cons_self) hk
  have hini' : (Cond.initialized cls).before args s' = true := vx_ot_at hW0 hvm.symm (hgood _ (List.mem_cons_of_mem _ List.mem_cons_self)) hini
  have hU' : vx_Zq Bundle.tN "UNASSIGNED_STACK" Bundle.steD A s' s'.heap := by rw [hhp]; exact vx_Zq.moved hW0.alike (hU.kept hS.2.1)
  have hN' : vx_Zq Bundle.tN "SUPPRESSED_SENTINEL" Bundle.listD A s' s'.heap := by rw [hhp]; exact vx_Zq.moved hW0.alike (hN.kept hS.2.1)
  have h : ∀ w ∈ Bundle.ownAtoms own ic cls names, w.before args s' = true := vx_own hat' (vx_isRefq hU'.1) (vx_isRefq hN'.1) hU'.2.word hN'.2.word
  have hown' : s'.vm.findClass own = some m.cls := by rw [hvm]; exact hown
  have hins : (Cond.instantiable cls 6).before args s' = true := h _ (by simp [Bundle.ownAtoms])
  obtain ⟨vm₁, cX, kX, hfX, hkX, -, -, X₁, st1⟩ := Y.newCold hexec (own := own) (C := cls) (index := ik) (n := 6) hown' hk' hins hini'
    (g := F0 m pc ls rest) rfl (by rw [hb]; exact d0) (Nat.le_refl _) (Nat.le_refl _)
  generalize hT1 : (T.setVm vm₁).pushCell { cls := cX, slots := kX.instanceTypes.map defaultValue, vm := .none } = T1 at X₁ st1
  have hcat : (Value.ref T.heap.size).category = 1 := rfl
  have hcellA : T1.heap[T.heap.size]? = some (freshCell cX kX) := by rw [← hT1]; exact State.heap_pushCell_size _ _
  have d3' : decode c.code (pc + 3) = .ok (.dup, 1) := by rw [hb]; exact d3
  have d4' : decode c.code (pc + 4) = .ok (.ldc_w is, 3) := by rw [hb]; exact d4
  have hstr' : vk_R own is text sa s' := vk_R.warm hW0 hstr
  obtain ⟨U, hsteps, hrun, hend, hW, hsame, ce, hce, hO⟩ := X₁.ctorThrowS hexec htr (own := own) (cls := cls) (names := names) (ic := ic) hown' hcls hnames h (fun x hx => nomatch hx) hfX hkX hcellA (by rw [hhp, hT]; exact Nat.le_refl _) (msg := .ref sa) rfl
    (g := { method := m, pc := pc + 7, locals := ls, stack := .ref sa :: .ref T.heap.size :: .ref T.heap.size :: rest, locked := none }) rfl hsize rfl rfl (rest := rest) rfl
    (by rw [hb]; exact d7) (by rw [hb]; exact d10) hout hRframes (by simp only [List.map_cons, List.sum_cons, hcat]; omega) hlocks
  obtain ⟨f1, f2⟩ := vx_frame hsame
  rw [hhp] at f1 f2
  have hWs : s.WarmedH U.vm := State.WarmedH.trans hW0 hW
  have hcl : s.vm.findClass cls = some ce.cls := by
    have h9 := hO.cls
    rw [hvm] at h9
    exact h9
  have hall : s.sameButNew ({ U with vm := s.vm } : State) locs mc ms := by
    subst hA
    obtain ⟨e1, e2⟩ := hsame
    rw [State.setFrames_setFrames] at e1
    have h2 : (T.setVm s.vm).sameButNew ({ U with vm := s.vm } : State) [] (0 + 1) (0 + 6) := ⟨e1, e2⟩
    have h3 := X.same.trans h2
    rw [List.append_nil] at h3
    exact h3.mono hc hs
  refine ⟨U, ?_, .threw T.heap.size, hrun, hend, Or.inr ⟨T.heap.size, rfl, cls, ce, locs, hx U hWs.alike f1 (fun q hq => f2 q hq (fun z hz => nomatch hz)), hce, hO.vm, hcl, hWs, hall, hf⟩⟩
  refine st1 _ ?_
  show Steps p.tables e below (T1.setTop { method := m, pc := pc + 3, locals := ls, stack := .ref T.heap.size :: rest, locked := none }) _
  jvm_step X₁.here [X₁.here.top, hexec, d3', Value.category]
  exact X₁.ldcStringW hexec (own := own) (text := text) (index := is) (a := sa) hown' hstr'.1 hstr'.2
    (g := { method := m, pc := pc + 4, locals := ls, stack := .ref T.heap.size :: .ref T.heap.size :: rest, locked := none }) rfl d4' _ hsteps
end Ends
section Bodies
variable {l : Launch}
theorem vx_ofW {y : MethodName} {ws ws' : List Cond} {rm : Room} {Pc : Array Value → State → Prop} {Qc : Array Value → State → Outcome → State → Prop} {XC : String → State → State → Prop} {mc ms : Nat} {free : Addr → Prop} {cc : ByteArray} {maxL : Nat} {ret : Option FieldType}
    (hy : plainName y.cls = true) (hw : ws = Cond.code y cc maxL ret :: ws')
    (body : ∀ p e s m args below meth c s₁, BodyLoose p l y (headSpec ws rm) cc maxL ret e s m args below meth c s₁ → c.maxLocals = maxL → (∀ x ∈ c.exceptionTable.toList, False) → Pc args s →
      W p l e (headSpec ws rm).room s m args below meth c s.heap [] 0 0 (vx_MQ below Qc XC args s mc ms free) (entryFrame m args maxL)) : vx_Met l y ws rm Pc Qc XC mc ms free := by
  refine MetFree.of_bodyS (code := cc) (maxLocals := maxL) (ret := ret) hy ?_ ?_
  · intro args s m h hn
    obtain ⟨meth, c, h1, h2, h3, h4, h5, h6, -, -⟩ := Cond.code_spec hn (atoms_spec (ws := ws) h _ (by rw [hw]; exact List.mem_cons_self))
    exact ⟨meth, c, h1, h2, h3, h4, h5, h6⟩
  · intro p e s m args below meth c s₁ B hml hP _
    have hh0 : s₁.heap = s.heap := by rw [B.state]; rfl
    have ht : ∀ x ∈ c.exceptionTable.toList, False := by
      obtain ⟨meth9, c9, h1, h2, -, -, -, -, h7, -⟩ := Cond.code_spec B.named (atoms_spec (ws := ws) B.pre _ (by rw [hw]; exact List.mem_cons_self))
      cases Option.some.inj (h1.symm.trans B.method)
      cases Option.some.inj (h2.symm.trans (Stand.of_body B).code)
      intro x hx
      rw [Array.isEmpty_iff.mp h7] at hx
      cases hx
    obtain ⟨t, a1, o, b1, b2, b3⟩ := body p e s m args below meth c s₁ B hml ht hP s₁ hh0 (Stand.of_body B)
    exact ⟨t, o, a1, b1, b2, b3⟩
/-- the table of a body with handlers -/
theorem vx_table {p : Program} {x y : MethodName} {S : Spec} {cc bytes : ByteArray} {maxL maxL' : Nat} {ret ret' : Option FieldType} {e : Env} {s s₁ : State} {m : MethodId} {args : Array Value} {below : List Frame} {meth : Method} {c : Code} {hh : List (Nat × Nat × Nat × Nat)}
    (B : BodyLoose p l y S cc maxL ret e s m args below meth c s₁) (h : (Cond.codeWith y bytes maxL' ret' hh).before args s = true) : c.exceptionTable.toList = tableOf hh := by
  obtain ⟨m9, meth9, c9, hn9, h1, h2, -, -, h6, -⟩ := Cond.codeWith_spec h
  cases Option.some.inj (hn9.symm.trans B.named)
  cases Option.some.inj (h1.symm.trans B.method)
  cases Option.some.inj (h2.symm.trans (Stand.of_body B).code)
  rw [← h6, table_eq]
end Bodies
end VXA
/-! ===== END ===== -/
/-! ===== BEGIN a static call of a method with an exception table ===== -/
section VXS
variable {p : Program} {l : Launch} {e : Env} {R : Room} {s : State} {m : MethodId} {args : Array Value} {below : List Frame} {meth : Method} {c : Code} {T : State} {H : Heap} {locs : List Loc} {cells slots : Nat}
abbrev vx_CSW (R : Room) (s : State) (args : Array Value) (own : String) (index : Nat) (y : MethodName) (bytes : ByteArray) (maxL : Nat) (ret : Option FieldType) (hh : List (Nat × Nat × Nat × Nat)) (ws : List Cond) (rm : Room) (mc ms n : Nat) : Prop :=
  (rm.cells = mc ∧ rm.slots = ms ∧ rm.frames + 1 ≤ R.frames ∧ 8 + (maxL + 11) + rm.locals ≤ R.locals ∧ (∀ w ∈ ws, ∀ (a' : Array Value) (U : State), s.WarmedH U.vm → w.before a' U = true) ∧ Cond.codeWith y bytes maxL ret hh ∈ ws) ∧
  (Cond.codeWith y bytes maxL ret hh).before args s = true ∧ (Cond.initialized y.cls).before args s = true ∧ (y.cls ≠ "java/lang/invoke/MethodHandle" ∧ y.cls ≠ "java/lang/invoke/VarHandle") ∧
  (∀ sig, parseMethodDescriptor y.desc = some sig → n = sig.parameters.length) ∧ (Cond.methodLink own index y).before args s = true ∧ (Cond.static y).before args s = true
theorem vx_cwSW {own : String} {index maxL mc ms : Nat} {y : MethodName} {bytes : ByteArray} {ret : Option FieldType} {hh : List (Nat × Nat × Nat × Nat)} {Ts ws ws' : List Cond} {rm : Room} (n : Nat) (ht : ∀ w ∈ Ts, w.before args s = true) (hT : GoodIn Ts (va_wsS own index y ws)) (hw : ws = Cond.codeWith y bytes maxL ret hh :: ws') (hrc : rm.cells = mc) (hrs : rm.slots = ms)
    (hd : y.cls ≠ "java/lang/invoke/MethodHandle" ∧ y.cls ≠ "java/lang/invoke/VarHandle" ∧ (parseMethodDescriptor y.desc).map (fun d => d.parameters.length) = some n) (hR : rm.frames + 1 ≤ R.frames ∧ 8 + (maxL + 11) + rm.locals ≤ R.locals) :
    vx_CSW R s args own index y bytes maxL ret hh ws rm mc ms n := by
  have ok : ∀ w ∈ va_wsS own index y ws, w.before args s = true := fun w h => ht w (hT w h).1
  have hG : GoodIn Ts ws := fun w h => hT w (by unfold va_wsS; exact List.mem_append_right _ h)
  have hc : Cond.codeWith y bytes maxL ret hh ∈ ws := by rw [hw]; exact List.mem_cons_self
  refine ⟨⟨hrc, hrs, hR.1, hR.2, pay_in ht hG, hc⟩, ht _ (hG _ hc).1, ok _ (by simp [va_wsS]), ⟨hd.1, hd.2.1⟩, fun sig h => ?_, ok _ (by simp [va_wsS]), ok _ (by simp [va_wsS])⟩
  have h2 := hd.2.2
  rw [h] at h2
  exact (Option.some.inj h2).symm
theorem vx_callSW (X : Stand p l e R s m args below meth c T locs cells slots) (hexec : p.tables.exec = Jvm.exec) {own : String} {index : Nat} {y : MethodName} {bytes : ByteArray} {maxL : Nat} {ret : Option FieldType} {hh : List (Nat × Nat × Nat × Nat)}
    (hown : s.vm.findClass own = some m.cls) (hlink : (Cond.methodLink own index y).before args s = true) (hstat : (Cond.static y).before args s = true) (hinit : (Cond.initialized y.cls).before args s = true)
    (hcode : (Cond.codeWith y bytes maxL ret hh).before args s = true) (hy : y.cls ≠ "java/lang/invoke/MethodHandle" ∧ y.cls ≠ "java/lang/invoke/VarHandle")
    {W9 : Nat} {Pre : Pt → Array Value → Prop} {Post : Pt → Array Value → Option Value → Pt → Prop} (hK : Back l R p e below s args y 3 W9 Pre Post)
    {g : JFrame} (hg : g.method = m) (hsize : g.locals.size = c.maxLocals) {argsL rest : List Value} (hlen : ∀ sig, parseMethodDescriptor y.desc = some sig → argsL.length = sig.parameters.length)
    (hstack : g.stack = argsL.reverse ++ rest) (hW : 2 * g.monitorRoom + (rest.map fun v => v.category).sum ≤ W9) (hdg : decode c.code g.pc = .ok (.invokestatic index, 3))
    (hpre : ∀ vm₁, s.WarmedH vm₁ → Pre ⟨T.setVm vm₁, locs, cells, slots⟩ argsL.toArray) :
    ∃ (v : Option Value) (vm₁ : Vm) (B : Pt), s.WarmedH vm₁ ∧ Stand p l e R s m args below meth c B.U B.locs B.cells B.slots ∧ Post ⟨T.setVm vm₁, locs, cells, slots⟩ argsL.toArray v B ∧
      ∀ target, Steps p.tables e below (B.U.setTop { g with pc := g.pc + 3, stack := v.toList ++ rest }) target → Steps p.tables e below (T.setTop g) target := by
  obtain ⟨mk, methM, cM, hnamed, hmethM, -, -, -, -, -, -, hsigM⟩ := Cond.codeWith_spec hcode
  have hstatic : methM.isStatic = true := Cond.static_spec hnamed hmethM hstat
  obtain ⟨kP, hkP, -⟩ := className_of_methodNamed hnamed
  have hinitP : kP.init = .initialized := Cond.initialized_spec (findClass_of_methodNamed hnamed) hkP hinit
  obtain ⟨vm₁, X₁, hstep₁⟩ := X.invokestatic hexec hown hlink hnamed hmethM hstatic hkP hinitP hy (g := g) hg (argsL := argsL) (rest := rest) (hlen _ hsigM) hstack hdg
  obtain ⟨v, B, X', hpost, hsteps⟩ := hK m meth c ⟨T.setVm vm₁, locs, cells, slots⟩ { g with stack := rest } (.invokestatic index) mk argsL.toArray X₁ hg hsize hdg hW (X₁.named hnamed) (hpre vm₁ X₁.warmed)
  exact ⟨v, vm₁, B, X₁.warmed, X', hpost, fun target h => hstep₁ _ fun acts => by rw [doInvoke_state]; exact hsteps.trans h⟩
theorem vx_runSW {y : MethodName} {bytes cc : ByteArray} {maxL nL mc ms n index : Nat} {ret : Option FieldType} {hh : List (Nat × Nat × Nat × Nat)} {ws : List Cond} {rm : Room} {Pc : Array Value → State → Prop} {Qc : Array Value → State → Outcome → State → Prop} {free : Addr → Prop} {Ts : List Cond} {own : String} {As rest : List Value} {g : JFrame}
    (S : CallFix p m c cc nL s args Ts own) (hM : Met l y ws rm Pc Qc mc ms free) (cw : vx_CSW R s args own index y bytes maxL ret hh ws rm mc ms n) (hp : PreS s H Pc As)
    (hg : g.method = m) (hn : As.length = n) (hsize : g.locals.size = nL) (hstack : g.stack = As.reverse ++ rest) (hW : 2 * g.monitorRoom + (rest.map fun v => v.category).sum ≤ 8) (hdg : decode cc g.pc = .ok (.invokestatic index, 3)) (hf : cells + mc ≤ R.cells ∧ slots + ms ≤ R.slots) :
    va_Run p l e R s m args below meth c H locs cells slots mc ms g rest (Qc As.toArray) (free) := by
  obtain ⟨⟨hrc, hrs, hfr, hlo, hws, hcw⟩, hcode, hini, hy, hlen, hl, hstt⟩ := cw
  have hK : Back l R p e below s args y 3 8 (PreOf R mc ms Pc) (PostOf Qc mc ms free) := va_backW (hh := hh) (bytes := bytes) (maxL := maxL) (ret := ret) hM hp.1 hrc hrs hfr hlo hws hcw (fun a' U hW => word_at hW (Or.inl (by first | rfl | simp [Cond.onTables, Cond.keeps, Cond.steady])) hini)
  obtain ⟨hx, hb, hml, ho, -⟩ := S
  intro T hT X
  obtain ⟨v, vm₁, ⟨U', l2, c2, s2⟩, hW₁, X', ⟨g', mk, t, L, e1, e2, hq, h1, hL, h2, h3⟩, st⟩ := vx_callSW X hx (hh := hh) (bytes := bytes) (maxL := maxL) (ret := ret) ho hl hstt hini hcode hy hK hg (hsize.trans hml.symm) (argsL := As) (rest := rest) (fun sig h => hn.trans (hlen sig h)) hstack hW (by rw [hb]; exact hdg)
    (fun vm₁ hW₁ => ⟨hf.1, hf.2, hp.2 (T.setVm vm₁) hT hW₁⟩)
  dsimp only [Pt.U, Pt.locs, Pt.cells, Pt.slots] at X' e1 e2 h1 h2 h3 st
  subst h1; subst h2; subst h3
  exact ⟨v, (T.setVm vm₁).calling g' mk As.toArray, t, U', L, hT, X', hL, e1, e2, hq, st⟩
/-- not caught here, past rows that name other classes: it goes on to the caller -/
theorem vx_outP {p : Program} {l : Launch} {e : Env} {R : Room} {s : State} {m : MethodId} {args : Array Value} {below : List Frame} {meth : Method} {c : Code} {H : Heap} {locs : List Loc} {cells slots : Nat} {free : Addr → Prop} {ls : Array Slot} {rest : List Value} {Qc : Array Value → State → Outcome → State → Prop} {XC : String → State → State → Prop}
    {pc : Nat} {own E : String} {ce : Cell} {q : Addr} {mc ms : Nat} (hown : s.vm.findClass own = some m.cls) (hlocks : meth.locks = false)
    (hpass : ∀ z ∈ c.exceptionTable.toList, covers z pc = false ∨ (z.catchType ≠ 0 ∧ ∃ nm : String, (Cond.classLink own z.catchType nm).before args s = true ∧ va_Nc E nm s)) (hcell : H[q]? = some ce) (hv : ce.vm = .none) (hcl : s.vm.findClass E = some ce.cls)
    (hx : ∀ t : State, t.heap = H → s.vm.Alike t.vm → XC E s t) (hf : ∀ z ∈ locs, free z.base) (hc : cells ≤ mc) (hs : slots ≤ ms) :
    vx_W p l e R s m args below meth c H locs cells slots (vx_MQ below Qc XC args s mc ms free) (F0 m pc ls rest) q := by
  intro T hT X
  have hpl : e.platform.magicAccessors = ({} : Platform).magicAccessors := by rw [X.admits.platform]
  obtain ⟨vm', hW', X', st⟩ := X.outThrough hlocks q (g := F0 m pc ls rest) rfl rfl rfl (cell := ce) (by rw [hT]; exact hcell) (by rw [hv]; rfl)
    (by obtain ⟨k9, h9, -⟩ := Vm.findClass_spec hcl; exact ⟨k9, h9⟩) (fun z hz => by
      rcases hpass z hz with h | ⟨hz0, nm, hl1, hn1⟩
      · exact Or.inl h
      · obtain ⟨c6, hc6, hcl6⟩ := Cond.classLink_spec hown hl1 e.platform hpl
        obtain ⟨a8, b8, h1, h2, h3⟩ := hn1
        cases Option.some.inj (h1.symm.trans hcl)
        cases Option.some.inj (h2.symm.trans hc6)
        exact Or.inr ⟨hz0, _, hcl6, h3⟩)
  obtain ⟨g₀, hfr⟩ := X'.frames_eq
  have hcell9 : ((T.setVm vm').setFrames (.throwing q :: below)).heap[q]? = some ce := by
    show T.heap[q]? = some ce
    rw [hT]; exact hcell
  have hend : Ended ((T.setVm vm').setFrames (.throwing q :: below)) below (.threw q) := State.frames_setFrames _ (State.cur_lt_of_frames hfr)
  refine ⟨(T.setVm vm').setFrames (.throwing q :: below), ?_, .threw q, X'.here.running, hend, Or.inr ⟨q, rfl, E, ce, locs, hx _ hT (X'.ends _).1.alike, hcell9, hv, hcl, (X'.ends _).1, (X'.ends _).2.mono hc hs, hf⟩⟩
  rw [X.pushThrowing_eq]
  exact st
/-- a thing of a world lies in the heap -/
theorem vx_lt {D : va_G} {cl : List vw_C} {ws : va_W} {H1 : Heap} (h : va_P D cl ws H1) {k : Nat} {q : Nat × va_E} (hk : ws[k]? = some q) : q.1 < H1.size := (h k q hk).lt
end VXS
/-! ===== END ===== -/
/-! ===== BEGIN methods with a table of their own: called by a name, returning or throwing ===== -/
section VXH
/-! vx_backW, vx_callVX, vx_callSX, vx_callVW, vx_runVW, vx_runVX, vx_runSX, vx_ofWH follow the same proofs as their sisters above (Free/Laws.lean, Shelf42/LK1.lean); vx_outP calls Shelf42/NT130.lean (outThrough). -/
section
variable {l : Launch} {R : Room} {p : Program} {e : Env} {below : List Frame} {s : State} {sargs : Array Value} {y : MethodName} {len W9 : Nat}
theorem vx_backW {ws : List Cond} {rm : Room} {Pc : Array Value → State → Prop} {Qc : Array Value → State → Outcome → State → Prop} {XC : String → State → State → Prop} {mc ms : Nat} {free : Addr → Prop} {bytes : ByteArray} {maxL : Nat} {ret : Option FieldType} {hh : List (Nat × Nat × Nat × Nat)}
    (hM : vx_Met l y ws rm Pc Qc XC mc ms free) (hblind : FrameBlind Pc) (hrc : rm.cells = mc) (hrs : rm.slots = ms)
    (hframes : rm.frames + 1 ≤ R.frames) (hlocals : W9 + (maxL + 11) + rm.locals ≤ R.locals)
    (hws : ∀ w ∈ ws, ∀ a' U, s.WarmedH U.vm → w.before a' U = true) (hcode : Cond.codeWith y bytes maxL ret hh ∈ ws) (hinit : ∀ a' U, s.WarmedH U.vm → (Cond.initialized y.cls).before a' U = true) :
    vx_Back l R p e below s sargs y len W9 (PreOf R mc ms Pc) (PostOf Qc mc ms free) (vx_Post XC mc ms free) := by
  intro m meth c A g ig mk a X hg hsize hdg hW hn hp
  have h1 : (headSpec ws rm).pre.before a A.U = true := atoms_intro fun w hw => hws w hw _ _ X.warmed
  have h2 : (Cond.codeWith y bytes maxL ret hh).before a A.U = true := hws _ hcode _ _ X.warmed
  have h3 : (Cond.initialized y.cls).before a A.U = true := hinit _ _ X.warmed
  have h4 : A.cells + (headSpec ws rm).room.cells ≤ R.cells := by rw [show (headSpec ws rm).room.cells = mc from hrc]; exact hp.1
  have h5 : A.slots + (headSpec ws rm).room.slots ≤ R.slots := by rw [show (headSpec ws rm).room.slots = ms from hrs]; exact hp.2.1
  have hPc : Pc a (A.U.calling g mk a) := hblind _ _ _ _ hp.2.2
  obtain ⟨U, Ls, c0, s0⟩ := A
  dsimp only [Pt.U, Pt.locs, Pt.cells, Pt.slots] at h1 h2 h3 h4 h5 X hn hPc ⊢
  obtain ⟨m9, methY, cY, hn9, hmY, hcY, -, hlY, -⟩ := Cond.codeWith_spec h2
  cases Option.some.inj (hn9.symm.trans hn)
  obtain ⟨kY, hkY, -⟩ := className_of_methodNamed hn
  have hinitY : kY.init = .initialized := Cond.initialized_spec (findClass_of_methodNamed hn) hkY h3
  have h : At U g.method c below := by rw [hg]; exact X.here
  have hlocals9 : W9 + (maxL + 11) + (headSpec ws rm).room.locals ≤ R.locals := hlocals
  have happ : (headSpec ws rm).appliesLoose y e.platform (U.calling g mk a) = true :=
    Spec.appliesLoose_calling (g := g) h hdg hn hkY hinitY
      (X.room_calling (g := g) (R' := (headSpec ws rm).room) hsize hmY hcY hframes (by rw [hlY]; omega) h4 h5) h1
  obtain ⟨mid, hmid⟩ := h.above
  have hfr : (U.setTop g).frames = (.java g :: mid) ++ below := by rw [State.frames_setTop' g h.top, hmid]; rfl
  obtain ⟨o, s₂, hsteps, -, hend, hq⟩ := Steps.callFree hM p X.admits X.cas X.clock (acts := []) hfr happ hPc trivial
  have hq' : vx_Q Qc XC mc ms free a (U.calling g mk a) o s₂ := hq
  rw [State.frames_setTop' g h.top] at hend
  obtain ⟨g₀, hg0⟩ := Option.isSome_iff_exists.mp h.top
  obtain ⟨r, hr⟩ := State.topJava?_eq_some.mp hg0
  have hr' : (({ U with heap := s₂.heap, slotsUsed := s₂.slotsUsed } : State).setVm s₂.vm).frames = .java g₀ :: r := hr
  rcases hq' with ⟨hqc, L, hfe, hL⟩ | ⟨q, rfl, E, ce, L, hx, hce, hcv, hcl, hW₂, hsm, hL⟩
  · obtain ⟨⟨v, rfl⟩, hW₂, e2, q2, q3, q4, q5, q6⟩ := id hfe
    have e3 : s₂ = ({ (U.calling g mk a).setFrames s₂.frames with heap := s₂.heap, slotsUsed := s₂.slotsUsed } : State).setVm s₂.vm := by
      have : s₂ = ({ s₂ with vm := (U.calling g mk a).vm } : State).setVm s₂.vm := rfl
      rw [e2] at this
      exact this
    obtain ⟨c₂, i₂, len₂, hc₂, hd₂, hf₂⟩ := hend
    have hW' : U.WarmedH s₂.vm := hW₂
    have hcc : c₂ = c := by
      have h1 : s₂.code? g.method = U.code? g.method := by
        rw [State.code?_eq, State.code?_eq, hW'.alike.method?]
      exact Option.some.inj (hc₂.symm.trans (h1.trans h.code))
    subst hcc
    have hlen : len₂ = len := by rw [hdg] at hd₂; cases hd₂; rfl
    subst hlen
    have hs₂ : s₂ = (({ U with heap := s₂.heap, slotsUsed := s₂.slotsUsed } : State).setVm s₂.vm).setTop { g with pc := g.pc + len₂, stack := v.toList ++ g.stack } := by
      refine e3.trans ?_
      rw [hf₂, State.calling_eq h.top, State.setFrames_setFrames, State.setTop_of_frames _ hr', hr]
      rfl
    have hsame : U.sameButNew ({ U with heap := s₂.heap, slotsUsed := s₂.slotsUsed } : State) L mc ms := by
      refine ⟨?_, q2, q3, q4, q5, q6⟩
      obtain ⟨t, ht, -⟩ := State.frames_cons hr
      show ({ U with heap := s₂.heap, slotsUsed := s₂.slotsUsed } : State) = { U.setFrames U.frames with heap := s₂.heap, slotsUsed := s₂.slotsUsed }
      rw [State.setFrames_self ht]
    subst hg
    refine Or.inl ⟨v, ⟨(({ U with heap := s₂.heap, slotsUsed := s₂.slotsUsed } : State).setVm s₂.vm), Ls ++ L, c0 + mc, s0 + ms⟩,
      ⟨X.admits, X.cas, X.clock, X.frames, X.room, X.hears, X.method, X.code, (X.here.setHeapUsed s₂.heap s₂.slotsUsed).setVm hW'.alike, X.tail, State.WarmedH.trans X.warmed hW', X.limits, X.bytes, X.same.trans (hsame.setVm s.vm)⟩,
      ⟨g, mk, s₂, L, rfl, rfl, hqc, rfl, hL, rfl, rfl⟩, ?_⟩
    show Steps p.tables e below _ ((({ U with heap := s₂.heap, slotsUsed := s₂.slotsUsed } : State).setVm s₂.vm).setTop { g with pc := g.pc + len₂, stack := v.toList ++ g.stack })
    rw [← hs₂]
    exact hsteps
  · obtain ⟨e2, q2, q3, q4, q5, q6⟩ := id hsm
    have e3 : s₂ = ({ (U.calling g mk a).setFrames s₂.frames with heap := s₂.heap, slotsUsed := s₂.slotsUsed } : State).setVm s₂.vm := by
      have : s₂ = ({ s₂ with vm := (U.calling g mk a).vm } : State).setVm s₂.vm := rfl
      rw [e2] at this
      exact this
    have hf₂ : s₂.frames = .throwing q :: .java g :: U.frames.tail := hend
    have hW' : U.WarmedH s₂.vm := hW₂
    have hs₂ : s₂ = ((({ U with heap := s₂.heap, slotsUsed := s₂.slotsUsed } : State).setVm s₂.vm).setTop g).pushFrame (.throwing q) := by
      refine e3.trans ?_
      rw [hf₂, State.calling_eq h.top, State.setFrames_setFrames, State.pushFrame, State.frames_setTop _ hr', State.setTop_of_frames _ hr', State.setFrames_setFrames, hr]
      rfl
    have hsame : U.sameButNew ({ U with heap := s₂.heap, slotsUsed := s₂.slotsUsed } : State) L mc ms := by
      refine ⟨?_, q2, q3, q4, q5, q6⟩
      obtain ⟨t, ht, -⟩ := State.frames_cons hr
      show ({ U with heap := s₂.heap, slotsUsed := s₂.slotsUsed } : State) = { U.setFrames U.frames with heap := s₂.heap, slotsUsed := s₂.slotsUsed }
      rw [State.setFrames_self ht]
    subst hg
    refine Or.inr ⟨q, ⟨(({ U with heap := s₂.heap, slotsUsed := s₂.slotsUsed } : State).setVm s₂.vm), Ls ++ L, c0 + mc, s0 + ms⟩,
      ⟨X.admits, X.cas, X.clock, X.frames, X.room, X.hears, X.method, X.code, (X.here.setHeapUsed s₂.heap s₂.slotsUsed).setVm hW'.alike, X.tail, State.WarmedH.trans X.warmed hW', X.limits, X.bytes, X.same.trans (hsame.setVm s.vm)⟩,
      ⟨g, mk, s₂, L, E, ce, rfl, rfl, hx, hce, hcv, hcl, rfl, hL, rfl, rfl⟩, ?_⟩
    show Steps p.tables e below _ (((({ U with heap := s₂.heap, slotsUsed := s₂.slotsUsed } : State).setVm s₂.vm).setTop g).pushFrame (.throwing q))
    rw [← hs₂]
    exact hsteps
end
variable {p : Program} {l : Launch} {e : Env} {R : Room} {s : State} {m : MethodId} {args : Array Value} {below : List Frame} {meth : Method} {c : Code} {T : State} {H : Heap} {locs : List Loc} {cells slots : Nat}
theorem vx_callVX (X : Stand p l e R s m args below meth c T locs cells slots) (hexec : p.tables.exec = Jvm.exec) {own C : String} {index : Nat} {y : MethodName} {bytes : ByteArray} {maxL : Nat} {ret : Option FieldType} {hh : List (Nat × Nat × Nat × Nat)}
    (hown : s.vm.findClass own = some m.cls) (hlink : (Cond.methodLink own index y).before args s = true) (hinst : (Cond.instanceMethod y).before args s = true) (hsel : (Cond.selects C y y).before args s = true)
    (hcode : (Cond.codeWith y bytes maxL ret hh).before args s = true) (hy : y.cls ≠ "java/lang/invoke/MethodHandle" ∧ y.cls ≠ "java/lang/invoke/VarHandle")
    {W9 : Nat} {Pre : Pt → Array Value → Prop} {Post : Pt → Array Value → Option Value → Pt → Prop} {PostX : Pt → Array Value → Addr → Pt → Prop} (hK : vx_Back l R p e below s args y 3 W9 Pre Post PostX)
    {b : Addr} {cellB : Cell} (hcell : T.heap[b]? = some cellB) (hobj : cellB.vm.isStatics = false) (hcls : s.vm.findClass C = some cellB.cls)
    {g : JFrame} (hg : g.method = m) (hsize : g.locals.size = c.maxLocals) {argsL rest : List Value} (hlen : ∀ sig, parseMethodDescriptor y.desc = some sig → argsL.length = sig.parameters.length)
    (hstack : g.stack = argsL.reverse ++ .ref b :: rest) (hW : 2 * g.monitorRoom + (rest.map fun v => v.category).sum ≤ W9) (hdg : decode c.code g.pc = .ok (.invokevirtual index, 3))
    (hpre : ∀ vm₁, s.WarmedH vm₁ → Pre ⟨T.setVm vm₁, locs, cells, slots⟩ (Value.ref b :: argsL).toArray) :
    (∃ (v : Option Value) (vm₁ : Vm) (B : Pt), s.WarmedH vm₁ ∧ Stand p l e R s m args below meth c B.U B.locs B.cells B.slots ∧ Post ⟨T.setVm vm₁, locs, cells, slots⟩ (Value.ref b :: argsL).toArray v B ∧
      ∀ target, Steps p.tables e below (B.U.setTop { g with pc := g.pc + 3, stack := v.toList ++ rest }) target → Steps p.tables e below (T.setTop g) target) ∨
    (∃ (q : Addr) (vm₁ : Vm) (B : Pt), s.WarmedH vm₁ ∧ Stand p l e R s m args below meth c B.U B.locs B.cells B.slots ∧ PostX ⟨T.setVm vm₁, locs, cells, slots⟩ (Value.ref b :: argsL).toArray q B ∧
      Steps p.tables e below (T.setTop g) ((B.U.setTop { g with stack := rest }).pushFrame (.throwing q))) := by
  obtain ⟨mk, methM, hnamed, hmethM, hstM, habM⟩ := Cond.instanceMethod_spec hinst
  obtain ⟨m8, methM', cM, hn8, hmethM', -, -, -, -, -, -, hsigM⟩ := Cond.codeWith_spec hcode
  cases Option.some.inj (hn8.symm.trans hnamed)
  cases hmethM.symm.trans hmethM'
  obtain ⟨c2, r2, m2, q1, q2, q3, q4, kP, hkP, hkPi⟩ := Cond.selects_spec hsel
  cases hcls.symm.trans q1
  cases (State.methodFound?_of_named hnamed hy).symm.trans q2
  cases hnamed.symm.trans q3
  have hselP : selectMethod e.platform s.vm cellB.cls mk = .method mk := by rw [Launch.admits_selectMethod X.admits]; exact q4
  obtain ⟨vm₁, X₁, hstep₁⟩ := X.invokevirtual hexec hown hlink hnamed hmethM hstM hkP hkPi hy (a := b) (cell := cellB) hcell
    (fun z h => by rw [h] at hobj; cases hobj) hselP hmethM habM hkP hkPi (g := g) hg (argsL := argsL) (rest := rest) (hlen _ hsigM) hstack hdg
  rcases hK m meth c ⟨T.setVm vm₁, locs, cells, slots⟩ { g with stack := rest } (.invokevirtual index) mk (Value.ref b :: argsL).toArray X₁ hg hsize hdg hW (X₁.named hnamed) (hpre vm₁ X₁.warmed) with ⟨v, B, X', hpost, hsteps⟩ | ⟨q, B, X', hpost, hsteps⟩
  · exact Or.inl ⟨v, vm₁, B, X₁.warmed, X', hpost, fun target h => hstep₁ _ fun acts => by rw [doInvoke_state]; exact hsteps.trans h⟩
  · exact Or.inr ⟨q, vm₁, B, X₁.warmed, X', hpost, hstep₁ _ fun acts => by rw [doInvoke_state]; exact hsteps⟩
theorem vx_callSX (X : Stand p l e R s m args below meth c T locs cells slots) (hexec : p.tables.exec = Jvm.exec) {own : String} {index : Nat} {y : MethodName} {bytes : ByteArray} {maxL : Nat} {ret : Option FieldType} {hh : List (Nat × Nat × Nat × Nat)}
    (hown : s.vm.findClass own = some m.cls) (hlink : (Cond.methodLink own index y).before args s = true) (hstat : (Cond.static y).before args s = true) (hinit : (Cond.initialized y.cls).before args s = true)
    (hcode : (Cond.codeWith y bytes maxL ret hh).before args s = true) (hy : y.cls ≠ "java/lang/invoke/MethodHandle" ∧ y.cls ≠ "java/lang/invoke/VarHandle")
    {W9 : Nat} {Pre : Pt → Array Value → Prop} {Post : Pt → Array Value → Option Value → Pt → Prop} {PostX : Pt → Array Value → Addr → Pt → Prop} (hK : vx_Back l R p e below s args y 3 W9 Pre Post PostX)
    {g : JFrame} (hg : g.method = m) (hsize : g.locals.size = c.maxLocals) {argsL rest : List Value} (hlen : ∀ sig, parseMethodDescriptor y.desc = some sig → argsL.length = sig.parameters.length)
    (hstack : g.stack = argsL.reverse ++ rest) (hW : 2 * g.monitorRoom + (rest.map fun v => v.category).sum ≤ W9) (hdg : decode c.code g.pc = .ok (.invokestatic index, 3))
    (hpre : ∀ vm₁, s.WarmedH vm₁ → Pre ⟨T.setVm vm₁, locs, cells, slots⟩ argsL.toArray) :
    (∃ (v : Option Value) (vm₁ : Vm) (B : Pt), s.WarmedH vm₁ ∧ Stand p l e R s m args below meth c B.U B.locs B.cells B.slots ∧ Post ⟨T.setVm vm₁, locs, cells, slots⟩ argsL.toArray v B ∧
      ∀ target, Steps p.tables e below (B.U.setTop { g with pc := g.pc + 3, stack := v.toList ++ rest }) target → Steps p.tables e below (T.setTop g) target) ∨
    (∃ (q : Addr) (vm₁ : Vm) (B : Pt), s.WarmedH vm₁ ∧ Stand p l e R s m args below meth c B.U B.locs B.cells B.slots ∧ PostX ⟨T.setVm vm₁, locs, cells, slots⟩ argsL.toArray q B ∧
      Steps p.tables e below (T.setTop g) ((B.U.setTop { g with stack := rest }).pushFrame (.throwing q))) := by
  obtain ⟨mk, methM, cM, hnamed, hmethM, -, -, -, -, -, -, hsigM⟩ := Cond.codeWith_spec hcode
  have hstatic : methM.isStatic = true := Cond.static_spec hnamed hmethM hstat
  obtain ⟨kP, hkP, -⟩ := className_of_methodNamed hnamed
  have hinitP : kP.init = .initialized := Cond.initialized_spec (findClass_of_methodNamed hnamed) hkP hinit
  obtain ⟨vm₁, X₁, hstep₁⟩ := X.invokestatic hexec hown hlink hnamed hmethM hstatic hkP hinitP hy (g := g) hg (argsL := argsL) (rest := rest) (hlen _ hsigM) hstack hdg
  rcases hK m meth c ⟨T.setVm vm₁, locs, cells, slots⟩ { g with stack := rest } (.invokestatic index) mk argsL.toArray X₁ hg hsize hdg hW (X₁.named hnamed) (hpre vm₁ X₁.warmed) with ⟨v, B, X', hpost, hsteps⟩ | ⟨q, B, X', hpost, hsteps⟩
  · exact Or.inl ⟨v, vm₁, B, X₁.warmed, X', hpost, fun target h => hstep₁ _ fun acts => by rw [doInvoke_state]; exact hsteps.trans h⟩
  · exact Or.inr ⟨q, vm₁, B, X₁.warmed, X', hpost, hstep₁ _ fun acts => by rw [doInvoke_state]; exact hsteps⟩
theorem vx_callVW (X : Stand p l e R s m args below meth c T locs cells slots) (hexec : p.tables.exec = Jvm.exec) {own C : String} {index : Nat} {y : MethodName} {bytes : ByteArray} {maxL : Nat} {ret : Option FieldType} {hh : List (Nat × Nat × Nat × Nat)}
    (hown : s.vm.findClass own = some m.cls) (hlink : (Cond.methodLink own index y).before args s = true) (hinst : (Cond.instanceMethod y).before args s = true) (hsel : (Cond.selects C y y).before args s = true)
    (hcode : (Cond.codeWith y bytes maxL ret hh).before args s = true) (hy : y.cls ≠ "java/lang/invoke/MethodHandle" ∧ y.cls ≠ "java/lang/invoke/VarHandle")
    {W9 : Nat} {Pre : Pt → Array Value → Prop} {Post : Pt → Array Value → Option Value → Pt → Prop} (hK : Back l R p e below s args y 3 W9 Pre Post)
    {b : Addr} {cellB : Cell} (hcell : T.heap[b]? = some cellB) (hobj : cellB.vm.isStatics = false) (hcls : s.vm.findClass C = some cellB.cls)
    {g : JFrame} (hg : g.method = m) (hsize : g.locals.size = c.maxLocals) {argsL rest : List Value} (hlen : ∀ sig, parseMethodDescriptor y.desc = some sig → argsL.length = sig.parameters.length)
    (hstack : g.stack = argsL.reverse ++ .ref b :: rest) (hW : 2 * g.monitorRoom + (rest.map fun v => v.category).sum ≤ W9) (hdg : decode c.code g.pc = .ok (.invokevirtual index, 3))
    (hpre : ∀ vm₁, s.WarmedH vm₁ → Pre ⟨T.setVm vm₁, locs, cells, slots⟩ (Value.ref b :: argsL).toArray) :
    ∃ (v : Option Value) (vm₁ : Vm) (B : Pt), s.WarmedH vm₁ ∧ Stand p l e R s m args below meth c B.U B.locs B.cells B.slots ∧ Post ⟨T.setVm vm₁, locs, cells, slots⟩ (Value.ref b :: argsL).toArray v B ∧
      ∀ target, Steps p.tables e below (B.U.setTop { g with pc := g.pc + 3, stack := v.toList ++ rest }) target → Steps p.tables e below (T.setTop g) target := by
  obtain ⟨mk, methM, hnamed, hmethM, hstM, habM⟩ := Cond.instanceMethod_spec hinst
  obtain ⟨m8, methM', cM, hn8, hmethM', -, -, -, -, -, -, hsigM⟩ := Cond.codeWith_spec hcode
  cases Option.some.inj (hn8.symm.trans hnamed)
  cases hmethM.symm.trans hmethM'
  obtain ⟨c2, r2, m2, q1, q2, q3, q4, kP, hkP, hkPi⟩ := Cond.selects_spec hsel
  cases hcls.symm.trans q1
  cases (State.methodFound?_of_named hnamed hy).symm.trans q2
  cases hnamed.symm.trans q3
  have hselP : selectMethod e.platform s.vm cellB.cls mk = .method mk := by rw [Launch.admits_selectMethod X.admits]; exact q4
  obtain ⟨vm₁, X₁, hstep₁⟩ := X.invokevirtual hexec hown hlink hnamed hmethM hstM hkP hkPi hy (a := b) (cell := cellB) hcell
    (fun z h => by rw [h] at hobj; cases hobj) hselP hmethM habM hkP hkPi (g := g) hg (argsL := argsL) (rest := rest) (hlen _ hsigM) hstack hdg
  obtain ⟨v, B, X', hpost, hsteps⟩ := hK m meth c ⟨T.setVm vm₁, locs, cells, slots⟩ { g with stack := rest } (.invokevirtual index) mk (Value.ref b :: argsL).toArray X₁ hg hsize hdg hW (X₁.named hnamed) (hpre vm₁ X₁.warmed)
  exact ⟨v, vm₁, B, X₁.warmed, X', hpost, fun target h => hstep₁ _ fun acts => by rw [doInvoke_state]; exact hsteps.trans h⟩
abbrev vx_CVW (R : Room) (s : State) (args : Array Value) (own C : String) (index : Nat) (y : MethodName) (bytes : ByteArray) (maxL : Nat) (ret : Option FieldType) (hh : List (Nat × Nat × Nat × Nat)) (ws : List Cond) (rm : Room) (mc ms n : Nat) : Prop :=
  (rm.cells = mc ∧ rm.slots = ms ∧ rm.frames + 1 ≤ R.frames ∧ 8 + (maxL + 11) + rm.locals ≤ R.locals ∧ (∀ w ∈ ws, ∀ (a' : Array Value) (U : State), s.WarmedH U.vm → w.before a' U = true) ∧ Cond.codeWith y bytes maxL ret hh ∈ ws) ∧
  (Cond.codeWith y bytes maxL ret hh).before args s = true ∧ (Cond.initialized y.cls).before args s = true ∧ (y.cls ≠ "java/lang/invoke/MethodHandle" ∧ y.cls ≠ "java/lang/invoke/VarHandle") ∧
  (∀ sig, parseMethodDescriptor y.desc = some sig → n = sig.parameters.length) ∧ (Cond.methodLink own index y).before args s = true ∧ (Cond.instanceMethod y).before args s = true ∧ (Cond.selects C y y).before args s = true
theorem vx_cwVW {own C : String} {index maxL mc ms : Nat} {y : MethodName} {bytes : ByteArray} {ret : Option FieldType} {hh : List (Nat × Nat × Nat × Nat)} {Ts ws ws' : List Cond} {rm : Room} (n : Nat) (ht : ∀ w ∈ Ts, w.before args s = true) (hT : GoodIn Ts (wsV own index C y ws)) (hw : ws = Cond.codeWith y bytes maxL ret hh :: ws') (hrc : rm.cells = mc) (hrs : rm.slots = ms)
    (hd : y.cls = C ∧ y.cls ≠ "java/lang/invoke/MethodHandle" ∧ y.cls ≠ "java/lang/invoke/VarHandle" ∧ (parseMethodDescriptor y.desc).map (fun d => d.parameters.length) = some n) (hR : rm.frames + 1 ≤ R.frames ∧ 8 + (maxL + 11) + rm.locals ≤ R.locals) :
    vx_CVW R s args own C index y bytes maxL ret hh ws rm mc ms n := by
  obtain ⟨hC, hd⟩ := hd
  subst hC
  have ok : ∀ w ∈ wsV own index y.cls y ws, w.before args s = true := fun w h => ht w (hT w h).1
  have hG : GoodIn Ts ws := fun w h => hT w (by unfold wsV; exact List.mem_append_right _ h)
  have hc : Cond.codeWith y bytes maxL ret hh ∈ ws := by rw [hw]; exact List.mem_cons_self
  refine ⟨⟨hrc, hrs, hR.1, hR.2, pay_in ht hG, hc⟩, ht _ (hG _ hc).1, ok _ (by simp [wsV]), ⟨hd.1, hd.2.1⟩, fun sig h => ?_, ok _ (by simp [wsV]), ok _ (by simp [wsV]), ok _ (by simp [wsV])⟩
  have h2 := hd.2.2
  rw [h] at h2
  exact (Option.some.inj h2).symm
theorem vx_runVW {y : MethodName} {bytes cc : ByteArray} {maxL nL mc ms n index : Nat} {ret : Option FieldType} {hh : List (Nat × Nat × Nat × Nat)} {ws : List Cond} {rm : Room} {Pc : Array Value → State → Prop} {Qc : Array Value → State → Outcome → State → Prop} {free : Addr → Prop} {Ts : List Cond} {own C : String} {b : Addr} {As rest : List Value} {g : JFrame}
    (S : CallFix p m c cc nL s args Ts own) (hM : Met l y ws rm Pc Qc mc ms free) (cw : vx_CVW R s args own C index y bytes maxL ret hh ws rm mc ms n) (hp : PreV s H C b Pc As)
    (hg : g.method = m) (hn : As.length = n) (hsize : g.locals.size = nL) (hstack : g.stack = As.reverse ++ .ref b :: rest) (hW : 2 * g.monitorRoom + (rest.map fun v => v.category).sum ≤ 8) (hdg : decode cc g.pc = .ok (.invokevirtual index, 3)) (hf : cells + mc ≤ R.cells ∧ slots + ms ≤ R.slots) :
    va_Run p l e R s m args below meth c H locs cells slots mc ms g rest (Qc (Value.ref b :: As).toArray) free := by
  obtain ⟨⟨hrc, hrs, hfr, hlo, hws, hcw⟩, hcode, hini, hy, hlen, hl, hin, hse⟩ := cw
  have hK : Back l R p e below s args y 3 8 (PreOf R mc ms Pc) (PostOf Qc mc ms free) := va_backW (hh := hh) (bytes := bytes) (maxL := maxL) (ret := ret) hM hp.1 hrc hrs hfr hlo hws hcw (fun a' U hW => word_at hW (Or.inl (by first | rfl | simp [Cond.onTables, Cond.keeps, Cond.steady])) hini)
  obtain ⟨hx, hb, hml, ho, -⟩ := S
  obtain ⟨-, ⟨cellB, hcB, hoB, hclB⟩, hPc⟩ := hp
  intro T hT X
  obtain ⟨v, vm₁, ⟨U', l2, c2, s2⟩, hW₁, X', ⟨g', mk, t, L, e1, e2, hq, h1, hL, h2, h3⟩, st⟩ := vx_callVW X hx (C := C) (hh := hh) (bytes := bytes) (maxL := maxL) (ret := ret) ho hl hin hse hcode hy hK (by rw [hT]; exact hcB) hoB hclB hg (hsize.trans hml.symm) (argsL := As) (rest := rest) (fun sig h => hn.trans (hlen sig h)) hstack hW (by rw [hb]; exact hdg)
    (fun vm₁ hW₁ => ⟨hf.1, hf.2, hPc (T.setVm vm₁) hT hW₁⟩)
  dsimp only [Pt.U, Pt.locs, Pt.cells, Pt.slots] at X' e1 e2 h1 h2 h3 st
  subst h1; subst h2; subst h3
  exact ⟨v, (T.setVm vm₁).calling g' mk (Value.ref b :: As).toArray, t, U', L, hT, X', hL, e1, e2, hq, st⟩
section
variable {y : MethodName} {bytes cc : ByteArray} {maxL nL mc ms n index : Nat} {ret : Option FieldType} {ws : List Cond} {rm : Room} {Pc : Array Value → State → Prop} {Qc : Array Value → State → Outcome → State → Prop} {XC : String → State → State → Prop} {free : Addr → Prop} {Ts : List Cond} {own C : String} {b : Addr} {As rest : List Value} {g : JFrame}
theorem vx_runVX {hh : List (Nat × Nat × Nat × Nat)} (S : CallFix p m c cc nL s args Ts own) (hM : vx_Met l y ws rm Pc Qc XC mc ms free) (cw : vx_CVW R s args own C index y bytes maxL ret hh ws rm mc ms n) (hp : PreV s H C b Pc As)
    (hg : g.method = m) (hn : As.length = n) (hsize : g.locals.size = nL) (hstack : g.stack = As.reverse ++ .ref b :: rest) (hW : 2 * g.monitorRoom + (rest.map fun v => v.category).sum ≤ 8) (hdg : decode cc g.pc = .ok (.invokevirtual index, 3)) (hf : cells + mc ≤ R.cells ∧ slots + ms ≤ R.slots) :
    vx_Run p l e R s m args below meth c H locs cells slots mc ms g rest (Qc (Value.ref b :: As).toArray) XC free := by
  obtain ⟨⟨hrc, hrs, hfr, hlo, hws, hcw⟩, hcode, hini, hy, hlen, hl, hin, hse⟩ := cw
  have hK : vx_Back l R p e below s args y 3 8 (PreOf R mc ms Pc) (PostOf Qc mc ms free) (vx_Post XC mc ms free) := vx_backW (hh := hh) (bytes := bytes) (maxL := maxL) (ret := ret) hM hp.1 hrc hrs hfr hlo hws hcw (fun a' U hW => word_at hW (Or.inl (by first | rfl | simp [Cond.onTables, Cond.keeps, Cond.steady])) hini)
  obtain ⟨hx, hb, hml, ho, -⟩ := S
  obtain ⟨-, ⟨cellB, hcB, hoB, hclB⟩, hPc⟩ := hp
  intro T hT X
  rcases vx_callVX X hx (C := C) (hh := hh) (bytes := bytes) (maxL := maxL) (ret := ret) ho hl hin hse hcode hy hK (by rw [hT]; exact hcB) hoB hclB hg (hsize.trans hml.symm) (argsL := As) (rest := rest) (fun sig h => hn.trans (hlen sig h)) hstack hW (by rw [hb]; exact hdg)
    (fun vm₁ hW₁ => ⟨hf.1, hf.2, hPc (T.setVm vm₁) hT hW₁⟩) with ⟨v, vm₁, ⟨U', l2, c2, s2⟩, hW₁, X', ⟨g', mk, t, L, e1, e2, hq, h1, hL, h2, h3⟩, st⟩ | ⟨q, vm₁, ⟨U', l2, c2, s2⟩, hW₁, X', ⟨g', mk, t, L, E, ce, e1, e2, hq, hce, hcv, hcl, h1, hL, h2, h3⟩, st⟩
  · dsimp only [Pt.U, Pt.locs, Pt.cells, Pt.slots] at X' e1 e2 h1 h2 h3 st
    subst h1; subst h2; subst h3
    exact Or.inl ⟨v, (T.setVm vm₁).calling g' mk (Value.ref b :: As).toArray, t, U', L, hT, X', hL, e1, e2, hq, st⟩
  · dsimp only [Pt.U, Pt.locs, Pt.cells, Pt.slots] at X' e1 e2 h1 h2 h3 st hcl
    subst h1; subst h2; subst h3
    exact Or.inr ⟨q, (T.setVm vm₁).calling g' mk (Value.ref b :: As).toArray, t, U', L, E, ce, hT, X', hL, e1, e2, hq, hce, hcv, vx_cls hW₁ hcl, st⟩
theorem vx_runSX {hh : List (Nat × Nat × Nat × Nat)} (S : CallFix p m c cc nL s args Ts own) (hM : vx_Met l y ws rm Pc Qc XC mc ms free) (cw : vx_CSW R s args own index y bytes maxL ret hh ws rm mc ms n) (hp : PreS s H Pc As)
    (hg : g.method = m) (hn : As.length = n) (hsize : g.locals.size = nL) (hstack : g.stack = As.reverse ++ rest) (hW : 2 * g.monitorRoom + (rest.map fun v => v.category).sum ≤ 8) (hdg : decode cc g.pc = .ok (.invokestatic index, 3)) (hf : cells + mc ≤ R.cells ∧ slots + ms ≤ R.slots) :
    vx_Run p l e R s m args below meth c H locs cells slots mc ms g rest (Qc As.toArray) XC free := by
  obtain ⟨⟨hrc, hrs, hfr, hlo, hws, hcw⟩, hcode, hini, hy, hlen, hl, hstt⟩ := cw
  have hK : vx_Back l R p e below s args y 3 8 (PreOf R mc ms Pc) (PostOf Qc mc ms free) (vx_Post XC mc ms free) := vx_backW (hh := hh) (bytes := bytes) (maxL := maxL) (ret := ret) hM hp.1 hrc hrs hfr hlo hws hcw (fun a' U hW => word_at hW (Or.inl (by first | rfl | simp [Cond.onTables, Cond.keeps, Cond.steady])) hini)
  obtain ⟨hx, hb, hml, ho, -⟩ := S
  intro T hT X
  rcases vx_callSX X hx (hh := hh) (bytes := bytes) (maxL := maxL) (ret := ret) ho hl hstt hini hcode hy hK hg (hsize.trans hml.symm) (argsL := As) (rest := rest) (fun sig h => hn.trans (hlen sig h)) hstack hW (by rw [hb]; exact hdg)
    (fun vm₁ hW₁ => ⟨hf.1, hf.2, hp.2 (T.setVm vm₁) hT hW₁⟩) with ⟨v, vm₁, ⟨U', l2, c2, s2⟩, hW₁, X', ⟨g', mk, t, L, e1, e2, hq, h1, hL, h2, h3⟩, st⟩ | ⟨q, vm₁, ⟨U', l2, c2, s2⟩, hW₁, X', ⟨g', mk, t, L, E, ce, e1, e2, hq, hce, hcv, hcl, h1, hL, h2, h3⟩, st⟩
  · dsimp only [Pt.U, Pt.locs, Pt.cells, Pt.slots] at X' e1 e2 h1 h2 h3 st
    subst h1; subst h2; subst h3
    exact Or.inl ⟨v, (T.setVm vm₁).calling g' mk As.toArray, t, U', L, hT, X', hL, e1, e2, hq, st⟩
  · dsimp only [Pt.U, Pt.locs, Pt.cells, Pt.slots] at X' e1 e2 h1 h2 h3 st hcl
    subst h1; subst h2; subst h3
    exact Or.inr ⟨q, (T.setVm vm₁).calling g' mk As.toArray, t, U', L, E, ce, hT, X', hL, e1, e2, hq, hce, hcv, vx_cls hW₁ hcl, st⟩
end
end VXH
theorem vx_ofWH {l : Launch} {y : MethodName} {ws ws' : List Cond} {rm : Room} {Pc : Array Value → State → Prop} {Qc : Array Value → State → Outcome → State → Prop} {XC : String → State → State → Prop} {mc ms : Nat} {free : Addr → Prop} {cc : ByteArray} {maxL : Nat} {ret : Option FieldType} {hh : List (Nat × Nat × Nat × Nat)}
    (hy : plainName y.cls = true) (hw : ws = Cond.codeWith y cc maxL ret hh :: ws')
    (body : ∀ p e s m args below meth c s₁, BodyLoose p l y (headSpec ws rm) cc maxL ret e s m args below meth c s₁ → c.maxLocals = maxL → Pc args s →
      W p l e (headSpec ws rm).room s m args below meth c s.heap [] 0 0 (vx_MQ below Qc XC args s mc ms free) (entryFrame m args maxL)) : vx_Met l y ws rm Pc Qc XC mc ms free := by
  refine MetFree.of_bodyS (code := cc) (maxLocals := maxL) (ret := ret) hy ?_ ?_
  · intro args s m h hn
    obtain ⟨m9, meth, c, hn9, h1, h2, h3, h4, -, h5, h6, -⟩ := Cond.codeWith_spec (atoms_spec (ws := ws) h _ (by rw [hw]; exact List.mem_cons_self))
    cases hn.symm.trans hn9
    exact ⟨meth, c, h1, h2, h3, h4, h5, h6⟩
  · intro p e s m args below meth c s₁ B hml hP _
    have hh0 : s₁.heap = s.heap := by rw [B.state]; rfl
    obtain ⟨t, a1, o, b1, b2, b3⟩ := body p e s m args below meth c s₁ B hml hP s₁ hh0 (Stand.of_body B)
    exact ⟨t, o, a1, b1, b2, b3⟩
/-! ===== END ===== -/
end
section
/-! ===== BEGIN printed: names, fields, word lists, decode rows ===== -/
def RX0 : String := "Gridpuzzle$Board"
def TX0 : u_T := fun k => match k with
  | 0 => ("Gridpuzzle$Board", "size", "I", false)
  | 1 => ("Gridpuzzle$Board", "runCount", "I", false)
  | 2 => ("Gridpuzzle$Board", "givens", "[I", true)
  | 3 => ("Gridpuzzle$Board", "firsts", "[I", true)
  | 4 => ("Gridpuzzle$Board", "steps", "[I", true)
  | 5 => ("Gridpuzzle$Board", "lengths", "[I", true)
  | 6 => ("Gridpuzzle$Board", "sums", "[I", true)
  | 7 => ("Gridpuzzle$Board", "rowRuns", "[I", true)
  | _ => ("Gridpuzzle$Board", "columnRuns", "[I", true)
def tyX0 : Nat → FieldType := fun k => match k with
  | 0 => .int
  | 1 => .int
  | 2 => .array .int
  | 3 => .array .int
  | 4 => .array .int
  | 5 => .array .int
  | 6 => .array .int
  | 7 => .array .int
  | _ => .array .int
abbrev wsX00 : List Cond := u_ws RX0 TX0 9
theorem nmX0 : ∀ a, a < 9 → ∀ b, b < 9 → a ≠ b → (TX0 a).2.1 ≠ (TX0 b).2.1 := by decide +kernel
theorem tyX0_ok : ∀ k, k < 9 → parseFieldDescriptor (TX0 k).2.2.1 = some (tyX0 k) := by decide +kernel
abbrev cX0_init : ByteArray := prog_2_method_1_code
def yX0_init : MethodName := ⟨RX0, "<init>", "()V"⟩
abbrev cX0_clear : ByteArray := prog_2_method_2_code
def yX0_clear : MethodName := ⟨RX0, "clear", "(I)V"⟩
abbrev cX0_hasCell : ByteArray := prog_2_method_3_code
def yX0_hasCell : MethodName := ⟨RX0, "hasCell", "(I)Z"⟩
abbrev cX0_isOpen : ByteArray := prog_2_method_4_code
def yX0_isOpen : MethodName := ⟨RX0, "isOpen", "(I)Z"⟩
abbrev cX0_givenAt : ByteArray := prog_2_method_5_code
def yX0_givenAt : MethodName := ⟨RX0, "givenAt", "(I)I"⟩
abbrev cX0_putGiven : ByteArray := prog_2_method_6_code
def yX0_putGiven : MethodName := ⟨RX0, "putGiven", "(II)V"⟩
abbrev cX0_turn : ByteArray := prog_2_method_7_code
def yX0_turn : MethodName := ⟨RX0, "turn", "(I)V"⟩
abbrev cX0_oppositeOf : ByteArray := prog_2_method_8_code
def yX0_oppositeOf : MethodName := ⟨RX0, "oppositeOf", "(I)I"⟩
abbrev cX0_countOpen : ByteArray := prog_2_method_9_code
def yX0_countOpen : MethodName := ⟨RX0, "countOpen", "()I"⟩
abbrev cX0_countBarred : ByteArray := prog_2_method_10_code
def yX0_countBarred : MethodName := ⟨RX0, "countBarred", "()I"⟩
abbrev cX0_isBlank : ByteArray := prog_2_method_11_code
def yX0_isBlank : MethodName := ⟨RX0, "isBlank", "(I)Z"⟩
abbrev cX0_countBlanks : ByteArray := prog_2_method_12_code
def yX0_countBlanks : MethodName := ⟨RX0, "countBlanks", "()I"⟩
abbrev cX0_countRuns : ByteArray := prog_2_method_13_code
def yX0_countRuns : MethodName := ⟨RX0, "countRuns", "()I"⟩
abbrev cX0_hasRun : ByteArray := prog_2_method_14_code
def yX0_hasRun : MethodName := ⟨RX0, "hasRun", "(I)Z"⟩
abbrev cX0_firstAt : ByteArray := prog_2_method_15_code
def yX0_firstAt : MethodName := ⟨RX0, "firstAt", "(I)I"⟩
abbrev cX0_lengthAt : ByteArray := prog_2_method_16_code
def yX0_lengthAt : MethodName := ⟨RX0, "lengthAt", "(I)I"⟩
abbrev cX0_sumAt : ByteArray := prog_2_method_17_code
def yX0_sumAt : MethodName := ⟨RX0, "sumAt", "(I)I"⟩
abbrev cX0_putSum : ByteArray := prog_2_method_18_code
def yX0_putSum : MethodName := ⟨RX0, "putSum", "(II)V"⟩
abbrev cX0_cellAt : ByteArray := prog_2_method_19_code
def yX0_cellAt : MethodName := ⟨RX0, "cellAt", "(II)I"⟩
abbrev cX0_rowRunOf : ByteArray := prog_2_method_20_code
def yX0_rowRunOf : MethodName := ⟨RX0, "rowRunOf", "(I)I"⟩
abbrev cX0_columnRunOf : ByteArray := prog_2_method_21_code
def yX0_columnRunOf : MethodName := ⟨RX0, "columnRunOf", "(I)I"⟩
abbrev cX0_findRuns : ByteArray := prog_2_method_22_code
def yX0_findRuns : MethodName := ⟨RX0, "findRuns", "()V"⟩
abbrev cX0_findRunsOfLine : ByteArray := prog_2_method_23_code
def yX0_findRunsOfLine : MethodName := ⟨RX0, "findRunsOfLine", "(II)V"⟩
abbrev cX0_addRun : ByteArray := prog_2_method_24_code
def yX0_addRun : MethodName := ⟨RX0, "addRun", "(III)V"⟩
abbrev cX0_isFilled : ByteArray := prog_2_method_25_code
def yX0_isFilled : MethodName := ⟨RX0, "isFilled", "()Z"⟩
abbrev cX0_givesTwice : ByteArray := prog_2_method_26_code
def yX0_givesTwice : MethodName := ⟨RX0, "givesTwice", "()Z"⟩
abbrev cX0_sumAndEmpty : ByteArray := prog_2_method_27_code
def yX0_sumAndEmpty : MethodName := ⟨RX0, "sumAndEmpty", "()V"⟩
abbrev cX0_isAnswer : ByteArray := prog_2_method_28_code
def yX0_isAnswer : MethodName := ⟨RX0, "isAnswer", "([I)Z"⟩
abbrev cX0_hasTwice : ByteArray := prog_2_method_29_code
def yX0_hasTwice : MethodName := ⟨RX0, "hasTwice", "(I[I)Z"⟩
abbrev cX0_totalOf : ByteArray := prog_2_method_30_code
def yX0_totalOf : MethodName := ⟨RX0, "totalOf", "(I[I)I"⟩
def RX1 : String := "Gridpuzzle$Solving"
def TX1 : u_T := fun k => match k with
  | 0 => ("Gridpuzzle$Solving", "board", "LGridpuzzle$Board;", true)
  | 1 => ("Gridpuzzle$Solving", "sets", "[I", true)
  | 2 => ("Gridpuzzle$Solving", "setsOfRun", "[I", true)
  | 3 => ("Gridpuzzle$Solving", "tookAway", "Z", false)
  | _ => ("Gridpuzzle$Solving", "greatest", "I", false)
def tyX1 : Nat → FieldType := fun k => match k with
  | 0 => .object "Gridpuzzle$Board"
  | 1 => .array .int
  | 2 => .array .int
  | 3 => .boolean
  | _ => .int
abbrev wsX10 : List Cond := u_ws RX1 TX1 5
theorem nmX1 : ∀ a, a < 5 → ∀ b, b < 5 → a ≠ b → (TX1 a).2.1 ≠ (TX1 b).2.1 := by decide +kernel
theorem tyX1_ok : ∀ k, k < 5 → parseFieldDescriptor (TX1 k).2.2.1 = some (tyX1 k) := by decide +kernel
abbrev cX1_init : ByteArray := prog_3_method_1_code
def yX1_init : MethodName := ⟨RX1, "<init>", "(LGridpuzzle$Board;)V"⟩
abbrev cX1_solve : ByteArray := prog_3_method_2_code
def yX1_solve : MethodName := ⟨RX1, "solve", "(I)V"⟩
abbrev cX1_solveToHint : ByteArray := prog_3_method_3_code
def yX1_solveToHint : MethodName := ⟨RX1, "solveToHint", "()I"⟩
abbrev cX1_greatestRule : ByteArray := prog_3_method_4_code
def yX1_greatestRule : MethodName := ⟨RX1, "greatestRule", "()I"⟩
abbrev cX1_setAt : ByteArray := prog_3_method_5_code
def yX1_setAt : MethodName := ⟨RX1, "setAt", "(I)I"⟩
abbrev cX1_isSolved : ByteArray := prog_3_method_6_code
def yX1_isSolved : MethodName := ⟨RX1, "isSolved", "()Z"⟩
abbrev cX1_firstFound : ByteArray := prog_3_method_7_code
def yX1_firstFound : MethodName := ⟨RX1, "firstFound", "()I"⟩
abbrev cX1_start : ByteArray := prog_3_method_8_code
def yX1_start : MethodName := ⟨RX1, "start", "()V"⟩
abbrev cX1_firstSetOf : ByteArray := prog_3_method_9_code
def yX1_firstSetOf : MethodName := ⟨RX1, "firstSetOf", "(I)I"⟩
abbrev cX1_hasEmptyCell : ByteArray := prog_3_method_10_code
def yX1_hasEmptyCell : MethodName := ⟨RX1, "hasEmptyCell", "()Z"⟩
abbrev cX1_goThrough : ByteArray := prog_3_method_11_code
def yX1_goThrough : MethodName := ⟨RX1, "goThrough", "(I)V"⟩
abbrev cX1_takeSingles : ByteArray := prog_3_method_12_code
def yX1_takeSingles : MethodName := ⟨RX1, "takeSingles", "(I)V"⟩
abbrev cX1_takeOutsideSets : ByteArray := prog_3_method_13_code
def yX1_takeOutsideSets : MethodName := ⟨RX1, "takeOutsideSets", "(I)V"⟩
abbrev cX1_digitsOfSets : ByteArray := prog_3_method_14_code
def yX1_digitsOfSets : MethodName := ⟨RX1, "digitsOfSets", "(III)I"⟩
abbrev cX1_sumOfSet : ByteArray := prog_3_method_15_code
def yX1_sumOfSet : MethodName := ⟨RX1, "sumOfSet", "(I)I"⟩
abbrev cX1_takeUnfit : ByteArray := prog_3_method_16_code
def yX1_takeUnfit : MethodName := ⟨RX1, "takeUnfit", "(I)V"⟩
abbrev cX1_canMake : ByteArray := prog_3_method_17_code
def yX1_canMake : MethodName := ⟨RX1, "canMake", "([IIII)Z"⟩
abbrev cX1_take : ByteArray := prog_3_method_18_code
def yX1_take : MethodName := ⟨RX1, "take", "(II)V"⟩
abbrev cX1_isSingle : ByteArray := prog_3_method_19_code
def yX1_isSingle : MethodName := ⟨RX1, "isSingle", "(I)Z"⟩
def RX2 : String := "Gridpuzzle$Trying"
def TX2 : u_T := fun k => match k with
  | 0 => ("Gridpuzzle$Trying", "board", "LGridpuzzle$Board;", true)
  | 1 => ("Gridpuzzle$Trying", "blankCount", "I", false)
  | 2 => ("Gridpuzzle$Trying", "blanks", "[I", true)
  | 3 => ("Gridpuzzle$Trying", "tried", "[I", true)
  | 4 => ("Gridpuzzle$Trying", "filling", "[I", true)
  | _ => ("Gridpuzzle$Trying", "firstAnswer", "[I", true)
def tyX2 : Nat → FieldType := fun k => match k with
  | 0 => .object "Gridpuzzle$Board"
  | 1 => .int
  | 2 => .array .int
  | 3 => .array .int
  | 4 => .array .int
  | _ => .array .int
abbrev wsX20 : List Cond := u_ws RX2 TX2 6
theorem nmX2 : ∀ a, a < 6 → ∀ b, b < 6 → a ≠ b → (TX2 a).2.1 ≠ (TX2 b).2.1 := by decide +kernel
theorem tyX2_ok : ∀ k, k < 6 → parseFieldDescriptor (TX2 k).2.2.1 = some (tyX2 k) := by decide +kernel
abbrev cX2_init : ByteArray := prog_4_method_1_code
def yX2_init : MethodName := ⟨RX2, "<init>", "(LGridpuzzle$Board;)V"⟩
abbrev cX2_find : ByteArray := prog_4_method_2_code
def yX2_find : MethodName := ⟨RX2, "find", "(I)I"⟩
abbrev cX2_countByAll : ByteArray := prog_4_method_3_code
def yX2_countByAll : MethodName := ⟨RX2, "countByAll", "()I"⟩
abbrev cX2_firstUnlike : ByteArray := prog_4_method_4_code
def yX2_firstUnlike : MethodName := ⟨RX2, "firstUnlike", "()I"⟩
abbrev cX2_firstAnswerAt : ByteArray := prog_4_method_5_code
def yX2_firstAnswerAt : MethodName := ⟨RX2, "firstAnswerAt", "(I)I"⟩
abbrev cX2_start : ByteArray := prog_4_method_6_code
def yX2_start : MethodName := ⟨RX2, "start", "()V"⟩
abbrev cX2_tryNext : ByteArray := prog_4_method_7_code
def yX2_tryNext : MethodName := ⟨RX2, "tryNext", "(I)Z"⟩
abbrev cX2_suits : ByteArray := prog_4_method_8_code
def yX2_suits : MethodName := ⟨RX2, "suits", "(II)Z"⟩
abbrev cX2_backFrom : ByteArray := prog_4_method_9_code
def yX2_backFrom : MethodName := ⟨RX2, "backFrom", "(I)I"⟩
abbrev cX2_keepFirstAnswer : ByteArray := prog_4_method_10_code
def yX2_keepFirstAnswer : MethodName := ⟨RX2, "keepFirstAnswer", "()V"⟩
abbrev cX2_fillBy : ByteArray := prog_4_method_11_code
def yX2_fillBy : MethodName := ⟨RX2, "fillBy", "(I)V"⟩
def RX3 : String := "Gridpuzzle"
def TX3 : u_T := fun k => match k with
  | 0 => ("Gridpuzzle", "board", "LGridpuzzle$Board;", true)
  | 1 => ("Gridpuzzle", "trying", "LGridpuzzle$Trying;", true)
  | _ => ("Gridpuzzle", "solving", "LGridpuzzle$Solving;", true)
def tyX3 : Nat → FieldType := fun k => match k with
  | 0 => .object "Gridpuzzle$Board"
  | 1 => .object "Gridpuzzle$Trying"
  | _ => .object "Gridpuzzle$Solving"
abbrev wsX30 : List Cond := u_ws RX3 TX3 3
theorem nmX3 : ∀ a, a < 3 → ∀ b, b < 3 → a ≠ b → (TX3 a).2.1 ≠ (TX3 b).2.1 := by decide +kernel
theorem tyX3_ok : ∀ k, k < 3 → parseFieldDescriptor (TX3 k).2.2.1 = some (tyX3 k) := by decide +kernel
abbrev cX3_init : ByteArray := prog_1_method_1_code
def yX3_init : MethodName := ⟨RX3, "<init>", "()V"⟩
abbrev cX3_begin : ByteArray := prog_1_method_2_code
def yX3_begin : MethodName := ⟨RX3, "begin", "(I)V"⟩
abbrev cX3_bar : ByteArray := prog_1_method_3_code
def yX3_bar : MethodName := ⟨RX3, "bar", "(I)Z"⟩
abbrev cX3_barBoth : ByteArray := prog_1_method_4_code
def yX3_barBoth : MethodName := ⟨RX3, "barBoth", "(I)I"⟩
abbrev cX3_give : ByteArray := prog_1_method_5_code
def yX3_give : MethodName := ⟨RX3, "give", "(II)I"⟩
abbrev cX3_setSum : ByteArray := prog_1_method_6_code
def yX3_setSum : MethodName := ⟨RX3, "setSum", "(II)I"⟩
abbrev cX3_press : ByteArray := prog_1_method_7_code
def yX3_press : MethodName := ⟨RX3, "press", "()I"⟩
abbrev cX3_open : ByteArray := prog_1_method_8_code
def yX3_open : MethodName := ⟨RX3, "open", "()I"⟩
abbrev cX3_runs : ByteArray := prog_1_method_9_code
def yX3_runs : MethodName := ⟨RX3, "runs", "()I"⟩
abbrev cX3_firstOf : ByteArray := prog_1_method_10_code
def yX3_firstOf : MethodName := ⟨RX3, "firstOf", "(I)I"⟩
abbrev cX3_lengthOf : ByteArray := prog_1_method_11_code
def yX3_lengthOf : MethodName := ⟨RX3, "lengthOf", "(I)I"⟩
abbrev cX3_sumOf : ByteArray := prog_1_method_12_code
def yX3_sumOf : MethodName := ⟨RX3, "sumOf", "(I)I"⟩
abbrev cX3_digit : ByteArray := prog_1_method_13_code
def yX3_digit : MethodName := ⟨RX3, "digit", "(I)I"⟩
abbrev cX3_answers : ByteArray := prog_1_method_14_code
def yX3_answers : MethodName := ⟨RX3, "answers", "(I)I"⟩
abbrev cX3_answersByAll : ByteArray := prog_1_method_15_code
def yX3_answersByAll : MethodName := ⟨RX3, "answersByAll", "()I"⟩
abbrev cX3_mend : ByteArray := prog_1_method_16_code
def yX3_mend : MethodName := ⟨RX3, "mend", "()I"⟩
abbrev cX3_level : ByteArray := prog_1_method_17_code
def yX3_level : MethodName := ⟨RX3, "level", "()I"⟩
abbrev cX3_candidates : ByteArray := prog_1_method_18_code
def yX3_candidates : MethodName := ⟨RX3, "candidates", "(II)I"⟩
abbrev cX3_hint : ByteArray := prog_1_method_19_code
def yX3_hint : MethodName := ⟨RX3, "hint", "()I"⟩
abbrev cX3_hintRules : ByteArray := prog_1_method_20_code
def yX3_hintRules : MethodName := ⟨RX3, "hintRules", "()I"⟩
abbrev cX3_needCell : ByteArray := prog_1_method_21_code
def yX3_needCell : MethodName := ⟨RX3, "needCell", "(I)V"⟩
abbrev cX3_needRun : ByteArray := prog_1_method_22_code
def yX3_needRun : MethodName := ⟨RX3, "needRun", "(I)V"⟩
abbrev cX3_at : ByteArray := prog_1_method_23_code
def yX3_at : MethodName := ⟨RX3, "at", "([II)I"⟩
abbrev cX3_put : ByteArray := prog_1_method_24_code
def yX3_put : MethodName := ⟨RX3, "put", "([III)V"⟩
def RX4 : String := "GridpuzzleModel"
def TX4 : u_T := fun k => match k with
  | 0 => ("GridpuzzleModel", "thrown", "I", false)
  | 1 => ("GridpuzzleModel", "size", "I", false)
  | 2 => ("GridpuzzleModel", "isBarred", "[Z", true)
  | 3 => ("GridpuzzleModel", "given", "[I", true)
  | 4 => ("GridpuzzleModel", "runs", "I", false)
  | 5 => ("GridpuzzleModel", "firsts", "[I", true)
  | 6 => ("GridpuzzleModel", "lengths", "[I", true)
  | 7 => ("GridpuzzleModel", "steps", "[I", true)
  | 8 => ("GridpuzzleModel", "sums", "[I", true)
  | 9 => ("GridpuzzleModel", "tried", "[I", true)
  | 10 => ("GridpuzzleModel", "many", "I", false)
  | 11 => ("GridpuzzleModel", "digits", "[I", true)
  | 12 => ("GridpuzzleModel", "firstAnswer", "[I", true)
  | 13 => ("GridpuzzleModel", "differing", "I", false)
  | 14 => ("GridpuzzleModel", "isGivenUp", "Z", false)
  | 15 => ("GridpuzzleModel", "candidates", "[I", true)
  | 16 => ("GridpuzzleModel", "hasTaken", "Z", false)
  | _ => ("GridpuzzleModel", "level", "I", false)
def tyX4 : Nat → FieldType := fun k => match k with
  | 0 => .int
  | 1 => .int
  | 2 => .array .boolean
  | 3 => .array .int
  | 4 => .int
  | 5 => .array .int
  | 6 => .array .int
  | 7 => .array .int
  | 8 => .array .int
  | 9 => .array .int
  | 10 => .int
  | 11 => .array .int
  | 12 => .array .int
  | 13 => .int
  | 14 => .boolean
  | 15 => .array .int
  | 16 => .boolean
  | _ => .int
abbrev wsX40 : List Cond := u_ws RX4 TX4 18
theorem nmX4 : ∀ a, a < 18 → ∀ b, b < 18 → a ≠ b → (TX4 a).2.1 ≠ (TX4 b).2.1 := by decide +kernel
theorem tyX4_ok : ∀ k, k < 18 → parseFieldDescriptor (TX4 k).2.2.1 = some (tyX4 k) := by decide +kernel
abbrev cX4_init : ByteArray := prog_6_method_1_code
def yX4_init : MethodName := ⟨RX4, "<init>", "()V"⟩
abbrev cX4_thrown : ByteArray := prog_6_method_2_code
def yX4_thrown : MethodName := ⟨RX4, "thrown", "()I"⟩
abbrev cX4_goesWell : ByteArray := prog_6_method_3_code
def yX4_goesWell : MethodName := ⟨RX4, "goesWell", "(I)Z"⟩
abbrev cX4_in : ByteArray := prog_6_method_4_code
def yX4_in : MethodName := ⟨RX4, "in", "(III)Z"⟩
abbrev cX4_isCell : ByteArray := prog_6_method_5_code
def yX4_isCell : MethodName := ⟨RX4, "isCell", "(I)Z"⟩
abbrev cX4_isOpen : ByteArray := prog_6_method_6_code
def yX4_isOpen : MethodName := ⟨RX4, "isOpen", "(I)Z"⟩
abbrev cX4_isRun : ByteArray := prog_6_method_7_code
def yX4_isRun : MethodName := ⟨RX4, "isRun", "(I)Z"⟩
abbrev cX4_layRuns : ByteArray := prog_6_method_8_code
def yX4_layRuns : MethodName := ⟨RX4, "layRuns", "()V"⟩
abbrev cX4_begin : ByteArray := prog_6_method_9_code
def yX4_begin : MethodName := ⟨RX4, "begin", "(I)V"⟩
abbrev cX4_turn : ByteArray := prog_6_method_10_code
def yX4_turn : MethodName := ⟨RX4, "turn", "(I)V"⟩
abbrev cX4_bar : ByteArray := prog_6_method_11_code
def yX4_bar : MethodName := ⟨RX4, "bar", "(I)Z"⟩
abbrev cX4_countOpen : ByteArray := prog_6_method_12_code
def yX4_countOpen : MethodName := ⟨RX4, "countOpen", "()I"⟩
abbrev cX4_barBoth : ByteArray := prog_6_method_13_code
def yX4_barBoth : MethodName := ⟨RX4, "barBoth", "(I)I"⟩
abbrev cX4_give : ByteArray := prog_6_method_14_code
def yX4_give : MethodName := ⟨RX4, "give", "(II)I"⟩
abbrev cX4_setSum : ByteArray := prog_6_method_15_code
def yX4_setSum : MethodName := ⟨RX4, "setSum", "(II)I"⟩
abbrev cX4_cellOf : ByteArray := prog_6_method_16_code
def yX4_cellOf : MethodName := ⟨RX4, "cellOf", "(II)I"⟩
abbrev cX4_has : ByteArray := prog_6_method_17_code
def yX4_has : MethodName := ⟨RX4, "has", "(II)Z"⟩
abbrev cX4_copyGiven : ByteArray := prog_6_method_18_code
def yX4_copyGiven : MethodName := ⟨RX4, "copyGiven", "()V"⟩
abbrev cX4_isUnlike : ByteArray := prog_6_method_19_code
def yX4_isUnlike : MethodName := ⟨RX4, "isUnlike", "(I)Z"⟩
abbrev cX4_sumUp : ByteArray := prog_6_method_20_code
def yX4_sumUp : MethodName := ⟨RX4, "sumUp", "(I)I"⟩
abbrev cX4_isAnswer : ByteArray := prog_6_method_21_code
def yX4_isAnswer : MethodName := ⟨RX4, "isAnswer", "()Z"⟩
abbrev cX4_press : ByteArray := prog_6_method_22_code
def yX4_press : MethodName := ⟨RX4, "press", "()I"⟩
abbrev cX4_open : ByteArray := prog_6_method_23_code
def yX4_open : MethodName := ⟨RX4, "open", "()I"⟩
abbrev cX4_runs : ByteArray := prog_6_method_24_code
def yX4_runs : MethodName := ⟨RX4, "runs", "()I"⟩
abbrev cX4_firstOf : ByteArray := prog_6_method_25_code
def yX4_firstOf : MethodName := ⟨RX4, "firstOf", "(I)I"⟩
abbrev cX4_lengthOf : ByteArray := prog_6_method_26_code
def yX4_lengthOf : MethodName := ⟨RX4, "lengthOf", "(I)I"⟩
abbrev cX4_sumOf : ByteArray := prog_6_method_27_code
def yX4_sumOf : MethodName := ⟨RX4, "sumOf", "(I)I"⟩
abbrev cX4_digit : ByteArray := prog_6_method_28_code
def yX4_digit : MethodName := ⟨RX4, "digit", "(I)I"⟩
abbrev cX4_isGood : ByteArray := prog_6_method_29_code
def yX4_isGood : MethodName := ⟨RX4, "isGood", "(II)Z"⟩
abbrev cX4_layTried : ByteArray := prog_6_method_30_code
def yX4_layTried : MethodName := ⟨RX4, "layTried", "()V"⟩
abbrev cX4_keep : ByteArray := prog_6_method_31_code
def yX4_keep : MethodName := ⟨RX4, "keep", "(I)V"⟩
abbrev cX4_attempt : ByteArray := prog_6_method_32_code
def yX4_attempt : MethodName := ⟨RX4, "attempt", "(I)I"⟩
abbrev cX4_answers : ByteArray := prog_6_method_33_code
def yX4_answers : MethodName := ⟨RX4, "answers", "(I)I"⟩
abbrev cX4_answersByAll : ByteArray := prog_6_method_34_code
def yX4_answersByAll : MethodName := ⟨RX4, "answersByAll", "()I"⟩
abbrev cX4_mend : ByteArray := prog_6_method_35_code
def yX4_mend : MethodName := ⟨RX4, "mend", "()I"⟩
abbrev cX4_isSingle : ByteArray := prog_6_method_36_code
def yX4_isSingle : MethodName := ⟨RX4, "isSingle", "(I)Z"⟩
abbrev cX4_take : ByteArray := prog_6_method_37_code
def yX4_take : MethodName := ⟨RX4, "take", "(II)V"⟩
abbrev cX4_goThroughSingles : ByteArray := prog_6_method_38_code
def yX4_goThroughSingles : MethodName := ⟨RX4, "goThroughSingles", "()V"⟩
abbrev cX4_sumOfSet : ByteArray := prog_6_method_39_code
def yX4_sumOfSet : MethodName := ⟨RX4, "sumOfSet", "(I)I"⟩
abbrev cX4_bits : ByteArray := prog_6_method_40_code
def yX4_bits : MethodName := ⟨RX4, "bits", "(I)I"⟩
abbrev cX4_goThroughSets : ByteArray := prog_6_method_41_code
def yX4_goThroughSets : MethodName := ⟨RX4, "goThroughSets", "()V"⟩
abbrev cX4_canBe : ByteArray := prog_6_method_42_code
def yX4_canBe : MethodName := ⟨RX4, "canBe", "(III)Z"⟩
abbrev cX4_goThroughRows : ByteArray := prog_6_method_43_code
def yX4_goThroughRows : MethodName := ⟨RX4, "goThroughRows", "()V"⟩
abbrev cX4_isDead : ByteArray := prog_6_method_44_code
def yX4_isDead : MethodName := ⟨RX4, "isDead", "()Z"⟩
abbrev cX4_solve : ByteArray := prog_6_method_45_code
def yX4_solve : MethodName := ⟨RX4, "solve", "(I)V"⟩
abbrev cX4_level : ByteArray := prog_6_method_46_code
def yX4_level : MethodName := ⟨RX4, "level", "()I"⟩
abbrev cX4_candidates : ByteArray := prog_6_method_47_code
def yX4_candidates : MethodName := ⟨RX4, "candidates", "(II)I"⟩
abbrev cX4_find : ByteArray := prog_6_method_48_code
def yX4_find : MethodName := ⟨RX4, "find", "(I)I"⟩
abbrev cX4_hint : ByteArray := prog_6_method_49_code
def yX4_hint : MethodName := ⟨RX4, "hint", "()I"⟩
abbrev cX4_hintRules : ByteArray := prog_6_method_50_code
def yX4_hintRules : MethodName := ⟨RX4, "hintRules", "()I"⟩
def RJx145de : String := "java/io/Serializable"
def TJx145de : u_T := fun k => match k with
  | _ => ("", "", "", false)
def tyJx145de : Nat → FieldType := fun k => match k with
  | _ => .int
abbrev wsJx145de0 : List Cond := u_ws RJx145de TJx145de 0
theorem nmJx145de : ∀ a, a < 0 → ∀ b, b < 0 → a ≠ b → (TJx145de a).2.1 ≠ (TJx145de b).2.1 := by decide +kernel
theorem tyJx145de_ok : ∀ k, k < 0 → parseFieldDescriptor (TJx145de k).2.2.1 = some (tyJx145de k) := by decide +kernel
def RJ6 : String := "java/lang/Integer"
def TJ6 : u_T := fun k => match k with
  | _ => ("", "", "", false)
def tyJ6 : Nat → FieldType := fun k => match k with
  | _ => .int
abbrev wsJ60 : List Cond := u_ws RJ6 TJ6 0
theorem nmJ6 : ∀ a, a < 0 → ∀ b, b < 0 → a ≠ b → (TJ6 a).2.1 ≠ (TJ6 b).2.1 := by decide +kernel
theorem tyJ6_ok : ∀ k, k < 0 → parseFieldDescriptor (TJ6 k).2.2.1 = some (tyJ6 k) := by decide +kernel
abbrev cJ6_bitCount_0f7a4 : ByteArray := prog_11_method_49_code
def yJ6_bitCount_0f7a4 : MethodName := ⟨RJ6, "bitCount", "(I)I"⟩
def RJ9 : String := "java/lang/Math"
def TJ9 : u_T := fun k => match k with
  | _ => ("", "", "", false)
def tyJ9 : Nat → FieldType := fun k => match k with
  | _ => .int
abbrev wsJ90 : List Cond := u_ws RJ9 TJ9 0
theorem nmJ9 : ∀ a, a < 0 → ∀ b, b < 0 → a ≠ b → (TJ9 a).2.1 ≠ (TJ9 b).2.1 := by decide +kernel
theorem tyJ9_ok : ∀ k, k < 0 → parseFieldDescriptor (TJ9 k).2.2.1 = some (tyJ9 k) := by decide +kernel
abbrev cJ9_max_7cf53 : ByteArray := prog_12_method_65_code
def yJ9_max_7cf53 : MethodName := ⟨RJ9, "max", "(II)I"⟩
def RJ0 : String := "java/lang/String"
def TJ0 : u_T := fun k => match k with
  | _ => ("", "", "", false)
def tyJ0 : Nat → FieldType := fun k => match k with
  | _ => .int
abbrev wsJ00 : List Cond := u_ws RJ0 TJ0 0
theorem nmJ0 : ∀ a, a < 0 → ∀ b, b < 0 → a ≠ b → (TJ0 a).2.1 ≠ (TJ0 b).2.1 := by decide +kernel
theorem tyJ0_ok : ∀ k, k < 0 → parseFieldDescriptor (TJ0 k).2.2.1 = some (tyJ0 k) := by decide +kernel
def RJ7 : String := "java/util/Arrays"
def TJ7 : u_T := fun k => match k with
  | _ => ("", "", "", false)
def tyJ7 : Nat → FieldType := fun k => match k with
  | _ => .int
abbrev wsJ70 : List Cond := u_ws RJ7 TJ7 0
theorem nmJ7 : ∀ a, a < 0 → ∀ b, b < 0 → a ≠ b → (TJ7 a).2.1 ≠ (TJ7 b).2.1 := by decide +kernel
theorem tyJ7_ok : ∀ k, k < 0 → parseFieldDescriptor (TJ7 k).2.2.1 = some (tyJ7 k) := by decide +kernel
abbrev cJ7_fill_53178 : ByteArray := prog_16_method_103_code
def yJ7_fill_53178 : MethodName := ⟨RJ7, "fill", "([II)V"⟩
def RL : String := "GridpuzzleLaw"
abbrev cL_begin : ByteArray := method_3_code
def yL_begin : MethodName := ⟨RL, "begin", "(LGridpuzzle;I)I"⟩
abbrev cL_bar : ByteArray := method_4_code
def yL_bar : MethodName := ⟨RL, "bar", "(LGridpuzzle;I[J)I"⟩
abbrev cL_barBoth : ByteArray := method_5_code
def yL_barBoth : MethodName := ⟨RL, "barBoth", "(LGridpuzzle;I[J)I"⟩
abbrev cL_give : ByteArray := method_6_code
def yL_give : MethodName := ⟨RL, "give", "(LGridpuzzle;II[J)I"⟩
abbrev cL_setSum : ByteArray := method_7_code
def yL_setSum : MethodName := ⟨RL, "setSum", "(LGridpuzzle;II[J)I"⟩
abbrev cL_press : ByteArray := method_8_code
def yL_press : MethodName := ⟨RL, "press", "(LGridpuzzle;[J)I"⟩
abbrev cL_firstOf : ByteArray := method_9_code
def yL_firstOf : MethodName := ⟨RL, "firstOf", "(LGridpuzzle;I[J)I"⟩
abbrev cL_lengthOf : ByteArray := method_10_code
def yL_lengthOf : MethodName := ⟨RL, "lengthOf", "(LGridpuzzle;I[J)I"⟩
abbrev cL_sumOf : ByteArray := method_11_code
def yL_sumOf : MethodName := ⟨RL, "sumOf", "(LGridpuzzle;I[J)I"⟩
abbrev cL_digit : ByteArray := method_12_code
def yL_digit : MethodName := ⟨RL, "digit", "(LGridpuzzle;I[J)I"⟩
abbrev cL_answers : ByteArray := method_13_code
def yL_answers : MethodName := ⟨RL, "answers", "(LGridpuzzle;I[J)I"⟩
abbrev cL_answersByAll : ByteArray := method_14_code
def yL_answersByAll : MethodName := ⟨RL, "answersByAll", "(LGridpuzzle;[J)I"⟩
abbrev cL_mend : ByteArray := method_15_code
def yL_mend : MethodName := ⟨RL, "mend", "(LGridpuzzle;[J)I"⟩
abbrev cL_candidates : ByteArray := method_16_code
def yL_candidates : MethodName := ⟨RL, "candidates", "(LGridpuzzle;II[J)I"⟩
abbrev cL_law : ByteArray := code
def yL_law : MethodName := ⟨RL, "law", "([I)Z"⟩
def wsX0_init : List Cond := .code yX0_init cX0_init 1 none :: ([.methodLink RX0 3 objectInit, .instanceMethod objectInit, .code objectInit ⟨#[0xb1]⟩ 1 none, .arrayClass .int, .fieldLink RX0 9 "Gridpuzzle$Board" "givens" "[I", .fieldLink RX0 15 "Gridpuzzle$Board" "firsts" "[I", .fieldLink RX0 18 "Gridpuzzle$Board" "steps" "[I", .fieldLink RX0 21 "Gridpuzzle$Board" "lengths" "[I", .fieldLink RX0 24 "Gridpuzzle$Board" "sums" "[I", .fieldLink RX0 27 "Gridpuzzle$Board" "rowRuns" "[I", .fieldLink RX0 30 "Gridpuzzle$Board" "columnRuns" "[I"] ++ wsX00)
def wsJ7_fill_53178 : List Cond := .code yJ7_fill_53178 cJ7_fill_53178 4 none :: ([])
def wsX0_hasCell : List Cond := .code yX0_hasCell cX0_hasCell 2 (some .boolean) :: ([.fieldLink RX0 33 "Gridpuzzle$Board" "size" "I"] ++ wsX00)
def wsX3_at : List Cond := .code yX3_at cX3_at 2 (some .int) :: ([])
def wsX0_isOpen : List Cond := .code yX0_isOpen cX0_isOpen 2 (some .boolean) :: ([.fieldLink RX0 9 "Gridpuzzle$Board" "givens" "[I", .methodLink RX0 46 yX0_hasCell, .instanceMethod yX0_hasCell, .selects RX0 yX0_hasCell yX0_hasCell, .initialized RX0, .code yX0_hasCell cX0_hasCell 2 (some .boolean), .fieldLink RX0 33 "Gridpuzzle$Board" "size" "I", .static yX3_at, .initialized RX3, .code yX3_at cX3_at 2 (some .int)] ++ wsX00)
def wsX3_put : List Cond := .code yX3_put cX3_put 3 none :: ([])
def wsX0_addRun : List Cond := .code yX0_addRun cX0_addRun 5 none :: ([.fieldLink RX0 15 "Gridpuzzle$Board" "firsts" "[I", .fieldLink RX0 68 "Gridpuzzle$Board" "runCount" "I", .fieldLink RX0 18 "Gridpuzzle$Board" "steps" "[I", .fieldLink RX0 21 "Gridpuzzle$Board" "lengths" "[I", .fieldLink RX0 27 "Gridpuzzle$Board" "rowRuns" "[I", .fieldLink RX0 30 "Gridpuzzle$Board" "columnRuns" "[I", .static yX3_put, .initialized RX3, .code yX3_put cX3_put 3 none] ++ wsX00)
def wsX0_findRunsOfLine_r1 : List Cond := [Cond.fieldLink RX0 33 "Gridpuzzle$Board" "size" "I", Cond.methodLink RX0 58 yX0_isOpen, Cond.instanceMethod yX0_isOpen, Cond.selects RX0 yX0_isOpen yX0_isOpen, Cond.initialized RX0, Cond.code yX0_isOpen cX0_isOpen 2 (some .boolean), Cond.fieldLink RX0 9 "Gridpuzzle$Board" "givens" "[I", Cond.methodLink RX0 46 yX0_hasCell, Cond.instanceMethod yX0_hasCell, Cond.selects RX0 yX0_hasCell yX0_hasCell, Cond.code yX0_hasCell cX0_hasCell 2 (some .boolean), Cond.static yX3_at, Cond.initialized RX3, Cond.code yX3_at cX3_at 2 (some .int), Cond.methodLink RX0 75 yX0_addRun, Cond.instanceMethod yX0_addRun, Cond.selects RX0 yX0_addRun yX0_addRun, Cond.code yX0_addRun cX0_addRun 5 none, Cond.fieldLink RX0 15 "Gridpuzzle$Board" "firsts" "[I", Cond.fieldLink RX0 68 "Gridpuzzle$Board" "runCount" "I", Cond.fieldLink RX0 18 "Gridpuzzle$Board" "steps" "[I", Cond.fieldLink RX0 21 "Gridpuzzle$Board" "lengths" "[I", Cond.fieldLink RX0 27 "Gridpuzzle$Board" "rowRuns" "[I", Cond.fieldLink RX0 30 "Gridpuzzle$Board" "columnRuns" "[I"]
def wsX0_findRunsOfLine_r2 : List Cond := [Cond.static yX3_put, Cond.code yX3_put cX3_put 3 none]
def wsX0_findRunsOfLine : List Cond := .code yX0_findRunsOfLine cX0_findRunsOfLine 5 none :: ((wsX0_findRunsOfLine_r1 ++ wsX0_findRunsOfLine_r2) ++ wsX00)
def wsX0_findRuns_r1 : List Cond := [Cond.fieldLink RX0 68 "Gridpuzzle$Board" "runCount" "I", Cond.fieldLink RX0 24 "Gridpuzzle$Board" "sums" "[I", Cond.fieldLink RX0 27 "Gridpuzzle$Board" "rowRuns" "[I", Cond.fieldLink RX0 30 "Gridpuzzle$Board" "columnRuns" "[I", Cond.fieldLink RX0 33 "Gridpuzzle$Board" "size" "I", Cond.methodLink RX0 37 yJ7_fill_53178, Cond.static yJ7_fill_53178, Cond.initialized RJ7, Cond.code yJ7_fill_53178 cJ7_fill_53178 4 none, Cond.methodLink RX0 71 yX0_findRunsOfLine, Cond.instanceMethod yX0_findRunsOfLine, Cond.selects RX0 yX0_findRunsOfLine yX0_findRunsOfLine, Cond.initialized RX0, Cond.code yX0_findRunsOfLine cX0_findRunsOfLine 5 none, Cond.methodLink RX0 58 yX0_isOpen, Cond.instanceMethod yX0_isOpen, Cond.selects RX0 yX0_isOpen yX0_isOpen, Cond.code yX0_isOpen cX0_isOpen 2 (some .boolean), Cond.fieldLink RX0 9 "Gridpuzzle$Board" "givens" "[I", Cond.methodLink RX0 46 yX0_hasCell, Cond.instanceMethod yX0_hasCell, Cond.selects RX0 yX0_hasCell yX0_hasCell, Cond.code yX0_hasCell cX0_hasCell 2 (some .boolean), Cond.static yX3_at]
def wsX0_findRuns_r2 : List Cond := [Cond.initialized RX3, Cond.code yX3_at cX3_at 2 (some .int), Cond.methodLink RX0 75 yX0_addRun, Cond.instanceMethod yX0_addRun, Cond.selects RX0 yX0_addRun yX0_addRun, Cond.code yX0_addRun cX0_addRun 5 none, Cond.fieldLink RX0 15 "Gridpuzzle$Board" "firsts" "[I", Cond.fieldLink RX0 18 "Gridpuzzle$Board" "steps" "[I", Cond.fieldLink RX0 21 "Gridpuzzle$Board" "lengths" "[I", Cond.static yX3_put, Cond.code yX3_put cX3_put 3 none]
def wsX0_findRuns : List Cond := .code yX0_findRuns cX0_findRuns 2 none :: ((wsX0_findRuns_r1 ++ wsX0_findRuns_r2) ++ wsX00)
def wsX0_clear_r1 : List Cond := [Cond.fieldLink RX0 33 "Gridpuzzle$Board" "size" "I", Cond.fieldLink RX0 9 "Gridpuzzle$Board" "givens" "[I", Cond.methodLink RX0 37 yJ7_fill_53178, Cond.static yJ7_fill_53178, Cond.initialized RJ7, Cond.code yJ7_fill_53178 cJ7_fill_53178 4 none, Cond.methodLink RX0 43 yX0_findRuns, Cond.instanceMethod yX0_findRuns, Cond.selects RX0 yX0_findRuns yX0_findRuns, Cond.initialized RX0, Cond.code yX0_findRuns cX0_findRuns 2 none, Cond.fieldLink RX0 68 "Gridpuzzle$Board" "runCount" "I", Cond.fieldLink RX0 24 "Gridpuzzle$Board" "sums" "[I", Cond.fieldLink RX0 27 "Gridpuzzle$Board" "rowRuns" "[I", Cond.fieldLink RX0 30 "Gridpuzzle$Board" "columnRuns" "[I", Cond.methodLink RX0 71 yX0_findRunsOfLine, Cond.instanceMethod yX0_findRunsOfLine, Cond.selects RX0 yX0_findRunsOfLine yX0_findRunsOfLine, Cond.code yX0_findRunsOfLine cX0_findRunsOfLine 5 none, Cond.methodLink RX0 58 yX0_isOpen, Cond.instanceMethod yX0_isOpen, Cond.selects RX0 yX0_isOpen yX0_isOpen, Cond.code yX0_isOpen cX0_isOpen 2 (some .boolean), Cond.methodLink RX0 46 yX0_hasCell]
def wsX0_clear_r2 : List Cond := [Cond.instanceMethod yX0_hasCell, Cond.selects RX0 yX0_hasCell yX0_hasCell, Cond.code yX0_hasCell cX0_hasCell 2 (some .boolean), Cond.static yX3_at, Cond.initialized RX3, Cond.code yX3_at cX3_at 2 (some .int), Cond.methodLink RX0 75 yX0_addRun, Cond.instanceMethod yX0_addRun, Cond.selects RX0 yX0_addRun yX0_addRun, Cond.code yX0_addRun cX0_addRun 5 none, Cond.fieldLink RX0 15 "Gridpuzzle$Board" "firsts" "[I", Cond.fieldLink RX0 18 "Gridpuzzle$Board" "steps" "[I", Cond.fieldLink RX0 21 "Gridpuzzle$Board" "lengths" "[I", Cond.static yX3_put, Cond.code yX3_put cX3_put 3 none]
def wsX0_clear : List Cond := .code yX0_clear cX0_clear 2 none :: ((wsX0_clear_r1 ++ wsX0_clear_r2) ++ wsX00)
def wsX0_givenAt : List Cond := .code yX0_givenAt cX0_givenAt 2 (some .int) :: ([.fieldLink RX0 9 "Gridpuzzle$Board" "givens" "[I", .static yX3_at, .initialized RX3, .code yX3_at cX3_at 2 (some .int)] ++ wsX00)
def wsX0_putGiven : List Cond := .code yX0_putGiven cX0_putGiven 3 none :: ([.fieldLink RX0 9 "Gridpuzzle$Board" "givens" "[I", .static yX3_put, .initialized RX3, .code yX3_put cX3_put 3 none] ++ wsX00)
def wsX0_turn_r1 : List Cond := [Cond.fieldLink RX0 9 "Gridpuzzle$Board" "givens" "[I", Cond.methodLink RX0 58 yX0_isOpen, Cond.instanceMethod yX0_isOpen, Cond.selects RX0 yX0_isOpen yX0_isOpen, Cond.initialized RX0, Cond.code yX0_isOpen cX0_isOpen 2 (some .boolean), Cond.methodLink RX0 46 yX0_hasCell, Cond.instanceMethod yX0_hasCell, Cond.selects RX0 yX0_hasCell yX0_hasCell, Cond.code yX0_hasCell cX0_hasCell 2 (some .boolean), Cond.fieldLink RX0 33 "Gridpuzzle$Board" "size" "I", Cond.static yX3_at, Cond.initialized RX3, Cond.code yX3_at cX3_at 2 (some .int), Cond.static yX3_put, Cond.code yX3_put cX3_put 3 none, Cond.methodLink RX0 43 yX0_findRuns, Cond.instanceMethod yX0_findRuns, Cond.selects RX0 yX0_findRuns yX0_findRuns, Cond.code yX0_findRuns cX0_findRuns 2 none, Cond.fieldLink RX0 68 "Gridpuzzle$Board" "runCount" "I", Cond.fieldLink RX0 24 "Gridpuzzle$Board" "sums" "[I", Cond.fieldLink RX0 27 "Gridpuzzle$Board" "rowRuns" "[I", Cond.fieldLink RX0 30 "Gridpuzzle$Board" "columnRuns" "[I"]
def wsX0_turn_r2 : List Cond := [Cond.methodLink RX0 37 yJ7_fill_53178, Cond.static yJ7_fill_53178, Cond.initialized RJ7, Cond.code yJ7_fill_53178 cJ7_fill_53178 4 none, Cond.methodLink RX0 71 yX0_findRunsOfLine, Cond.instanceMethod yX0_findRunsOfLine, Cond.selects RX0 yX0_findRunsOfLine yX0_findRunsOfLine, Cond.code yX0_findRunsOfLine cX0_findRunsOfLine 5 none, Cond.methodLink RX0 75 yX0_addRun, Cond.instanceMethod yX0_addRun, Cond.selects RX0 yX0_addRun yX0_addRun, Cond.code yX0_addRun cX0_addRun 5 none, Cond.fieldLink RX0 15 "Gridpuzzle$Board" "firsts" "[I", Cond.fieldLink RX0 18 "Gridpuzzle$Board" "steps" "[I", Cond.fieldLink RX0 21 "Gridpuzzle$Board" "lengths" "[I"]
def wsX0_turn : List Cond := .code yX0_turn cX0_turn 2 none :: ((wsX0_turn_r1 ++ wsX0_turn_r2) ++ wsX00)
def wsX0_oppositeOf : List Cond := .code yX0_oppositeOf cX0_oppositeOf 4 (some .int) :: ([.fieldLink RX0 33 "Gridpuzzle$Board" "size" "I"] ++ wsX00)
def wsX0_countOpen : List Cond := .code yX0_countOpen cX0_countOpen 3 (some .int) :: ([.methodLink RX0 58 yX0_isOpen, .instanceMethod yX0_isOpen, .selects RX0 yX0_isOpen yX0_isOpen, .initialized RX0, .code yX0_isOpen cX0_isOpen 2 (some .boolean), .fieldLink RX0 9 "Gridpuzzle$Board" "givens" "[I", .methodLink RX0 46 yX0_hasCell, .instanceMethod yX0_hasCell, .selects RX0 yX0_hasCell yX0_hasCell, .code yX0_hasCell cX0_hasCell 2 (some .boolean), .fieldLink RX0 33 "Gridpuzzle$Board" "size" "I", .static yX3_at, .initialized RX3, .code yX3_at cX3_at 2 (some .int)] ++ wsX00)
def wsX0_countBarred : List Cond := .code yX0_countBarred cX0_countBarred 1 (some .int) :: ([.fieldLink RX0 33 "Gridpuzzle$Board" "size" "I", .methodLink RX0 61 yX0_countOpen, .instanceMethod yX0_countOpen, .selects RX0 yX0_countOpen yX0_countOpen, .initialized RX0, .code yX0_countOpen cX0_countOpen 3 (some .int), .methodLink RX0 58 yX0_isOpen, .instanceMethod yX0_isOpen, .selects RX0 yX0_isOpen yX0_isOpen, .code yX0_isOpen cX0_isOpen 2 (some .boolean), .fieldLink RX0 9 "Gridpuzzle$Board" "givens" "[I", .methodLink RX0 46 yX0_hasCell, .instanceMethod yX0_hasCell, .selects RX0 yX0_hasCell yX0_hasCell, .code yX0_hasCell cX0_hasCell 2 (some .boolean), .static yX3_at, .initialized RX3, .code yX3_at cX3_at 2 (some .int)] ++ wsX00)
def wsX0_isBlank : List Cond := .code yX0_isBlank cX0_isBlank 2 (some .boolean) :: ([.fieldLink RX0 9 "Gridpuzzle$Board" "givens" "[I", .methodLink RX0 46 yX0_hasCell, .instanceMethod yX0_hasCell, .selects RX0 yX0_hasCell yX0_hasCell, .initialized RX0, .code yX0_hasCell cX0_hasCell 2 (some .boolean), .fieldLink RX0 33 "Gridpuzzle$Board" "size" "I", .static yX3_at, .initialized RX3, .code yX3_at cX3_at 2 (some .int)] ++ wsX00)
def wsX0_countBlanks : List Cond := .code yX0_countBlanks cX0_countBlanks 3 (some .int) :: ([.methodLink RX0 65 yX0_isBlank, .instanceMethod yX0_isBlank, .selects RX0 yX0_isBlank yX0_isBlank, .initialized RX0, .code yX0_isBlank cX0_isBlank 2 (some .boolean), .fieldLink RX0 9 "Gridpuzzle$Board" "givens" "[I", .methodLink RX0 46 yX0_hasCell, .instanceMethod yX0_hasCell, .selects RX0 yX0_hasCell yX0_hasCell, .code yX0_hasCell cX0_hasCell 2 (some .boolean), .fieldLink RX0 33 "Gridpuzzle$Board" "size" "I", .static yX3_at, .initialized RX3, .code yX3_at cX3_at 2 (some .int)] ++ wsX00)
def wsX0_countRuns : List Cond := .code yX0_countRuns cX0_countRuns 1 (some .int) :: ([.fieldLink RX0 68 "Gridpuzzle$Board" "runCount" "I"] ++ wsX00)
def wsX0_hasRun : List Cond := .code yX0_hasRun cX0_hasRun 2 (some .boolean) :: ([.fieldLink RX0 68 "Gridpuzzle$Board" "runCount" "I"] ++ wsX00)
def wsX0_firstAt : List Cond := .code yX0_firstAt cX0_firstAt 2 (some .int) :: ([.fieldLink RX0 15 "Gridpuzzle$Board" "firsts" "[I", .static yX3_at, .initialized RX3, .code yX3_at cX3_at 2 (some .int)] ++ wsX00)
def wsX0_lengthAt : List Cond := .code yX0_lengthAt cX0_lengthAt 2 (some .int) :: ([.fieldLink RX0 21 "Gridpuzzle$Board" "lengths" "[I", .static yX3_at, .initialized RX3, .code yX3_at cX3_at 2 (some .int)] ++ wsX00)
def wsX0_sumAt : List Cond := .code yX0_sumAt cX0_sumAt 2 (some .int) :: ([.fieldLink RX0 24 "Gridpuzzle$Board" "sums" "[I", .static yX3_at, .initialized RX3, .code yX3_at cX3_at 2 (some .int)] ++ wsX00)
def wsX0_putSum : List Cond := .code yX0_putSum cX0_putSum 3 none :: ([.fieldLink RX0 24 "Gridpuzzle$Board" "sums" "[I", .static yX3_put, .initialized RX3, .code yX3_put cX3_put 3 none] ++ wsX00)
def wsX0_cellAt : List Cond := .code yX0_cellAt cX0_cellAt 3 (some .int) :: ([.fieldLink RX0 15 "Gridpuzzle$Board" "firsts" "[I", .fieldLink RX0 18 "Gridpuzzle$Board" "steps" "[I", .static yX3_at, .initialized RX3, .code yX3_at cX3_at 2 (some .int)] ++ wsX00)
def wsX0_rowRunOf : List Cond := .code yX0_rowRunOf cX0_rowRunOf 2 (some .int) :: ([.fieldLink RX0 27 "Gridpuzzle$Board" "rowRuns" "[I", .static yX3_at, .initialized RX3, .code yX3_at cX3_at 2 (some .int)] ++ wsX00)
def wsX0_columnRunOf : List Cond := .code yX0_columnRunOf cX0_columnRunOf 2 (some .int) :: ([.fieldLink RX0 30 "Gridpuzzle$Board" "columnRuns" "[I", .static yX3_at, .initialized RX3, .code yX3_at cX3_at 2 (some .int)] ++ wsX00)
def wsX0_isFilled : List Cond := .code yX0_isFilled cX0_isFilled 1 (some .boolean) :: ([.methodLink RX0 79 yX0_countBlanks, .instanceMethod yX0_countBlanks, .selects RX0 yX0_countBlanks yX0_countBlanks, .initialized RX0, .code yX0_countBlanks cX0_countBlanks 3 (some .int), .methodLink RX0 65 yX0_isBlank, .instanceMethod yX0_isBlank, .selects RX0 yX0_isBlank yX0_isBlank, .code yX0_isBlank cX0_isBlank 2 (some .boolean), .fieldLink RX0 9 "Gridpuzzle$Board" "givens" "[I", .methodLink RX0 46 yX0_hasCell, .instanceMethod yX0_hasCell, .selects RX0 yX0_hasCell yX0_hasCell, .code yX0_hasCell cX0_hasCell 2 (some .boolean), .fieldLink RX0 33 "Gridpuzzle$Board" "size" "I", .static yX3_at, .initialized RX3, .code yX3_at cX3_at 2 (some .int)] ++ wsX00)
def wsX0_hasTwice : List Cond := .code yX0_hasTwice cX0_hasTwice 7 (some .boolean) :: ([.methodLink RX0 94 yX0_lengthAt, .instanceMethod yX0_lengthAt, .selects RX0 yX0_lengthAt yX0_lengthAt, .initialized RX0, .code yX0_lengthAt cX0_lengthAt 2 (some .int), .fieldLink RX0 21 "Gridpuzzle$Board" "lengths" "[I", .static yX3_at, .initialized RX3, .code yX3_at cX3_at 2 (some .int), .methodLink RX0 97 yX0_cellAt, .instanceMethod yX0_cellAt, .selects RX0 yX0_cellAt yX0_cellAt, .code yX0_cellAt cX0_cellAt 3 (some .int), .fieldLink RX0 15 "Gridpuzzle$Board" "firsts" "[I", .fieldLink RX0 18 "Gridpuzzle$Board" "steps" "[I"] ++ wsX00)
def wsX0_givesTwice : List Cond := .code yX0_givesTwice cX0_givesTwice 2 (some .boolean) :: ([.fieldLink RX0 68 "Gridpuzzle$Board" "runCount" "I", .fieldLink RX0 9 "Gridpuzzle$Board" "givens" "[I", .methodLink RX0 82 yX0_hasTwice, .instanceMethod yX0_hasTwice, .selects RX0 yX0_hasTwice yX0_hasTwice, .initialized RX0, .code yX0_hasTwice cX0_hasTwice 7 (some .boolean), .methodLink RX0 94 yX0_lengthAt, .instanceMethod yX0_lengthAt, .selects RX0 yX0_lengthAt yX0_lengthAt, .code yX0_lengthAt cX0_lengthAt 2 (some .int), .fieldLink RX0 21 "Gridpuzzle$Board" "lengths" "[I", .static yX3_at, .initialized RX3, .code yX3_at cX3_at 2 (some .int), .methodLink RX0 97 yX0_cellAt, .instanceMethod yX0_cellAt, .selects RX0 yX0_cellAt yX0_cellAt, .code yX0_cellAt cX0_cellAt 3 (some .int), .fieldLink RX0 15 "Gridpuzzle$Board" "firsts" "[I", .fieldLink RX0 18 "Gridpuzzle$Board" "steps" "[I"] ++ wsX00)
def wsX0_totalOf : List Cond := .code yX0_totalOf cX0_totalOf 6 (some .int) :: ([.methodLink RX0 94 yX0_lengthAt, .instanceMethod yX0_lengthAt, .selects RX0 yX0_lengthAt yX0_lengthAt, .initialized RX0, .code yX0_lengthAt cX0_lengthAt 2 (some .int), .fieldLink RX0 21 "Gridpuzzle$Board" "lengths" "[I", .static yX3_at, .initialized RX3, .code yX3_at cX3_at 2 (some .int), .methodLink RX0 97 yX0_cellAt, .instanceMethod yX0_cellAt, .selects RX0 yX0_cellAt yX0_cellAt, .code yX0_cellAt cX0_cellAt 3 (some .int), .fieldLink RX0 15 "Gridpuzzle$Board" "firsts" "[I", .fieldLink RX0 18 "Gridpuzzle$Board" "steps" "[I"] ++ wsX00)
def wsX0_sumAndEmpty_r1 : List Cond := [Cond.fieldLink RX0 68 "Gridpuzzle$Board" "runCount" "I", Cond.fieldLink RX0 24 "Gridpuzzle$Board" "sums" "[I", Cond.fieldLink RX0 9 "Gridpuzzle$Board" "givens" "[I", Cond.methodLink RX0 86 yX0_totalOf, Cond.instanceMethod yX0_totalOf, Cond.selects RX0 yX0_totalOf yX0_totalOf, Cond.initialized RX0, Cond.code yX0_totalOf cX0_totalOf 6 (some .int), Cond.methodLink RX0 94 yX0_lengthAt, Cond.instanceMethod yX0_lengthAt, Cond.selects RX0 yX0_lengthAt yX0_lengthAt, Cond.code yX0_lengthAt cX0_lengthAt 2 (some .int), Cond.fieldLink RX0 21 "Gridpuzzle$Board" "lengths" "[I", Cond.static yX3_at, Cond.initialized RX3, Cond.code yX3_at cX3_at 2 (some .int), Cond.methodLink RX0 97 yX0_cellAt, Cond.instanceMethod yX0_cellAt, Cond.selects RX0 yX0_cellAt yX0_cellAt, Cond.code yX0_cellAt cX0_cellAt 3 (some .int), Cond.fieldLink RX0 15 "Gridpuzzle$Board" "firsts" "[I", Cond.fieldLink RX0 18 "Gridpuzzle$Board" "steps" "[I", Cond.static yX3_put, Cond.code yX3_put cX3_put 3 none]
def wsX0_sumAndEmpty_r2 : List Cond := [Cond.methodLink RX0 58 yX0_isOpen, Cond.instanceMethod yX0_isOpen, Cond.selects RX0 yX0_isOpen yX0_isOpen, Cond.code yX0_isOpen cX0_isOpen 2 (some .boolean), Cond.methodLink RX0 46 yX0_hasCell, Cond.instanceMethod yX0_hasCell, Cond.selects RX0 yX0_hasCell yX0_hasCell, Cond.code yX0_hasCell cX0_hasCell 2 (some .boolean), Cond.fieldLink RX0 33 "Gridpuzzle$Board" "size" "I"]
def wsX0_sumAndEmpty : List Cond := .code yX0_sumAndEmpty cX0_sumAndEmpty 2 none :: ((wsX0_sumAndEmpty_r1 ++ wsX0_sumAndEmpty_r2) ++ wsX00)
def wsX0_isAnswer_r1 : List Cond := [Cond.fieldLink RX0 68 "Gridpuzzle$Board" "runCount" "I", Cond.methodLink RX0 90 yX0_sumAt, Cond.instanceMethod yX0_sumAt, Cond.selects RX0 yX0_sumAt yX0_sumAt, Cond.initialized RX0, Cond.code yX0_sumAt cX0_sumAt 2 (some .int), Cond.fieldLink RX0 24 "Gridpuzzle$Board" "sums" "[I", Cond.static yX3_at, Cond.initialized RX3, Cond.code yX3_at cX3_at 2 (some .int), Cond.methodLink RX0 82 yX0_hasTwice, Cond.instanceMethod yX0_hasTwice, Cond.selects RX0 yX0_hasTwice yX0_hasTwice, Cond.code yX0_hasTwice cX0_hasTwice 7 (some .boolean), Cond.methodLink RX0 94 yX0_lengthAt, Cond.instanceMethod yX0_lengthAt, Cond.selects RX0 yX0_lengthAt yX0_lengthAt, Cond.code yX0_lengthAt cX0_lengthAt 2 (some .int), Cond.fieldLink RX0 21 "Gridpuzzle$Board" "lengths" "[I", Cond.methodLink RX0 97 yX0_cellAt, Cond.instanceMethod yX0_cellAt, Cond.selects RX0 yX0_cellAt yX0_cellAt, Cond.code yX0_cellAt cX0_cellAt 3 (some .int), Cond.fieldLink RX0 15 "Gridpuzzle$Board" "firsts" "[I"]
def wsX0_isAnswer_r2 : List Cond := [Cond.fieldLink RX0 18 "Gridpuzzle$Board" "steps" "[I", Cond.methodLink RX0 86 yX0_totalOf, Cond.instanceMethod yX0_totalOf, Cond.selects RX0 yX0_totalOf yX0_totalOf, Cond.code yX0_totalOf cX0_totalOf 6 (some .int)]
def wsX0_isAnswer : List Cond := .code yX0_isAnswer cX0_isAnswer 4 (some .boolean) :: ((wsX0_isAnswer_r1 ++ wsX0_isAnswer_r2) ++ wsX00)
def wsX1_init : List Cond := .code yX1_init cX1_init 2 none :: ([.methodLink RX1 3 objectInit, .instanceMethod objectInit, .code objectInit ⟨#[0xb1]⟩ 1 none, .arrayClass .int, .fieldLink RX1 9 "Gridpuzzle$Solving" "sets" "[I", .fieldLink RX1 15 "Gridpuzzle$Solving" "setsOfRun" "[I", .fieldLink RX1 18 "Gridpuzzle$Solving" "board" "LGridpuzzle$Board;"] ++ wsX10)
def wsX1_firstSetOf : List Cond := .code yX1_firstSetOf cX1_firstSetOf 2 (some .int) :: ([.fieldLink RX1 18 "Gridpuzzle$Solving" "board" "LGridpuzzle$Board;", .methodLink RX1 58 yX0_isOpen, .instanceMethod yX0_isOpen, .selects RX0 yX0_isOpen yX0_isOpen, .initialized RX0, .code yX0_isOpen cX0_isOpen 2 (some .boolean), .fieldLink RX0 9 "Gridpuzzle$Board" "givens" "[I", .methodLink RX0 46 yX0_hasCell, .instanceMethod yX0_hasCell, .selects RX0 yX0_hasCell yX0_hasCell, .code yX0_hasCell cX0_hasCell 2 (some .boolean), .fieldLink RX0 33 "Gridpuzzle$Board" "size" "I", .static yX3_at, .initialized RX3, .code yX3_at cX3_at 2 (some .int), .methodLink RX1 67 yX0_isBlank, .instanceMethod yX0_isBlank, .selects RX0 yX0_isBlank yX0_isBlank, .code yX0_isBlank cX0_isBlank 2 (some .boolean), .methodLink RX1 78 yX0_givenAt, .instanceMethod yX0_givenAt, .selects RX0 yX0_givenAt yX0_givenAt, .code yX0_givenAt cX0_givenAt 2 (some .int)] ++ wsX10 ++ wsX00)
def wsX1_start_r1 : List Cond := [Cond.fieldLink RX1 33 "Gridpuzzle$Solving" "greatest" "I", Cond.fieldLink RX1 9 "Gridpuzzle$Solving" "sets" "[I", Cond.methodLink RX1 70 yX1_firstSetOf, Cond.instanceMethod yX1_firstSetOf, Cond.selects RX1 yX1_firstSetOf yX1_firstSetOf, Cond.initialized RX1, Cond.code yX1_firstSetOf cX1_firstSetOf 2 (some .int), Cond.fieldLink RX1 18 "Gridpuzzle$Solving" "board" "LGridpuzzle$Board;", Cond.methodLink RX1 58 yX0_isOpen, Cond.instanceMethod yX0_isOpen, Cond.selects RX0 yX0_isOpen yX0_isOpen, Cond.initialized RX0, Cond.code yX0_isOpen cX0_isOpen 2 (some .boolean), Cond.fieldLink RX0 9 "Gridpuzzle$Board" "givens" "[I", Cond.methodLink RX0 46 yX0_hasCell, Cond.instanceMethod yX0_hasCell, Cond.selects RX0 yX0_hasCell yX0_hasCell, Cond.code yX0_hasCell cX0_hasCell 2 (some .boolean), Cond.fieldLink RX0 33 "Gridpuzzle$Board" "size" "I", Cond.static yX3_at, Cond.initialized RX3, Cond.code yX3_at cX3_at 2 (some .int), Cond.methodLink RX1 67 yX0_isBlank, Cond.instanceMethod yX0_isBlank]
def wsX1_start_r2 : List Cond := [Cond.selects RX0 yX0_isBlank yX0_isBlank, Cond.code yX0_isBlank cX0_isBlank 2 (some .boolean), Cond.methodLink RX1 78 yX0_givenAt, Cond.instanceMethod yX0_givenAt, Cond.selects RX0 yX0_givenAt yX0_givenAt, Cond.code yX0_givenAt cX0_givenAt 2 (some .int), Cond.static yX3_put, Cond.code yX3_put cX3_put 3 none]
def wsX1_start : List Cond := .code yX1_start cX1_start 2 none :: ((wsX1_start_r1 ++ wsX1_start_r2) ++ wsX10 ++ wsX00)
def wsJ6_bitCount_0f7a4 : List Cond := .code yJ6_bitCount_0f7a4 cJ6_bitCount_0f7a4 1 (some .int) :: ([.constant RJ6 265 (1431655765), .constant RJ6 266 (858993459), .constant RJ6 267 (252645135)])
def wsX1_isSingle : List Cond := .code yX1_isSingle cX1_isSingle 1 (some .boolean) :: ([.methodLink RX1 110 yJ6_bitCount_0f7a4, .static yJ6_bitCount_0f7a4, .initialized RJ6, .code yJ6_bitCount_0f7a4 cJ6_bitCount_0f7a4 1 (some .int), .constant RJ6 265 (1431655765), .constant RJ6 266 (858993459), .constant RJ6 267 (252645135)])
def wsX1_take : List Cond := .code yX1_take cX1_take 4 none :: ([.fieldLink RX1 9 "Gridpuzzle$Solving" "sets" "[I", .fieldLink RX1 29 "Gridpuzzle$Solving" "tookAway" "Z", .static yX3_at, .initialized RX3, .code yX3_at cX3_at 2 (some .int), .static yX3_put, .code yX3_put cX3_put 3 none] ++ wsX10)
def wsX1_takeSingles_r1 : List Cond := [Cond.fieldLink RX1 18 "Gridpuzzle$Solving" "board" "LGridpuzzle$Board;", Cond.fieldLink RX1 9 "Gridpuzzle$Solving" "sets" "[I", Cond.methodLink RX1 96 yX0_lengthAt, Cond.instanceMethod yX0_lengthAt, Cond.selects RX0 yX0_lengthAt yX0_lengthAt, Cond.initialized RX0, Cond.code yX0_lengthAt cX0_lengthAt 2 (some .int), Cond.fieldLink RX0 21 "Gridpuzzle$Board" "lengths" "[I", Cond.static yX3_at, Cond.initialized RX3, Cond.code yX3_at cX3_at 2 (some .int), Cond.methodLink RX1 99 yX0_cellAt, Cond.instanceMethod yX0_cellAt, Cond.selects RX0 yX0_cellAt yX0_cellAt, Cond.code yX0_cellAt cX0_cellAt 3 (some .int), Cond.fieldLink RX0 15 "Gridpuzzle$Board" "firsts" "[I", Cond.fieldLink RX0 18 "Gridpuzzle$Board" "steps" "[I", Cond.methodLink RX1 64 yX1_isSingle, Cond.static yX1_isSingle, Cond.initialized RX1, Cond.code yX1_isSingle cX1_isSingle 1 (some .boolean), Cond.methodLink RX1 110 yJ6_bitCount_0f7a4, Cond.static yJ6_bitCount_0f7a4, Cond.initialized RJ6]
def wsX1_takeSingles_r2 : List Cond := [Cond.code yJ6_bitCount_0f7a4 cJ6_bitCount_0f7a4 1 (some .int), Cond.constant RJ6 265 (1431655765), Cond.constant RJ6 266 (858993459), Cond.constant RJ6 267 (252645135), Cond.methodLink RX1 102 yX1_take, Cond.instanceMethod yX1_take, Cond.selects RX1 yX1_take yX1_take, Cond.code yX1_take cX1_take 4 none, Cond.fieldLink RX1 29 "Gridpuzzle$Solving" "tookAway" "Z", Cond.static yX3_put, Cond.code yX3_put cX3_put 3 none]
def wsX1_takeSingles : List Cond := .code yX1_takeSingles cX1_takeSingles 6 none :: ((wsX1_takeSingles_r1 ++ wsX1_takeSingles_r2) ++ wsX10 ++ wsX00)
def wsX1_sumOfSet : List Cond := .code yX1_sumOfSet cX1_sumOfSet 3 (some .int) :: ([])
def wsX1_digitsOfSets : List Cond := .code yX1_digitsOfSets cX1_digitsOfSets 5 (some .int) :: ([.methodLink RX1 110 yJ6_bitCount_0f7a4, .static yJ6_bitCount_0f7a4, .initialized RJ6, .code yJ6_bitCount_0f7a4 cJ6_bitCount_0f7a4 1 (some .int), .constant RJ6 265 (1431655765), .constant RJ6 266 (858993459), .constant RJ6 267 (252645135), .methodLink RX1 115 yX1_sumOfSet, .static yX1_sumOfSet, .initialized RX1, .code yX1_sumOfSet cX1_sumOfSet 3 (some .int)])
def wsX1_takeOutsideSets_r1 : List Cond := [Cond.fieldLink RX1 18 "Gridpuzzle$Solving" "board" "LGridpuzzle$Board;", Cond.fieldLink RX1 9 "Gridpuzzle$Solving" "sets" "[I", Cond.methodLink RX1 96 yX0_lengthAt, Cond.instanceMethod yX0_lengthAt, Cond.selects RX0 yX0_lengthAt yX0_lengthAt, Cond.initialized RX0, Cond.code yX0_lengthAt cX0_lengthAt 2 (some .int), Cond.fieldLink RX0 21 "Gridpuzzle$Board" "lengths" "[I", Cond.static yX3_at, Cond.initialized RX3, Cond.code yX3_at cX3_at 2 (some .int), Cond.methodLink RX1 99 yX0_cellAt, Cond.instanceMethod yX0_cellAt, Cond.selects RX0 yX0_cellAt yX0_cellAt, Cond.code yX0_cellAt cX0_cellAt 3 (some .int), Cond.fieldLink RX0 15 "Gridpuzzle$Board" "firsts" "[I", Cond.fieldLink RX0 18 "Gridpuzzle$Board" "steps" "[I", Cond.methodLink RX1 64 yX1_isSingle, Cond.static yX1_isSingle, Cond.initialized RX1, Cond.code yX1_isSingle cX1_isSingle 1 (some .boolean), Cond.methodLink RX1 110 yJ6_bitCount_0f7a4, Cond.static yJ6_bitCount_0f7a4, Cond.initialized RJ6]
def wsX1_takeOutsideSets_r2 : List Cond := [Cond.code yJ6_bitCount_0f7a4 cJ6_bitCount_0f7a4 1 (some .int), Cond.constant RJ6 265 (1431655765), Cond.constant RJ6 266 (858993459), Cond.constant RJ6 267 (252645135), Cond.methodLink RX1 87 yX0_sumAt, Cond.instanceMethod yX0_sumAt, Cond.selects RX0 yX0_sumAt yX0_sumAt, Cond.code yX0_sumAt cX0_sumAt 2 (some .int), Cond.fieldLink RX0 24 "Gridpuzzle$Board" "sums" "[I", Cond.methodLink RX1 106 yX1_digitsOfSets, Cond.static yX1_digitsOfSets, Cond.code yX1_digitsOfSets cX1_digitsOfSets 5 (some .int), Cond.methodLink RX1 115 yX1_sumOfSet, Cond.static yX1_sumOfSet, Cond.code yX1_sumOfSet cX1_sumOfSet 3 (some .int), Cond.methodLink RX1 102 yX1_take, Cond.instanceMethod yX1_take, Cond.selects RX1 yX1_take yX1_take, Cond.code yX1_take cX1_take 4 none, Cond.fieldLink RX1 29 "Gridpuzzle$Solving" "tookAway" "Z", Cond.static yX3_put, Cond.code yX3_put cX3_put 3 none]
def wsX1_takeOutsideSets : List Cond := .code yX1_takeOutsideSets cX1_takeOutsideSets 6 none :: ((wsX1_takeOutsideSets_r1 ++ wsX1_takeOutsideSets_r2) ++ wsX10 ++ wsX00)
def wsX1_canMake : List Cond := .code yX1_canMake cX1_canMake 7 (some .boolean) :: ([.static yX3_at, .initialized RX3, .code yX3_at cX3_at 2 (some .int), .methodLink RX1 118 yX1_canMake, .static yX1_canMake, .initialized RX1])
def wsX1_takeUnfit_r1 : List Cond := [Cond.fieldLink RX1 18 "Gridpuzzle$Solving" "board" "LGridpuzzle$Board;", Cond.fieldLink RX1 15 "Gridpuzzle$Solving" "setsOfRun" "[I", Cond.fieldLink RX1 9 "Gridpuzzle$Solving" "sets" "[I", Cond.methodLink RX1 96 yX0_lengthAt, Cond.instanceMethod yX0_lengthAt, Cond.selects RX0 yX0_lengthAt yX0_lengthAt, Cond.initialized RX0, Cond.code yX0_lengthAt cX0_lengthAt 2 (some .int), Cond.fieldLink RX0 21 "Gridpuzzle$Board" "lengths" "[I", Cond.static yX3_at, Cond.initialized RX3, Cond.code yX3_at cX3_at 2 (some .int), Cond.methodLink RX1 99 yX0_cellAt, Cond.instanceMethod yX0_cellAt, Cond.selects RX0 yX0_cellAt yX0_cellAt, Cond.code yX0_cellAt cX0_cellAt 3 (some .int), Cond.fieldLink RX0 15 "Gridpuzzle$Board" "firsts" "[I", Cond.fieldLink RX0 18 "Gridpuzzle$Board" "steps" "[I", Cond.static yX3_put, Cond.code yX3_put cX3_put 3 none, Cond.methodLink RX1 87 yX0_sumAt, Cond.instanceMethod yX0_sumAt, Cond.selects RX0 yX0_sumAt yX0_sumAt, Cond.code yX0_sumAt cX0_sumAt 2 (some .int)]
def wsX1_takeUnfit_r2 : List Cond := [Cond.fieldLink RX0 24 "Gridpuzzle$Board" "sums" "[I", Cond.methodLink RX1 118 yX1_canMake, Cond.static yX1_canMake, Cond.initialized RX1, Cond.code yX1_canMake cX1_canMake 7 (some .boolean), Cond.methodLink RX1 102 yX1_take, Cond.instanceMethod yX1_take, Cond.selects RX1 yX1_take yX1_take, Cond.code yX1_take cX1_take 4 none, Cond.fieldLink RX1 29 "Gridpuzzle$Solving" "tookAway" "Z"]
def wsX1_takeUnfit : List Cond := .code yX1_takeUnfit cX1_takeUnfit 7 none :: ((wsX1_takeUnfit_r1 ++ wsX1_takeUnfit_r2) ++ wsX10 ++ wsX00)
def wsX1_goThrough_r1 : List Cond := [Cond.fieldLink RX1 29 "Gridpuzzle$Solving" "tookAway" "Z", Cond.fieldLink RX1 18 "Gridpuzzle$Solving" "board" "LGridpuzzle$Board;", Cond.methodLink RX1 81 yX0_countRuns, Cond.instanceMethod yX0_countRuns, Cond.selects RX0 yX0_countRuns yX0_countRuns, Cond.initialized RX0, Cond.code yX0_countRuns cX0_countRuns 1 (some .int), Cond.fieldLink RX0 68 "Gridpuzzle$Board" "runCount" "I", Cond.methodLink RX1 84 yX1_takeSingles, Cond.instanceMethod yX1_takeSingles, Cond.selects RX1 yX1_takeSingles yX1_takeSingles, Cond.initialized RX1, Cond.code yX1_takeSingles cX1_takeSingles 6 none, Cond.fieldLink RX1 9 "Gridpuzzle$Solving" "sets" "[I", Cond.methodLink RX1 96 yX0_lengthAt, Cond.instanceMethod yX0_lengthAt, Cond.selects RX0 yX0_lengthAt yX0_lengthAt, Cond.code yX0_lengthAt cX0_lengthAt 2 (some .int), Cond.fieldLink RX0 21 "Gridpuzzle$Board" "lengths" "[I", Cond.static yX3_at, Cond.initialized RX3, Cond.code yX3_at cX3_at 2 (some .int), Cond.methodLink RX1 99 yX0_cellAt, Cond.instanceMethod yX0_cellAt]
def wsX1_goThrough_r2 : List Cond := [Cond.selects RX0 yX0_cellAt yX0_cellAt, Cond.code yX0_cellAt cX0_cellAt 3 (some .int), Cond.fieldLink RX0 15 "Gridpuzzle$Board" "firsts" "[I", Cond.fieldLink RX0 18 "Gridpuzzle$Board" "steps" "[I", Cond.methodLink RX1 64 yX1_isSingle, Cond.static yX1_isSingle, Cond.code yX1_isSingle cX1_isSingle 1 (some .boolean), Cond.methodLink RX1 110 yJ6_bitCount_0f7a4, Cond.static yJ6_bitCount_0f7a4, Cond.initialized RJ6, Cond.code yJ6_bitCount_0f7a4 cJ6_bitCount_0f7a4 1 (some .int), Cond.constant RJ6 265 (1431655765), Cond.constant RJ6 266 (858993459), Cond.constant RJ6 267 (252645135), Cond.methodLink RX1 102 yX1_take, Cond.instanceMethod yX1_take, Cond.selects RX1 yX1_take yX1_take, Cond.code yX1_take cX1_take 4 none, Cond.static yX3_put, Cond.code yX3_put cX3_put 3 none, Cond.methodLink RX1 87 yX0_sumAt, Cond.instanceMethod yX0_sumAt, Cond.selects RX0 yX0_sumAt yX0_sumAt, Cond.code yX0_sumAt cX0_sumAt 2 (some .int)]
def wsX1_goThrough_r3 : List Cond := [Cond.fieldLink RX0 24 "Gridpuzzle$Board" "sums" "[I", Cond.methodLink RX1 90 yX1_takeOutsideSets, Cond.instanceMethod yX1_takeOutsideSets, Cond.selects RX1 yX1_takeOutsideSets yX1_takeOutsideSets, Cond.code yX1_takeOutsideSets cX1_takeOutsideSets 6 none, Cond.methodLink RX1 106 yX1_digitsOfSets, Cond.static yX1_digitsOfSets, Cond.code yX1_digitsOfSets cX1_digitsOfSets 5 (some .int), Cond.methodLink RX1 115 yX1_sumOfSet, Cond.static yX1_sumOfSet, Cond.code yX1_sumOfSet cX1_sumOfSet 3 (some .int), Cond.methodLink RX1 93 yX1_takeUnfit, Cond.instanceMethod yX1_takeUnfit, Cond.selects RX1 yX1_takeUnfit yX1_takeUnfit, Cond.code yX1_takeUnfit cX1_takeUnfit 7 none, Cond.fieldLink RX1 15 "Gridpuzzle$Solving" "setsOfRun" "[I", Cond.methodLink RX1 118 yX1_canMake, Cond.static yX1_canMake, Cond.code yX1_canMake cX1_canMake 7 (some .boolean)]
def wsX1_goThrough : List Cond := .code yX1_goThrough cX1_goThrough 4 none :: ((wsX1_goThrough_r1 ++ (wsX1_goThrough_r2 ++ wsX1_goThrough_r3)) ++ wsX10 ++ wsX00)
def wsX1_hasEmptyCell : List Cond := .code yX1_hasEmptyCell cX1_hasEmptyCell 2 (some .boolean) :: ([.fieldLink RX1 18 "Gridpuzzle$Solving" "board" "LGridpuzzle$Board;", .fieldLink RX1 9 "Gridpuzzle$Solving" "sets" "[I", .methodLink RX1 58 yX0_isOpen, .instanceMethod yX0_isOpen, .selects RX0 yX0_isOpen yX0_isOpen, .initialized RX0, .code yX0_isOpen cX0_isOpen 2 (some .boolean), .fieldLink RX0 9 "Gridpuzzle$Board" "givens" "[I", .methodLink RX0 46 yX0_hasCell, .instanceMethod yX0_hasCell, .selects RX0 yX0_hasCell yX0_hasCell, .code yX0_hasCell cX0_hasCell 2 (some .boolean), .fieldLink RX0 33 "Gridpuzzle$Board" "size" "I", .static yX3_at, .initialized RX3, .code yX3_at cX3_at 2 (some .int)] ++ wsX10 ++ wsX00)
def wsX1_solve_r1 : List Cond := [Cond.fieldLink RX1 29 "Gridpuzzle$Solving" "tookAway" "Z", Cond.fieldLink RX1 33 "Gridpuzzle$Solving" "greatest" "I", Cond.methodLink RX1 37 Lib.Math.max.name, Cond.static Lib.Math.max.name, Cond.initialized "java/lang/Math", Cond.code Lib.Math.max.name Lib.Math.max.code 2 (some .int), Cond.methodLink RX1 22 yX1_start, Cond.instanceMethod yX1_start, Cond.selects RX1 yX1_start yX1_start, Cond.initialized RX1, Cond.code yX1_start cX1_start 2 none, Cond.fieldLink RX1 9 "Gridpuzzle$Solving" "sets" "[I", Cond.methodLink RX1 70 yX1_firstSetOf, Cond.instanceMethod yX1_firstSetOf, Cond.selects RX1 yX1_firstSetOf yX1_firstSetOf, Cond.code yX1_firstSetOf cX1_firstSetOf 2 (some .int), Cond.fieldLink RX1 18 "Gridpuzzle$Solving" "board" "LGridpuzzle$Board;", Cond.methodLink RX1 58 yX0_isOpen, Cond.instanceMethod yX0_isOpen, Cond.selects RX0 yX0_isOpen yX0_isOpen, Cond.initialized RX0, Cond.code yX0_isOpen cX0_isOpen 2 (some .boolean), Cond.fieldLink RX0 9 "Gridpuzzle$Board" "givens" "[I", Cond.methodLink RX0 46 yX0_hasCell]
def wsX1_solve_r2 : List Cond := [Cond.instanceMethod yX0_hasCell, Cond.selects RX0 yX0_hasCell yX0_hasCell, Cond.code yX0_hasCell cX0_hasCell 2 (some .boolean), Cond.fieldLink RX0 33 "Gridpuzzle$Board" "size" "I", Cond.static yX3_at, Cond.initialized RX3, Cond.code yX3_at cX3_at 2 (some .int), Cond.methodLink RX1 67 yX0_isBlank, Cond.instanceMethod yX0_isBlank, Cond.selects RX0 yX0_isBlank yX0_isBlank, Cond.code yX0_isBlank cX0_isBlank 2 (some .boolean), Cond.methodLink RX1 78 yX0_givenAt, Cond.instanceMethod yX0_givenAt, Cond.selects RX0 yX0_givenAt yX0_givenAt, Cond.code yX0_givenAt cX0_givenAt 2 (some .int), Cond.static yX3_put, Cond.code yX3_put cX3_put 3 none, Cond.methodLink RX1 25 yX1_goThrough, Cond.instanceMethod yX1_goThrough, Cond.selects RX1 yX1_goThrough yX1_goThrough, Cond.code yX1_goThrough cX1_goThrough 4 none, Cond.methodLink RX1 81 yX0_countRuns, Cond.instanceMethod yX0_countRuns, Cond.selects RX0 yX0_countRuns yX0_countRuns]
def wsX1_solve_r3 : List Cond := [Cond.code yX0_countRuns cX0_countRuns 1 (some .int), Cond.fieldLink RX0 68 "Gridpuzzle$Board" "runCount" "I", Cond.methodLink RX1 84 yX1_takeSingles, Cond.instanceMethod yX1_takeSingles, Cond.selects RX1 yX1_takeSingles yX1_takeSingles, Cond.code yX1_takeSingles cX1_takeSingles 6 none, Cond.methodLink RX1 96 yX0_lengthAt, Cond.instanceMethod yX0_lengthAt, Cond.selects RX0 yX0_lengthAt yX0_lengthAt, Cond.code yX0_lengthAt cX0_lengthAt 2 (some .int), Cond.fieldLink RX0 21 "Gridpuzzle$Board" "lengths" "[I", Cond.methodLink RX1 99 yX0_cellAt, Cond.instanceMethod yX0_cellAt, Cond.selects RX0 yX0_cellAt yX0_cellAt, Cond.code yX0_cellAt cX0_cellAt 3 (some .int), Cond.fieldLink RX0 15 "Gridpuzzle$Board" "firsts" "[I", Cond.fieldLink RX0 18 "Gridpuzzle$Board" "steps" "[I", Cond.methodLink RX1 64 yX1_isSingle, Cond.static yX1_isSingle, Cond.code yX1_isSingle cX1_isSingle 1 (some .boolean), Cond.methodLink RX1 110 yJ6_bitCount_0f7a4, Cond.static yJ6_bitCount_0f7a4, Cond.initialized RJ6, Cond.code yJ6_bitCount_0f7a4 cJ6_bitCount_0f7a4 1 (some .int)]
def wsX1_solve_r4 : List Cond := [Cond.constant RJ6 265 (1431655765), Cond.constant RJ6 266 (858993459), Cond.constant RJ6 267 (252645135), Cond.methodLink RX1 102 yX1_take, Cond.instanceMethod yX1_take, Cond.selects RX1 yX1_take yX1_take, Cond.code yX1_take cX1_take 4 none, Cond.methodLink RX1 87 yX0_sumAt, Cond.instanceMethod yX0_sumAt, Cond.selects RX0 yX0_sumAt yX0_sumAt, Cond.code yX0_sumAt cX0_sumAt 2 (some .int), Cond.fieldLink RX0 24 "Gridpuzzle$Board" "sums" "[I", Cond.methodLink RX1 90 yX1_takeOutsideSets, Cond.instanceMethod yX1_takeOutsideSets, Cond.selects RX1 yX1_takeOutsideSets yX1_takeOutsideSets, Cond.code yX1_takeOutsideSets cX1_takeOutsideSets 6 none, Cond.methodLink RX1 106 yX1_digitsOfSets, Cond.static yX1_digitsOfSets, Cond.code yX1_digitsOfSets cX1_digitsOfSets 5 (some .int), Cond.methodLink RX1 115 yX1_sumOfSet, Cond.static yX1_sumOfSet, Cond.code yX1_sumOfSet cX1_sumOfSet 3 (some .int), Cond.methodLink RX1 93 yX1_takeUnfit, Cond.instanceMethod yX1_takeUnfit]
def wsX1_solve_r5 : List Cond := [Cond.selects RX1 yX1_takeUnfit yX1_takeUnfit, Cond.code yX1_takeUnfit cX1_takeUnfit 7 none, Cond.fieldLink RX1 15 "Gridpuzzle$Solving" "setsOfRun" "[I", Cond.methodLink RX1 118 yX1_canMake, Cond.static yX1_canMake, Cond.code yX1_canMake cX1_canMake 7 (some .boolean), Cond.methodLink RX1 43 yX1_hasEmptyCell, Cond.instanceMethod yX1_hasEmptyCell, Cond.selects RX1 yX1_hasEmptyCell yX1_hasEmptyCell, Cond.code yX1_hasEmptyCell cX1_hasEmptyCell 2 (some .boolean)]
def wsX1_solve : List Cond := .code yX1_solve cX1_solve 4 none :: ((wsX1_solve_r1 ++ (wsX1_solve_r2 ++ (wsX1_solve_r3 ++ (wsX1_solve_r4 ++ wsX1_solve_r5)))) ++ wsX10 ++ wsX00)
def wsX1_firstFound_r1 : List Cond := [Cond.fieldLink RX1 18 "Gridpuzzle$Solving" "board" "LGridpuzzle$Board;", Cond.fieldLink RX1 9 "Gridpuzzle$Solving" "sets" "[I", Cond.methodLink RX1 67 yX0_isBlank, Cond.instanceMethod yX0_isBlank, Cond.selects RX0 yX0_isBlank yX0_isBlank, Cond.initialized RX0, Cond.code yX0_isBlank cX0_isBlank 2 (some .boolean), Cond.fieldLink RX0 9 "Gridpuzzle$Board" "givens" "[I", Cond.methodLink RX0 46 yX0_hasCell, Cond.instanceMethod yX0_hasCell, Cond.selects RX0 yX0_hasCell yX0_hasCell, Cond.code yX0_hasCell cX0_hasCell 2 (some .boolean), Cond.fieldLink RX0 33 "Gridpuzzle$Board" "size" "I", Cond.static yX3_at, Cond.initialized RX3, Cond.code yX3_at cX3_at 2 (some .int), Cond.methodLink RX1 64 yX1_isSingle, Cond.static yX1_isSingle, Cond.initialized RX1, Cond.code yX1_isSingle cX1_isSingle 1 (some .boolean), Cond.methodLink RX1 110 yJ6_bitCount_0f7a4, Cond.static yJ6_bitCount_0f7a4, Cond.initialized RJ6, Cond.code yJ6_bitCount_0f7a4 cJ6_bitCount_0f7a4 1 (some .int)]
def wsX1_firstFound_r2 : List Cond := [Cond.constant RJ6 265 (1431655765), Cond.constant RJ6 266 (858993459), Cond.constant RJ6 267 (252645135)]
def wsX1_firstFound : List Cond := .code yX1_firstFound cX1_firstFound 2 (some .int) :: ((wsX1_firstFound_r1 ++ wsX1_firstFound_r2) ++ wsX10 ++ wsX00)
def wsX1_solveToHint_r1 : List Cond := [Cond.methodLink RX1 47 yX1_solve, Cond.instanceMethod yX1_solve, Cond.selects RX1 yX1_solve yX1_solve, Cond.initialized RX1, Cond.code yX1_solve cX1_solve 4 none, Cond.fieldLink RX1 29 "Gridpuzzle$Solving" "tookAway" "Z", Cond.fieldLink RX1 33 "Gridpuzzle$Solving" "greatest" "I", Cond.methodLink RX1 37 Lib.Math.max.name, Cond.static Lib.Math.max.name, Cond.initialized "java/lang/Math", Cond.code Lib.Math.max.name Lib.Math.max.code 2 (some .int), Cond.methodLink RX1 22 yX1_start, Cond.instanceMethod yX1_start, Cond.selects RX1 yX1_start yX1_start, Cond.code yX1_start cX1_start 2 none, Cond.fieldLink RX1 9 "Gridpuzzle$Solving" "sets" "[I", Cond.methodLink RX1 70 yX1_firstSetOf, Cond.instanceMethod yX1_firstSetOf, Cond.selects RX1 yX1_firstSetOf yX1_firstSetOf, Cond.code yX1_firstSetOf cX1_firstSetOf 2 (some .int), Cond.fieldLink RX1 18 "Gridpuzzle$Solving" "board" "LGridpuzzle$Board;", Cond.methodLink RX1 58 yX0_isOpen, Cond.instanceMethod yX0_isOpen, Cond.selects RX0 yX0_isOpen yX0_isOpen]
def wsX1_solveToHint_r2 : List Cond := [Cond.initialized RX0, Cond.code yX0_isOpen cX0_isOpen 2 (some .boolean), Cond.fieldLink RX0 9 "Gridpuzzle$Board" "givens" "[I", Cond.methodLink RX0 46 yX0_hasCell, Cond.instanceMethod yX0_hasCell, Cond.selects RX0 yX0_hasCell yX0_hasCell, Cond.code yX0_hasCell cX0_hasCell 2 (some .boolean), Cond.fieldLink RX0 33 "Gridpuzzle$Board" "size" "I", Cond.static yX3_at, Cond.initialized RX3, Cond.code yX3_at cX3_at 2 (some .int), Cond.methodLink RX1 67 yX0_isBlank, Cond.instanceMethod yX0_isBlank, Cond.selects RX0 yX0_isBlank yX0_isBlank, Cond.code yX0_isBlank cX0_isBlank 2 (some .boolean), Cond.methodLink RX1 78 yX0_givenAt, Cond.instanceMethod yX0_givenAt, Cond.selects RX0 yX0_givenAt yX0_givenAt, Cond.code yX0_givenAt cX0_givenAt 2 (some .int), Cond.static yX3_put, Cond.code yX3_put cX3_put 3 none, Cond.methodLink RX1 25 yX1_goThrough, Cond.instanceMethod yX1_goThrough, Cond.selects RX1 yX1_goThrough yX1_goThrough]
def wsX1_solveToHint_r3 : List Cond := [Cond.code yX1_goThrough cX1_goThrough 4 none, Cond.methodLink RX1 81 yX0_countRuns, Cond.instanceMethod yX0_countRuns, Cond.selects RX0 yX0_countRuns yX0_countRuns, Cond.code yX0_countRuns cX0_countRuns 1 (some .int), Cond.fieldLink RX0 68 "Gridpuzzle$Board" "runCount" "I", Cond.methodLink RX1 84 yX1_takeSingles, Cond.instanceMethod yX1_takeSingles, Cond.selects RX1 yX1_takeSingles yX1_takeSingles, Cond.code yX1_takeSingles cX1_takeSingles 6 none, Cond.methodLink RX1 96 yX0_lengthAt, Cond.instanceMethod yX0_lengthAt, Cond.selects RX0 yX0_lengthAt yX0_lengthAt, Cond.code yX0_lengthAt cX0_lengthAt 2 (some .int), Cond.fieldLink RX0 21 "Gridpuzzle$Board" "lengths" "[I", Cond.methodLink RX1 99 yX0_cellAt, Cond.instanceMethod yX0_cellAt, Cond.selects RX0 yX0_cellAt yX0_cellAt, Cond.code yX0_cellAt cX0_cellAt 3 (some .int), Cond.fieldLink RX0 15 "Gridpuzzle$Board" "firsts" "[I", Cond.fieldLink RX0 18 "Gridpuzzle$Board" "steps" "[I", Cond.methodLink RX1 64 yX1_isSingle, Cond.static yX1_isSingle, Cond.code yX1_isSingle cX1_isSingle 1 (some .boolean)]
def wsX1_solveToHint_r4 : List Cond := [Cond.methodLink RX1 110 yJ6_bitCount_0f7a4, Cond.static yJ6_bitCount_0f7a4, Cond.initialized RJ6, Cond.code yJ6_bitCount_0f7a4 cJ6_bitCount_0f7a4 1 (some .int), Cond.constant RJ6 265 (1431655765), Cond.constant RJ6 266 (858993459), Cond.constant RJ6 267 (252645135), Cond.methodLink RX1 102 yX1_take, Cond.instanceMethod yX1_take, Cond.selects RX1 yX1_take yX1_take, Cond.code yX1_take cX1_take 4 none, Cond.methodLink RX1 87 yX0_sumAt, Cond.instanceMethod yX0_sumAt, Cond.selects RX0 yX0_sumAt yX0_sumAt, Cond.code yX0_sumAt cX0_sumAt 2 (some .int), Cond.fieldLink RX0 24 "Gridpuzzle$Board" "sums" "[I", Cond.methodLink RX1 90 yX1_takeOutsideSets, Cond.instanceMethod yX1_takeOutsideSets, Cond.selects RX1 yX1_takeOutsideSets yX1_takeOutsideSets, Cond.code yX1_takeOutsideSets cX1_takeOutsideSets 6 none, Cond.methodLink RX1 106 yX1_digitsOfSets, Cond.static yX1_digitsOfSets, Cond.code yX1_digitsOfSets cX1_digitsOfSets 5 (some .int), Cond.methodLink RX1 115 yX1_sumOfSet]
def wsX1_solveToHint_r5 : List Cond := [Cond.static yX1_sumOfSet, Cond.code yX1_sumOfSet cX1_sumOfSet 3 (some .int), Cond.methodLink RX1 93 yX1_takeUnfit, Cond.instanceMethod yX1_takeUnfit, Cond.selects RX1 yX1_takeUnfit yX1_takeUnfit, Cond.code yX1_takeUnfit cX1_takeUnfit 7 none, Cond.fieldLink RX1 15 "Gridpuzzle$Solving" "setsOfRun" "[I", Cond.methodLink RX1 118 yX1_canMake, Cond.static yX1_canMake, Cond.code yX1_canMake cX1_canMake 7 (some .boolean), Cond.methodLink RX1 43 yX1_hasEmptyCell, Cond.instanceMethod yX1_hasEmptyCell, Cond.selects RX1 yX1_hasEmptyCell yX1_hasEmptyCell, Cond.code yX1_hasEmptyCell cX1_hasEmptyCell 2 (some .boolean), Cond.methodLink RX1 50 yX1_firstFound, Cond.instanceMethod yX1_firstFound, Cond.selects RX1 yX1_firstFound yX1_firstFound, Cond.code yX1_firstFound cX1_firstFound 2 (some .int)]
def wsX1_solveToHint : List Cond := .code yX1_solveToHint cX1_solveToHint 2 (some .int) :: ((wsX1_solveToHint_r1 ++ (wsX1_solveToHint_r2 ++ (wsX1_solveToHint_r3 ++ (wsX1_solveToHint_r4 ++ wsX1_solveToHint_r5)))) ++ wsX10 ++ wsX00)
def wsX1_greatestRule : List Cond := .code yX1_greatestRule cX1_greatestRule 1 (some .int) :: ([.fieldLink RX1 33 "Gridpuzzle$Solving" "greatest" "I"] ++ wsX10)
def wsX1_setAt : List Cond := .code yX1_setAt cX1_setAt 2 (some .int) :: ([.fieldLink RX1 9 "Gridpuzzle$Solving" "sets" "[I", .static yX3_at, .initialized RX3, .code yX3_at cX3_at 2 (some .int)] ++ wsX10)
def wsX1_isSolved_r1 : List Cond := [Cond.fieldLink RX1 18 "Gridpuzzle$Solving" "board" "LGridpuzzle$Board;", Cond.fieldLink RX1 9 "Gridpuzzle$Solving" "sets" "[I", Cond.methodLink RX1 58 yX0_isOpen, Cond.instanceMethod yX0_isOpen, Cond.selects RX0 yX0_isOpen yX0_isOpen, Cond.initialized RX0, Cond.code yX0_isOpen cX0_isOpen 2 (some .boolean), Cond.fieldLink RX0 9 "Gridpuzzle$Board" "givens" "[I", Cond.methodLink RX0 46 yX0_hasCell, Cond.instanceMethod yX0_hasCell, Cond.selects RX0 yX0_hasCell yX0_hasCell, Cond.code yX0_hasCell cX0_hasCell 2 (some .boolean), Cond.fieldLink RX0 33 "Gridpuzzle$Board" "size" "I", Cond.static yX3_at, Cond.initialized RX3, Cond.code yX3_at cX3_at 2 (some .int), Cond.methodLink RX1 64 yX1_isSingle, Cond.static yX1_isSingle, Cond.initialized RX1, Cond.code yX1_isSingle cX1_isSingle 1 (some .boolean), Cond.methodLink RX1 110 yJ6_bitCount_0f7a4, Cond.static yJ6_bitCount_0f7a4, Cond.initialized RJ6, Cond.code yJ6_bitCount_0f7a4 cJ6_bitCount_0f7a4 1 (some .int)]
def wsX1_isSolved_r2 : List Cond := [Cond.constant RJ6 265 (1431655765), Cond.constant RJ6 266 (858993459), Cond.constant RJ6 267 (252645135)]
def wsX1_isSolved : List Cond := .code yX1_isSolved cX1_isSolved 2 (some .boolean) :: ((wsX1_isSolved_r1 ++ wsX1_isSolved_r2) ++ wsX10 ++ wsX00)
def wsX2_init : List Cond := .code yX2_init cX2_init 2 none :: ([.methodLink RX2 3 objectInit, .instanceMethod objectInit, .code objectInit ⟨#[0xb1]⟩ 1 none, .arrayClass .int, .fieldLink RX2 9 "Gridpuzzle$Trying" "blanks" "[I", .fieldLink RX2 15 "Gridpuzzle$Trying" "tried" "[I", .fieldLink RX2 18 "Gridpuzzle$Trying" "filling" "[I", .fieldLink RX2 21 "Gridpuzzle$Trying" "firstAnswer" "[I", .fieldLink RX2 24 "Gridpuzzle$Trying" "board" "LGridpuzzle$Board;"] ++ wsX20)
def wsX2_start_r1 : List Cond := [Cond.fieldLink RX2 31 "Gridpuzzle$Trying" "blankCount" "I", Cond.fieldLink RX2 15 "Gridpuzzle$Trying" "tried" "[I", Cond.fieldLink RX2 18 "Gridpuzzle$Trying" "filling" "[I", Cond.fieldLink RX2 24 "Gridpuzzle$Trying" "board" "LGridpuzzle$Board;", Cond.fieldLink RX2 9 "Gridpuzzle$Trying" "blanks" "[I", Cond.static yX3_put, Cond.initialized RX3, Cond.code yX3_put cX3_put 3 none, Cond.methodLink RX2 64 yX0_isOpen, Cond.instanceMethod yX0_isOpen, Cond.selects RX0 yX0_isOpen yX0_isOpen, Cond.initialized RX0, Cond.code yX0_isOpen cX0_isOpen 2 (some .boolean), Cond.fieldLink RX0 9 "Gridpuzzle$Board" "givens" "[I", Cond.methodLink RX0 46 yX0_hasCell, Cond.instanceMethod yX0_hasCell, Cond.selects RX0 yX0_hasCell yX0_hasCell, Cond.code yX0_hasCell cX0_hasCell 2 (some .boolean), Cond.fieldLink RX0 33 "Gridpuzzle$Board" "size" "I", Cond.static yX3_at, Cond.code yX3_at cX3_at 2 (some .int), Cond.methodLink RX2 67 yX0_givenAt, Cond.instanceMethod yX0_givenAt, Cond.selects RX0 yX0_givenAt yX0_givenAt]
def wsX2_start_r2 : List Cond := [Cond.code yX0_givenAt cX0_givenAt 2 (some .int), Cond.methodLink RX2 70 yX0_isBlank, Cond.instanceMethod yX0_isBlank, Cond.selects RX0 yX0_isBlank yX0_isBlank, Cond.code yX0_isBlank cX0_isBlank 2 (some .boolean)]
def wsX2_start : List Cond := .code yX2_start cX2_start 2 none :: ((wsX2_start_r1 ++ wsX2_start_r2) ++ wsX20 ++ wsX00)
def wsX2_suits : List Cond := .code yX2_suits cX2_suits 8 (some .boolean) :: ([.fieldLink RX2 24 "Gridpuzzle$Trying" "board" "LGridpuzzle$Board;", .fieldLink RX2 18 "Gridpuzzle$Trying" "filling" "[I", .methodLink RX2 83 yX0_lengthAt, .instanceMethod yX0_lengthAt, .selects RX0 yX0_lengthAt yX0_lengthAt, .initialized RX0, .code yX0_lengthAt cX0_lengthAt 2 (some .int), .fieldLink RX0 21 "Gridpuzzle$Board" "lengths" "[I", .static yX3_at, .initialized RX3, .code yX3_at cX3_at 2 (some .int), .methodLink RX2 86 yX0_cellAt, .instanceMethod yX0_cellAt, .selects RX0 yX0_cellAt yX0_cellAt, .code yX0_cellAt cX0_cellAt 3 (some .int), .fieldLink RX0 15 "Gridpuzzle$Board" "firsts" "[I", .fieldLink RX0 18 "Gridpuzzle$Board" "steps" "[I", .methodLink RX2 90 yX0_sumAt, .instanceMethod yX0_sumAt, .selects RX0 yX0_sumAt yX0_sumAt, .code yX0_sumAt cX0_sumAt 2 (some .int), .fieldLink RX0 24 "Gridpuzzle$Board" "sums" "[I"] ++ wsX20 ++ wsX00)
def wsX2_tryNext_r1 : List Cond := [Cond.fieldLink RX2 15 "Gridpuzzle$Trying" "tried" "[I", Cond.fieldLink RX2 18 "Gridpuzzle$Trying" "filling" "[I", Cond.fieldLink RX2 24 "Gridpuzzle$Trying" "board" "LGridpuzzle$Board;", Cond.static yX3_at, Cond.initialized RX3, Cond.code yX3_at cX3_at 2 (some .int), Cond.static yX3_put, Cond.code yX3_put cX3_put 3 none, Cond.methodLink RX2 73 yX0_rowRunOf, Cond.instanceMethod yX0_rowRunOf, Cond.selects RX0 yX0_rowRunOf yX0_rowRunOf, Cond.initialized RX0, Cond.code yX0_rowRunOf cX0_rowRunOf 2 (some .int), Cond.fieldLink RX0 27 "Gridpuzzle$Board" "rowRuns" "[I", Cond.methodLink RX2 76 yX2_suits, Cond.instanceMethod yX2_suits, Cond.selects RX2 yX2_suits yX2_suits, Cond.initialized RX2, Cond.code yX2_suits cX2_suits 8 (some .boolean), Cond.methodLink RX2 83 yX0_lengthAt, Cond.instanceMethod yX0_lengthAt, Cond.selects RX0 yX0_lengthAt yX0_lengthAt, Cond.code yX0_lengthAt cX0_lengthAt 2 (some .int), Cond.fieldLink RX0 21 "Gridpuzzle$Board" "lengths" "[I"]
def wsX2_tryNext_r2 : List Cond := [Cond.methodLink RX2 86 yX0_cellAt, Cond.instanceMethod yX0_cellAt, Cond.selects RX0 yX0_cellAt yX0_cellAt, Cond.code yX0_cellAt cX0_cellAt 3 (some .int), Cond.fieldLink RX0 15 "Gridpuzzle$Board" "firsts" "[I", Cond.fieldLink RX0 18 "Gridpuzzle$Board" "steps" "[I", Cond.methodLink RX2 90 yX0_sumAt, Cond.instanceMethod yX0_sumAt, Cond.selects RX0 yX0_sumAt yX0_sumAt, Cond.code yX0_sumAt cX0_sumAt 2 (some .int), Cond.fieldLink RX0 24 "Gridpuzzle$Board" "sums" "[I", Cond.methodLink RX2 80 yX0_columnRunOf, Cond.instanceMethod yX0_columnRunOf, Cond.selects RX0 yX0_columnRunOf yX0_columnRunOf, Cond.code yX0_columnRunOf cX0_columnRunOf 2 (some .int), Cond.fieldLink RX0 30 "Gridpuzzle$Board" "columnRuns" "[I"]
def wsX2_tryNext : List Cond := .code yX2_tryNext cX2_tryNext 3 (some .boolean) :: ((wsX2_tryNext_r1 ++ wsX2_tryNext_r2) ++ wsX20 ++ wsX00)
def wsX2_keepFirstAnswer : List Cond := .code yX2_keepFirstAnswer cX2_keepFirstAnswer 2 none :: ([.fieldLink RX2 21 "Gridpuzzle$Trying" "firstAnswer" "[I", .fieldLink RX2 18 "Gridpuzzle$Trying" "filling" "[I", .static yX3_at, .initialized RX3, .code yX3_at cX3_at 2 (some .int), .static yX3_put, .code yX3_put cX3_put 3 none] ++ wsX20)
def wsX2_backFrom : List Cond := .code yX2_backFrom cX2_backFrom 3 (some .int) :: ([.fieldLink RX2 15 "Gridpuzzle$Trying" "tried" "[I", .fieldLink RX2 9 "Gridpuzzle$Trying" "blanks" "[I", .fieldLink RX2 18 "Gridpuzzle$Trying" "filling" "[I", .static yX3_at, .initialized RX3, .code yX3_at cX3_at 2 (some .int), .static yX3_put, .code yX3_put cX3_put 3 none] ++ wsX20)
def wsX2_find_r1 : List Cond := [Cond.fieldLink RX2 31 "Gridpuzzle$Trying" "blankCount" "I", Cond.fieldLink RX2 24 "Gridpuzzle$Trying" "board" "LGridpuzzle$Board;", Cond.fieldLink RX2 18 "Gridpuzzle$Trying" "filling" "[I", Cond.fieldLink RX2 9 "Gridpuzzle$Trying" "blanks" "[I", Cond.methodLink RX2 28 yX2_start, Cond.instanceMethod yX2_start, Cond.selects RX2 yX2_start yX2_start, Cond.initialized RX2, Cond.code yX2_start cX2_start 2 none, Cond.fieldLink RX2 15 "Gridpuzzle$Trying" "tried" "[I", Cond.static yX3_put, Cond.initialized RX3, Cond.code yX3_put cX3_put 3 none, Cond.methodLink RX2 64 yX0_isOpen, Cond.instanceMethod yX0_isOpen, Cond.selects RX0 yX0_isOpen yX0_isOpen, Cond.initialized RX0, Cond.code yX0_isOpen cX0_isOpen 2 (some .boolean), Cond.fieldLink RX0 9 "Gridpuzzle$Board" "givens" "[I", Cond.methodLink RX0 46 yX0_hasCell, Cond.instanceMethod yX0_hasCell, Cond.selects RX0 yX0_hasCell yX0_hasCell, Cond.code yX0_hasCell cX0_hasCell 2 (some .boolean), Cond.fieldLink RX0 33 "Gridpuzzle$Board" "size" "I"]
def wsX2_find_r2 : List Cond := [Cond.static yX3_at, Cond.code yX3_at cX3_at 2 (some .int), Cond.methodLink RX2 67 yX0_givenAt, Cond.instanceMethod yX0_givenAt, Cond.selects RX0 yX0_givenAt yX0_givenAt, Cond.code yX0_givenAt cX0_givenAt 2 (some .int), Cond.methodLink RX2 70 yX0_isBlank, Cond.instanceMethod yX0_isBlank, Cond.selects RX0 yX0_isBlank yX0_isBlank, Cond.code yX0_isBlank cX0_isBlank 2 (some .boolean), Cond.methodLink RX2 35 yX0_isAnswer, Cond.instanceMethod yX0_isAnswer, Cond.selects RX0 yX0_isAnswer yX0_isAnswer, Cond.code yX0_isAnswer cX0_isAnswer 4 (some .boolean), Cond.fieldLink RX0 68 "Gridpuzzle$Board" "runCount" "I", Cond.methodLink RX0 90 yX0_sumAt, Cond.instanceMethod yX0_sumAt, Cond.selects RX0 yX0_sumAt yX0_sumAt, Cond.code yX0_sumAt cX0_sumAt 2 (some .int), Cond.fieldLink RX0 24 "Gridpuzzle$Board" "sums" "[I", Cond.methodLink RX0 82 yX0_hasTwice, Cond.instanceMethod yX0_hasTwice, Cond.selects RX0 yX0_hasTwice yX0_hasTwice, Cond.code yX0_hasTwice cX0_hasTwice 7 (some .boolean)]
def wsX2_find_r3 : List Cond := [Cond.methodLink RX0 94 yX0_lengthAt, Cond.instanceMethod yX0_lengthAt, Cond.selects RX0 yX0_lengthAt yX0_lengthAt, Cond.code yX0_lengthAt cX0_lengthAt 2 (some .int), Cond.fieldLink RX0 21 "Gridpuzzle$Board" "lengths" "[I", Cond.methodLink RX0 97 yX0_cellAt, Cond.instanceMethod yX0_cellAt, Cond.selects RX0 yX0_cellAt yX0_cellAt, Cond.code yX0_cellAt cX0_cellAt 3 (some .int), Cond.fieldLink RX0 15 "Gridpuzzle$Board" "firsts" "[I", Cond.fieldLink RX0 18 "Gridpuzzle$Board" "steps" "[I", Cond.methodLink RX0 86 yX0_totalOf, Cond.instanceMethod yX0_totalOf, Cond.selects RX0 yX0_totalOf yX0_totalOf, Cond.code yX0_totalOf cX0_totalOf 6 (some .int), Cond.methodLink RX2 45 yX2_tryNext, Cond.instanceMethod yX2_tryNext, Cond.selects RX2 yX2_tryNext yX2_tryNext, Cond.code yX2_tryNext cX2_tryNext 3 (some .boolean), Cond.methodLink RX2 73 yX0_rowRunOf, Cond.instanceMethod yX0_rowRunOf, Cond.selects RX0 yX0_rowRunOf yX0_rowRunOf, Cond.code yX0_rowRunOf cX0_rowRunOf 2 (some .int), Cond.fieldLink RX0 27 "Gridpuzzle$Board" "rowRuns" "[I"]
def wsX2_find_r4 : List Cond := [Cond.methodLink RX2 76 yX2_suits, Cond.instanceMethod yX2_suits, Cond.selects RX2 yX2_suits yX2_suits, Cond.code yX2_suits cX2_suits 8 (some .boolean), Cond.methodLink RX2 83 yX0_lengthAt, Cond.methodLink RX2 86 yX0_cellAt, Cond.methodLink RX2 90 yX0_sumAt, Cond.methodLink RX2 80 yX0_columnRunOf, Cond.instanceMethod yX0_columnRunOf, Cond.selects RX0 yX0_columnRunOf yX0_columnRunOf, Cond.code yX0_columnRunOf cX0_columnRunOf 2 (some .int), Cond.fieldLink RX0 30 "Gridpuzzle$Board" "columnRuns" "[I", Cond.methodLink RX2 49 yX2_keepFirstAnswer, Cond.instanceMethod yX2_keepFirstAnswer, Cond.selects RX2 yX2_keepFirstAnswer yX2_keepFirstAnswer, Cond.code yX2_keepFirstAnswer cX2_keepFirstAnswer 2 none, Cond.fieldLink RX2 21 "Gridpuzzle$Trying" "firstAnswer" "[I", Cond.methodLink RX2 52 yX2_backFrom, Cond.instanceMethod yX2_backFrom, Cond.selects RX2 yX2_backFrom yX2_backFrom, Cond.code yX2_backFrom cX2_backFrom 3 (some .int)]
def wsX2_find : List Cond := .code yX2_find cX2_find 6 (some .int) :: ((wsX2_find_r1 ++ (wsX2_find_r2 ++ (wsX2_find_r3 ++ wsX2_find_r4))) ++ wsX20 ++ wsX00)
def wsX2_fillBy : List Cond := .code yX2_fillBy cX2_fillBy 4 none :: ([.fieldLink RX2 31 "Gridpuzzle$Trying" "blankCount" "I", .fieldLink RX2 18 "Gridpuzzle$Trying" "filling" "[I", .fieldLink RX2 9 "Gridpuzzle$Trying" "blanks" "[I", .static yX3_at, .initialized RX3, .code yX3_at cX3_at 2 (some .int), .static yX3_put, .code yX3_put cX3_put 3 none] ++ wsX20)
def wsX2_countByAll_r1 : List Cond := [Cond.fieldLink RX2 31 "Gridpuzzle$Trying" "blankCount" "I", Cond.fieldLink RX2 24 "Gridpuzzle$Trying" "board" "LGridpuzzle$Board;", Cond.fieldLink RX2 18 "Gridpuzzle$Trying" "filling" "[I", Cond.methodLink RX2 28 yX2_start, Cond.instanceMethod yX2_start, Cond.selects RX2 yX2_start yX2_start, Cond.initialized RX2, Cond.code yX2_start cX2_start 2 none, Cond.fieldLink RX2 15 "Gridpuzzle$Trying" "tried" "[I", Cond.fieldLink RX2 9 "Gridpuzzle$Trying" "blanks" "[I", Cond.static yX3_put, Cond.initialized RX3, Cond.code yX3_put cX3_put 3 none, Cond.methodLink RX2 64 yX0_isOpen, Cond.instanceMethod yX0_isOpen, Cond.selects RX0 yX0_isOpen yX0_isOpen, Cond.initialized RX0, Cond.code yX0_isOpen cX0_isOpen 2 (some .boolean), Cond.fieldLink RX0 9 "Gridpuzzle$Board" "givens" "[I", Cond.methodLink RX0 46 yX0_hasCell, Cond.instanceMethod yX0_hasCell, Cond.selects RX0 yX0_hasCell yX0_hasCell, Cond.code yX0_hasCell cX0_hasCell 2 (some .boolean), Cond.fieldLink RX0 33 "Gridpuzzle$Board" "size" "I"]
def wsX2_countByAll_r2 : List Cond := [Cond.static yX3_at, Cond.code yX3_at cX3_at 2 (some .int), Cond.methodLink RX2 67 yX0_givenAt, Cond.instanceMethod yX0_givenAt, Cond.selects RX0 yX0_givenAt yX0_givenAt, Cond.code yX0_givenAt cX0_givenAt 2 (some .int), Cond.methodLink RX2 70 yX0_isBlank, Cond.instanceMethod yX0_isBlank, Cond.selects RX0 yX0_isBlank yX0_isBlank, Cond.code yX0_isBlank cX0_isBlank 2 (some .boolean), Cond.methodLink RX2 56 yX2_fillBy, Cond.instanceMethod yX2_fillBy, Cond.selects RX2 yX2_fillBy yX2_fillBy, Cond.code yX2_fillBy cX2_fillBy 4 none, Cond.methodLink RX2 35 yX0_isAnswer, Cond.instanceMethod yX0_isAnswer, Cond.selects RX0 yX0_isAnswer yX0_isAnswer, Cond.code yX0_isAnswer cX0_isAnswer 4 (some .boolean), Cond.fieldLink RX0 68 "Gridpuzzle$Board" "runCount" "I", Cond.methodLink RX0 90 yX0_sumAt, Cond.instanceMethod yX0_sumAt, Cond.selects RX0 yX0_sumAt yX0_sumAt, Cond.code yX0_sumAt cX0_sumAt 2 (some .int), Cond.fieldLink RX0 24 "Gridpuzzle$Board" "sums" "[I"]
def wsX2_countByAll_r3 : List Cond := [Cond.methodLink RX0 82 yX0_hasTwice, Cond.instanceMethod yX0_hasTwice, Cond.selects RX0 yX0_hasTwice yX0_hasTwice, Cond.code yX0_hasTwice cX0_hasTwice 7 (some .boolean), Cond.methodLink RX0 94 yX0_lengthAt, Cond.instanceMethod yX0_lengthAt, Cond.selects RX0 yX0_lengthAt yX0_lengthAt, Cond.code yX0_lengthAt cX0_lengthAt 2 (some .int), Cond.fieldLink RX0 21 "Gridpuzzle$Board" "lengths" "[I", Cond.methodLink RX0 97 yX0_cellAt, Cond.instanceMethod yX0_cellAt, Cond.selects RX0 yX0_cellAt yX0_cellAt, Cond.code yX0_cellAt cX0_cellAt 3 (some .int), Cond.fieldLink RX0 15 "Gridpuzzle$Board" "firsts" "[I", Cond.fieldLink RX0 18 "Gridpuzzle$Board" "steps" "[I", Cond.methodLink RX0 86 yX0_totalOf, Cond.instanceMethod yX0_totalOf, Cond.selects RX0 yX0_totalOf yX0_totalOf, Cond.code yX0_totalOf cX0_totalOf 6 (some .int)]
def wsX2_countByAll : List Cond := .code yX2_countByAll cX2_countByAll 4 (some .int) :: ((wsX2_countByAll_r1 ++ (wsX2_countByAll_r2 ++ wsX2_countByAll_r3)) ++ wsX20 ++ wsX00)
def wsX2_firstUnlike : List Cond := .code yX2_firstUnlike cX2_firstUnlike 2 (some .int) :: ([.fieldLink RX2 21 "Gridpuzzle$Trying" "firstAnswer" "[I", .fieldLink RX2 18 "Gridpuzzle$Trying" "filling" "[I", .static yX3_at, .initialized RX3, .code yX3_at cX3_at 2 (some .int)] ++ wsX20)
def wsX2_firstAnswerAt : List Cond := .code yX2_firstAnswerAt cX2_firstAnswerAt 2 (some .int) :: ([.fieldLink RX2 21 "Gridpuzzle$Trying" "firstAnswer" "[I", .static yX3_at, .initialized RX3, .code yX3_at cX3_at 2 (some .int)] ++ wsX20)
def wsX3_init_r1 : List Cond := [Cond.methodLink RX3 3 objectInit, Cond.instanceMethod objectInit, Cond.code objectInit ⟨#[0xb1]⟩ 1 none, Cond.classLink RX3 9 RX0, Cond.instantiable RX0 9, Cond.initialized RX0, Cond.fieldLink RX3 12 "Gridpuzzle" "board" "LGridpuzzle$Board;", Cond.classLink RX3 16 RX2, Cond.instantiable RX2 6, Cond.initialized RX2, Cond.fieldLink RX3 21 "Gridpuzzle" "trying" "LGridpuzzle$Trying;", Cond.classLink RX3 25 RX1, Cond.instantiable RX1 5, Cond.initialized RX1, Cond.fieldLink RX3 28 "Gridpuzzle" "solving" "LGridpuzzle$Solving;", Cond.instanceMethod yX0_init, Cond.code yX0_init cX0_init 1 none, Cond.methodLink RX0 3 objectInit, Cond.arrayClass .int, Cond.fieldLink RX0 9 "Gridpuzzle$Board" "givens" "[I", Cond.fieldLink RX0 15 "Gridpuzzle$Board" "firsts" "[I", Cond.fieldLink RX0 18 "Gridpuzzle$Board" "steps" "[I", Cond.fieldLink RX0 21 "Gridpuzzle$Board" "lengths" "[I", Cond.fieldLink RX0 24 "Gridpuzzle$Board" "sums" "[I"]
def wsX3_init_r2 : List Cond := [Cond.fieldLink RX0 27 "Gridpuzzle$Board" "rowRuns" "[I", Cond.fieldLink RX0 30 "Gridpuzzle$Board" "columnRuns" "[I", Cond.methodLink RX3 18 yX2_init, Cond.instanceMethod yX2_init, Cond.code yX2_init cX2_init 2 none, Cond.methodLink RX2 3 objectInit, Cond.fieldLink RX2 9 "Gridpuzzle$Trying" "blanks" "[I", Cond.fieldLink RX2 15 "Gridpuzzle$Trying" "tried" "[I", Cond.fieldLink RX2 18 "Gridpuzzle$Trying" "filling" "[I", Cond.fieldLink RX2 21 "Gridpuzzle$Trying" "firstAnswer" "[I", Cond.fieldLink RX2 24 "Gridpuzzle$Trying" "board" "LGridpuzzle$Board;", Cond.methodLink RX3 27 yX1_init, Cond.instanceMethod yX1_init, Cond.code yX1_init cX1_init 2 none, Cond.methodLink RX1 3 objectInit, Cond.fieldLink RX1 9 "Gridpuzzle$Solving" "sets" "[I", Cond.fieldLink RX1 15 "Gridpuzzle$Solving" "setsOfRun" "[I", Cond.fieldLink RX1 18 "Gridpuzzle$Solving" "board" "LGridpuzzle$Board;", Cond.methodLink RX3 32 yX0_clear, Cond.instanceMethod yX0_clear, Cond.selects RX0 yX0_clear yX0_clear, Cond.code yX0_clear cX0_clear 2 none, Cond.fieldLink RX0 33 "Gridpuzzle$Board" "size" "I", Cond.methodLink RX0 37 yJ7_fill_53178]
def wsX3_init_r3 : List Cond := [Cond.static yJ7_fill_53178, Cond.initialized RJ7, Cond.code yJ7_fill_53178 cJ7_fill_53178 4 none, Cond.methodLink RX0 43 yX0_findRuns, Cond.instanceMethod yX0_findRuns, Cond.selects RX0 yX0_findRuns yX0_findRuns, Cond.code yX0_findRuns cX0_findRuns 2 none, Cond.fieldLink RX0 68 "Gridpuzzle$Board" "runCount" "I", Cond.methodLink RX0 71 yX0_findRunsOfLine, Cond.instanceMethod yX0_findRunsOfLine, Cond.selects RX0 yX0_findRunsOfLine yX0_findRunsOfLine, Cond.code yX0_findRunsOfLine cX0_findRunsOfLine 5 none, Cond.methodLink RX0 58 yX0_isOpen, Cond.instanceMethod yX0_isOpen, Cond.selects RX0 yX0_isOpen yX0_isOpen, Cond.code yX0_isOpen cX0_isOpen 2 (some .boolean), Cond.methodLink RX0 46 yX0_hasCell, Cond.instanceMethod yX0_hasCell, Cond.selects RX0 yX0_hasCell yX0_hasCell, Cond.code yX0_hasCell cX0_hasCell 2 (some .boolean), Cond.static yX3_at, Cond.initialized RX3, Cond.code yX3_at cX3_at 2 (some .int), Cond.methodLink RX0 75 yX0_addRun]
def wsX3_init_r4 : List Cond := [Cond.instanceMethod yX0_addRun, Cond.selects RX0 yX0_addRun yX0_addRun, Cond.code yX0_addRun cX0_addRun 5 none, Cond.static yX3_put, Cond.code yX3_put cX3_put 3 none]
def wsX3_init : List Cond := .code yX3_init cX3_init 1 none :: ((wsX3_init_r1 ++ (wsX3_init_r2 ++ (wsX3_init_r3 ++ wsX3_init_r4))) ++ wsX00 ++ wsX30 ++ wsX20 ++ wsX10)
def wsX3_begin_r1 : List Cond := [Cond.classLink RX3 36 "java/lang/IllegalArgumentException", Cond.initialized "java/lang/IllegalArgumentException", Cond.fieldLink RX3 12 "Gridpuzzle" "board" "LGridpuzzle$Board;", Cond.methodLink RX3 32 yX0_clear, Cond.instanceMethod yX0_clear, Cond.selects RX0 yX0_clear yX0_clear, Cond.initialized RX0, Cond.code yX0_clear cX0_clear 2 none, Cond.fieldLink RX0 33 "Gridpuzzle$Board" "size" "I", Cond.fieldLink RX0 9 "Gridpuzzle$Board" "givens" "[I", Cond.methodLink RX0 37 yJ7_fill_53178, Cond.static yJ7_fill_53178, Cond.initialized RJ7, Cond.code yJ7_fill_53178 cJ7_fill_53178 4 none, Cond.methodLink RX0 43 yX0_findRuns, Cond.instanceMethod yX0_findRuns, Cond.selects RX0 yX0_findRuns yX0_findRuns, Cond.code yX0_findRuns cX0_findRuns 2 none, Cond.fieldLink RX0 68 "Gridpuzzle$Board" "runCount" "I", Cond.fieldLink RX0 24 "Gridpuzzle$Board" "sums" "[I", Cond.fieldLink RX0 27 "Gridpuzzle$Board" "rowRuns" "[I", Cond.fieldLink RX0 30 "Gridpuzzle$Board" "columnRuns" "[I", Cond.methodLink RX0 71 yX0_findRunsOfLine, Cond.instanceMethod yX0_findRunsOfLine]
def wsX3_begin_r2 : List Cond := [Cond.selects RX0 yX0_findRunsOfLine yX0_findRunsOfLine, Cond.code yX0_findRunsOfLine cX0_findRunsOfLine 5 none, Cond.methodLink RX0 58 yX0_isOpen, Cond.instanceMethod yX0_isOpen, Cond.selects RX0 yX0_isOpen yX0_isOpen, Cond.code yX0_isOpen cX0_isOpen 2 (some .boolean), Cond.methodLink RX0 46 yX0_hasCell, Cond.instanceMethod yX0_hasCell, Cond.selects RX0 yX0_hasCell yX0_hasCell, Cond.code yX0_hasCell cX0_hasCell 2 (some .boolean), Cond.static yX3_at, Cond.initialized RX3, Cond.code yX3_at cX3_at 2 (some .int), Cond.methodLink RX0 75 yX0_addRun, Cond.instanceMethod yX0_addRun, Cond.selects RX0 yX0_addRun yX0_addRun, Cond.code yX0_addRun cX0_addRun 5 none, Cond.fieldLink RX0 15 "Gridpuzzle$Board" "firsts" "[I", Cond.fieldLink RX0 18 "Gridpuzzle$Board" "steps" "[I", Cond.fieldLink RX0 21 "Gridpuzzle$Board" "lengths" "[I", Cond.static yX3_put, Cond.code yX3_put cX3_put 3 none]
def wsX3_begin : List Cond := .code yX3_begin cX3_begin 2 none :: ((wsX3_begin_r1 ++ wsX3_begin_r2) ++ wsX30 ++ wsX00 ++ (vx_atS RX3 40 "java/lang/IllegalArgumentException" ["java/lang/RuntimeException", "java/lang/Exception"]).filter goodWord)
def wsX3_needCell : List Cond := .code yX3_needCell cX3_needCell 2 none :: ([.classLink RX3 156 "java/lang/IndexOutOfBoundsException", .initialized "java/lang/IndexOutOfBoundsException", .fieldLink RX3 12 "Gridpuzzle" "board" "LGridpuzzle$Board;", .methodLink RX3 153 yX0_hasCell, .instanceMethod yX0_hasCell, .selects RX0 yX0_hasCell yX0_hasCell, .initialized RX0, .code yX0_hasCell cX0_hasCell 2 (some .boolean), .fieldLink RX0 33 "Gridpuzzle$Board" "size" "I"] ++ wsX30 ++ wsX00 ++ (vx_atS RX3 160 "java/lang/IndexOutOfBoundsException" ["java/lang/RuntimeException", "java/lang/Exception"]).filter goodWord)
def wsX3_bar_r1 : List Cond := [Cond.fieldLink RX3 12 "Gridpuzzle" "board" "LGridpuzzle$Board;", Cond.methodLink RX3 43 yX3_needCell, Cond.instanceMethod yX3_needCell, Cond.selects RX3 yX3_needCell yX3_needCell, Cond.initialized RX3, Cond.code yX3_needCell cX3_needCell 2 none, Cond.classLink RX3 156 "java/lang/IndexOutOfBoundsException", Cond.initialized "java/lang/IndexOutOfBoundsException", Cond.methodLink RX3 153 yX0_hasCell, Cond.instanceMethod yX0_hasCell, Cond.selects RX0 yX0_hasCell yX0_hasCell, Cond.initialized RX0, Cond.code yX0_hasCell cX0_hasCell 2 (some .boolean), Cond.fieldLink RX0 33 "Gridpuzzle$Board" "size" "I", Cond.methodLink RX3 46 yX0_turn, Cond.instanceMethod yX0_turn, Cond.selects RX0 yX0_turn yX0_turn, Cond.code yX0_turn cX0_turn 2 none, Cond.fieldLink RX0 9 "Gridpuzzle$Board" "givens" "[I", Cond.methodLink RX0 58 yX0_isOpen, Cond.instanceMethod yX0_isOpen, Cond.selects RX0 yX0_isOpen yX0_isOpen, Cond.code yX0_isOpen cX0_isOpen 2 (some .boolean), Cond.methodLink RX0 46 yX0_hasCell]
def wsX3_bar_r2 : List Cond := [Cond.static yX3_at, Cond.code yX3_at cX3_at 2 (some .int), Cond.static yX3_put, Cond.code yX3_put cX3_put 3 none, Cond.methodLink RX0 43 yX0_findRuns, Cond.instanceMethod yX0_findRuns, Cond.selects RX0 yX0_findRuns yX0_findRuns, Cond.code yX0_findRuns cX0_findRuns 2 none, Cond.fieldLink RX0 68 "Gridpuzzle$Board" "runCount" "I", Cond.fieldLink RX0 24 "Gridpuzzle$Board" "sums" "[I", Cond.fieldLink RX0 27 "Gridpuzzle$Board" "rowRuns" "[I", Cond.fieldLink RX0 30 "Gridpuzzle$Board" "columnRuns" "[I", Cond.methodLink RX0 37 yJ7_fill_53178, Cond.static yJ7_fill_53178, Cond.initialized RJ7, Cond.code yJ7_fill_53178 cJ7_fill_53178 4 none, Cond.methodLink RX0 71 yX0_findRunsOfLine, Cond.instanceMethod yX0_findRunsOfLine, Cond.selects RX0 yX0_findRunsOfLine yX0_findRunsOfLine, Cond.code yX0_findRunsOfLine cX0_findRunsOfLine 5 none, Cond.methodLink RX0 75 yX0_addRun, Cond.instanceMethod yX0_addRun, Cond.selects RX0 yX0_addRun yX0_addRun, Cond.code yX0_addRun cX0_addRun 5 none]
def wsX3_bar_r3 : List Cond := [Cond.fieldLink RX0 15 "Gridpuzzle$Board" "firsts" "[I", Cond.fieldLink RX0 18 "Gridpuzzle$Board" "steps" "[I", Cond.fieldLink RX0 21 "Gridpuzzle$Board" "lengths" "[I", Cond.methodLink RX3 49 yX0_isOpen]
def wsX3_bar : List Cond := .code yX3_bar cX3_bar 2 (some .boolean) :: ((wsX3_bar_r1 ++ (wsX3_bar_r2 ++ wsX3_bar_r3)) ++ wsX30 ++ wsX00 ++ (vx_atS RX3 160 "java/lang/IndexOutOfBoundsException" ["java/lang/RuntimeException", "java/lang/Exception"]).filter goodWord)
def wsX3_barBoth_r1 : List Cond := [Cond.fieldLink RX3 12 "Gridpuzzle" "board" "LGridpuzzle$Board;", Cond.methodLink RX3 43 yX3_needCell, Cond.instanceMethod yX3_needCell, Cond.selects RX3 yX3_needCell yX3_needCell, Cond.initialized RX3, Cond.code yX3_needCell cX3_needCell 2 none, Cond.classLink RX3 156 "java/lang/IndexOutOfBoundsException", Cond.initialized "java/lang/IndexOutOfBoundsException", Cond.methodLink RX3 153 yX0_hasCell, Cond.instanceMethod yX0_hasCell, Cond.selects RX0 yX0_hasCell yX0_hasCell, Cond.initialized RX0, Cond.code yX0_hasCell cX0_hasCell 2 (some .boolean), Cond.fieldLink RX0 33 "Gridpuzzle$Board" "size" "I", Cond.methodLink RX3 53 yX0_oppositeOf, Cond.instanceMethod yX0_oppositeOf, Cond.selects RX0 yX0_oppositeOf yX0_oppositeOf, Cond.code yX0_oppositeOf cX0_oppositeOf 4 (some .int), Cond.methodLink RX3 46 yX0_turn, Cond.instanceMethod yX0_turn, Cond.selects RX0 yX0_turn yX0_turn, Cond.code yX0_turn cX0_turn 2 none, Cond.fieldLink RX0 9 "Gridpuzzle$Board" "givens" "[I", Cond.methodLink RX0 58 yX0_isOpen]
def wsX3_barBoth_r2 : List Cond := [Cond.instanceMethod yX0_isOpen, Cond.selects RX0 yX0_isOpen yX0_isOpen, Cond.code yX0_isOpen cX0_isOpen 2 (some .boolean), Cond.methodLink RX0 46 yX0_hasCell, Cond.static yX3_at, Cond.code yX3_at cX3_at 2 (some .int), Cond.static yX3_put, Cond.code yX3_put cX3_put 3 none, Cond.methodLink RX0 43 yX0_findRuns, Cond.instanceMethod yX0_findRuns, Cond.selects RX0 yX0_findRuns yX0_findRuns, Cond.code yX0_findRuns cX0_findRuns 2 none, Cond.fieldLink RX0 68 "Gridpuzzle$Board" "runCount" "I", Cond.fieldLink RX0 24 "Gridpuzzle$Board" "sums" "[I", Cond.fieldLink RX0 27 "Gridpuzzle$Board" "rowRuns" "[I", Cond.fieldLink RX0 30 "Gridpuzzle$Board" "columnRuns" "[I", Cond.methodLink RX0 37 yJ7_fill_53178, Cond.static yJ7_fill_53178, Cond.initialized RJ7, Cond.code yJ7_fill_53178 cJ7_fill_53178 4 none, Cond.methodLink RX0 71 yX0_findRunsOfLine, Cond.instanceMethod yX0_findRunsOfLine, Cond.selects RX0 yX0_findRunsOfLine yX0_findRunsOfLine, Cond.code yX0_findRunsOfLine cX0_findRunsOfLine 5 none]
def wsX3_barBoth_r3 : List Cond := [Cond.methodLink RX0 75 yX0_addRun, Cond.instanceMethod yX0_addRun, Cond.selects RX0 yX0_addRun yX0_addRun, Cond.code yX0_addRun cX0_addRun 5 none, Cond.fieldLink RX0 15 "Gridpuzzle$Board" "firsts" "[I", Cond.fieldLink RX0 18 "Gridpuzzle$Board" "steps" "[I", Cond.fieldLink RX0 21 "Gridpuzzle$Board" "lengths" "[I", Cond.methodLink RX3 57 yX0_countBarred, Cond.instanceMethod yX0_countBarred, Cond.selects RX0 yX0_countBarred yX0_countBarred, Cond.code yX0_countBarred cX0_countBarred 1 (some .int), Cond.methodLink RX0 61 yX0_countOpen, Cond.instanceMethod yX0_countOpen, Cond.selects RX0 yX0_countOpen yX0_countOpen, Cond.code yX0_countOpen cX0_countOpen 3 (some .int)]
def wsX3_barBoth : List Cond := .code yX3_barBoth cX3_barBoth 3 (some .int) :: ((wsX3_barBoth_r1 ++ (wsX3_barBoth_r2 ++ wsX3_barBoth_r3)) ++ wsX30 ++ wsX00 ++ (vx_atS RX3 160 "java/lang/IndexOutOfBoundsException" ["java/lang/RuntimeException", "java/lang/Exception"]).filter goodWord)
def wsX3_give_r1 : List Cond := [Cond.classLink RX3 36 "java/lang/IllegalArgumentException", Cond.initialized "java/lang/IllegalArgumentException", Cond.classLink RX3 63 "java/lang/IllegalStateException", Cond.initialized "java/lang/IllegalStateException", Cond.fieldLink RX3 12 "Gridpuzzle" "board" "LGridpuzzle$Board;", Cond.methodLink RX3 43 yX3_needCell, Cond.instanceMethod yX3_needCell, Cond.selects RX3 yX3_needCell yX3_needCell, Cond.initialized RX3, Cond.code yX3_needCell cX3_needCell 2 none, Cond.classLink RX3 156 "java/lang/IndexOutOfBoundsException", Cond.initialized "java/lang/IndexOutOfBoundsException", Cond.methodLink RX3 153 yX0_hasCell, Cond.instanceMethod yX0_hasCell, Cond.selects RX0 yX0_hasCell yX0_hasCell, Cond.initialized RX0, Cond.code yX0_hasCell cX0_hasCell 2 (some .boolean), Cond.fieldLink RX0 33 "Gridpuzzle$Board" "size" "I", Cond.methodLink RX3 49 yX0_isOpen, Cond.instanceMethod yX0_isOpen, Cond.selects RX0 yX0_isOpen yX0_isOpen, Cond.code yX0_isOpen cX0_isOpen 2 (some .boolean), Cond.fieldLink RX0 9 "Gridpuzzle$Board" "givens" "[I", Cond.methodLink RX0 46 yX0_hasCell]
def wsX3_give_r2 : List Cond := [Cond.static yX3_at, Cond.code yX3_at cX3_at 2 (some .int), Cond.methodLink RX3 68 yX0_givenAt, Cond.instanceMethod yX0_givenAt, Cond.selects RX0 yX0_givenAt yX0_givenAt, Cond.code yX0_givenAt cX0_givenAt 2 (some .int), Cond.methodLink RX3 71 yX0_putGiven, Cond.instanceMethod yX0_putGiven, Cond.selects RX0 yX0_putGiven yX0_putGiven, Cond.code yX0_putGiven cX0_putGiven 3 none, Cond.static yX3_put, Cond.code yX3_put cX3_put 3 none]
def wsX3_give : List Cond := .code yX3_give cX3_give 4 (some .int) :: ((wsX3_give_r1 ++ wsX3_give_r2) ++ wsX30 ++ wsX00 ++ (vx_atS RX3 40 "java/lang/IllegalArgumentException" ["java/lang/RuntimeException", "java/lang/Exception"]).filter goodWord ++ (vx_atS RX3 67 "java/lang/IllegalStateException" ["java/lang/RuntimeException", "java/lang/Exception"]).filter goodWord ++ (vx_atS RX3 160 "java/lang/IndexOutOfBoundsException" ["java/lang/RuntimeException", "java/lang/Exception"]).filter goodWord)
def wsX3_needRun : List Cond := .code yX3_needRun cX3_needRun 2 none :: ([.classLink RX3 156 "java/lang/IndexOutOfBoundsException", .initialized "java/lang/IndexOutOfBoundsException", .fieldLink RX3 12 "Gridpuzzle" "board" "LGridpuzzle$Board;", .methodLink RX3 161 yX0_hasRun, .instanceMethod yX0_hasRun, .selects RX0 yX0_hasRun yX0_hasRun, .initialized RX0, .code yX0_hasRun cX0_hasRun 2 (some .boolean), .fieldLink RX0 68 "Gridpuzzle$Board" "runCount" "I"] ++ wsX30 ++ wsX00 ++ (vx_atS RX3 160 "java/lang/IndexOutOfBoundsException" ["java/lang/RuntimeException", "java/lang/Exception"]).filter goodWord)
def wsX3_setSum_r1 : List Cond := [Cond.classLink RX3 36 "java/lang/IllegalArgumentException", Cond.initialized "java/lang/IllegalArgumentException", Cond.fieldLink RX3 12 "Gridpuzzle" "board" "LGridpuzzle$Board;", Cond.methodLink RX3 75 yX3_needRun, Cond.instanceMethod yX3_needRun, Cond.selects RX3 yX3_needRun yX3_needRun, Cond.initialized RX3, Cond.code yX3_needRun cX3_needRun 2 none, Cond.classLink RX3 156 "java/lang/IndexOutOfBoundsException", Cond.initialized "java/lang/IndexOutOfBoundsException", Cond.methodLink RX3 161 yX0_hasRun, Cond.instanceMethod yX0_hasRun, Cond.selects RX0 yX0_hasRun yX0_hasRun, Cond.initialized RX0, Cond.code yX0_hasRun cX0_hasRun 2 (some .boolean), Cond.fieldLink RX0 68 "Gridpuzzle$Board" "runCount" "I", Cond.methodLink RX3 80 yX0_sumAt, Cond.instanceMethod yX0_sumAt, Cond.selects RX0 yX0_sumAt yX0_sumAt, Cond.code yX0_sumAt cX0_sumAt 2 (some .int), Cond.fieldLink RX0 24 "Gridpuzzle$Board" "sums" "[I", Cond.static yX3_at, Cond.code yX3_at cX3_at 2 (some .int), Cond.methodLink RX3 83 yX0_putSum]
def wsX3_setSum_r2 : List Cond := [Cond.instanceMethod yX0_putSum, Cond.selects RX0 yX0_putSum yX0_putSum, Cond.code yX0_putSum cX0_putSum 3 none, Cond.static yX3_put, Cond.code yX3_put cX3_put 3 none]
def wsX3_setSum : List Cond := .code yX3_setSum cX3_setSum 4 (some .int) :: ((wsX3_setSum_r1 ++ wsX3_setSum_r2) ++ wsX30 ++ wsX00 ++ (vx_atS RX3 40 "java/lang/IllegalArgumentException" ["java/lang/RuntimeException", "java/lang/Exception"]).filter goodWord ++ (vx_atS RX3 160 "java/lang/IndexOutOfBoundsException" ["java/lang/RuntimeException", "java/lang/Exception"]).filter goodWord)
def wsX3_press_r1 : List Cond := [Cond.classLink RX3 63 "java/lang/IllegalStateException", Cond.initialized "java/lang/IllegalStateException", Cond.fieldLink RX3 12 "Gridpuzzle" "board" "LGridpuzzle$Board;", Cond.methodLink RX3 86 yX0_isFilled, Cond.instanceMethod yX0_isFilled, Cond.selects RX0 yX0_isFilled yX0_isFilled, Cond.initialized RX0, Cond.code yX0_isFilled cX0_isFilled 1 (some .boolean), Cond.methodLink RX0 79 yX0_countBlanks, Cond.instanceMethod yX0_countBlanks, Cond.selects RX0 yX0_countBlanks yX0_countBlanks, Cond.code yX0_countBlanks cX0_countBlanks 3 (some .int), Cond.methodLink RX0 65 yX0_isBlank, Cond.instanceMethod yX0_isBlank, Cond.selects RX0 yX0_isBlank yX0_isBlank, Cond.code yX0_isBlank cX0_isBlank 2 (some .boolean), Cond.fieldLink RX0 9 "Gridpuzzle$Board" "givens" "[I", Cond.methodLink RX0 46 yX0_hasCell, Cond.instanceMethod yX0_hasCell, Cond.selects RX0 yX0_hasCell yX0_hasCell, Cond.code yX0_hasCell cX0_hasCell 2 (some .boolean), Cond.fieldLink RX0 33 "Gridpuzzle$Board" "size" "I", Cond.static yX3_at, Cond.initialized RX3]
def wsX3_press_r2 : List Cond := [Cond.code yX3_at cX3_at 2 (some .int), Cond.methodLink RX3 92 yX0_givesTwice, Cond.instanceMethod yX0_givesTwice, Cond.selects RX0 yX0_givesTwice yX0_givesTwice, Cond.code yX0_givesTwice cX0_givesTwice 2 (some .boolean), Cond.fieldLink RX0 68 "Gridpuzzle$Board" "runCount" "I", Cond.methodLink RX0 82 yX0_hasTwice, Cond.instanceMethod yX0_hasTwice, Cond.selects RX0 yX0_hasTwice yX0_hasTwice, Cond.code yX0_hasTwice cX0_hasTwice 7 (some .boolean), Cond.methodLink RX0 94 yX0_lengthAt, Cond.instanceMethod yX0_lengthAt, Cond.selects RX0 yX0_lengthAt yX0_lengthAt, Cond.code yX0_lengthAt cX0_lengthAt 2 (some .int), Cond.fieldLink RX0 21 "Gridpuzzle$Board" "lengths" "[I", Cond.methodLink RX0 97 yX0_cellAt, Cond.instanceMethod yX0_cellAt, Cond.selects RX0 yX0_cellAt yX0_cellAt, Cond.code yX0_cellAt cX0_cellAt 3 (some .int), Cond.fieldLink RX0 15 "Gridpuzzle$Board" "firsts" "[I", Cond.fieldLink RX0 18 "Gridpuzzle$Board" "steps" "[I", Cond.methodLink RX3 97 yX0_sumAndEmpty, Cond.instanceMethod yX0_sumAndEmpty, Cond.selects RX0 yX0_sumAndEmpty yX0_sumAndEmpty]
def wsX3_press_r3 : List Cond := [Cond.code yX0_sumAndEmpty cX0_sumAndEmpty 2 none, Cond.fieldLink RX0 24 "Gridpuzzle$Board" "sums" "[I", Cond.methodLink RX0 86 yX0_totalOf, Cond.instanceMethod yX0_totalOf, Cond.selects RX0 yX0_totalOf yX0_totalOf, Cond.code yX0_totalOf cX0_totalOf 6 (some .int), Cond.static yX3_put, Cond.code yX3_put cX3_put 3 none, Cond.methodLink RX0 58 yX0_isOpen, Cond.instanceMethod yX0_isOpen, Cond.selects RX0 yX0_isOpen yX0_isOpen, Cond.code yX0_isOpen cX0_isOpen 2 (some .boolean), Cond.methodLink RX3 100 yX0_countRuns, Cond.instanceMethod yX0_countRuns, Cond.selects RX0 yX0_countRuns yX0_countRuns, Cond.code yX0_countRuns cX0_countRuns 1 (some .int)]
def wsX3_press : List Cond := .code yX3_press cX3_press 1 (some .int) :: ((wsX3_press_r1 ++ (wsX3_press_r2 ++ wsX3_press_r3)) ++ wsX30 ++ wsX00 ++ (vx_atS RX3 67 "java/lang/IllegalStateException" ["java/lang/RuntimeException", "java/lang/Exception"]).filter goodWord)
def wsX3_open : List Cond := .code yX3_open cX3_open 1 (some .int) :: ([.fieldLink RX3 12 "Gridpuzzle" "board" "LGridpuzzle$Board;", .methodLink RX3 103 yX0_countOpen, .instanceMethod yX0_countOpen, .selects RX0 yX0_countOpen yX0_countOpen, .initialized RX0, .code yX0_countOpen cX0_countOpen 3 (some .int), .methodLink RX0 58 yX0_isOpen, .instanceMethod yX0_isOpen, .selects RX0 yX0_isOpen yX0_isOpen, .code yX0_isOpen cX0_isOpen 2 (some .boolean), .fieldLink RX0 9 "Gridpuzzle$Board" "givens" "[I", .methodLink RX0 46 yX0_hasCell, .instanceMethod yX0_hasCell, .selects RX0 yX0_hasCell yX0_hasCell, .code yX0_hasCell cX0_hasCell 2 (some .boolean), .fieldLink RX0 33 "Gridpuzzle$Board" "size" "I", .static yX3_at, .initialized RX3, .code yX3_at cX3_at 2 (some .int)] ++ wsX30 ++ wsX00)
def wsX3_runs : List Cond := .code yX3_runs cX3_runs 1 (some .int) :: ([.fieldLink RX3 12 "Gridpuzzle" "board" "LGridpuzzle$Board;", .methodLink RX3 100 yX0_countRuns, .instanceMethod yX0_countRuns, .selects RX0 yX0_countRuns yX0_countRuns, .initialized RX0, .code yX0_countRuns cX0_countRuns 1 (some .int), .fieldLink RX0 68 "Gridpuzzle$Board" "runCount" "I"] ++ wsX30 ++ wsX00)
def wsX3_firstOf : List Cond := .code yX3_firstOf cX3_firstOf 2 (some .int) :: ([.fieldLink RX3 12 "Gridpuzzle" "board" "LGridpuzzle$Board;", .methodLink RX3 75 yX3_needRun, .instanceMethod yX3_needRun, .selects RX3 yX3_needRun yX3_needRun, .initialized RX3, .code yX3_needRun cX3_needRun 2 none, .classLink RX3 156 "java/lang/IndexOutOfBoundsException", .initialized "java/lang/IndexOutOfBoundsException", .methodLink RX3 161 yX0_hasRun, .instanceMethod yX0_hasRun, .selects RX0 yX0_hasRun yX0_hasRun, .initialized RX0, .code yX0_hasRun cX0_hasRun 2 (some .boolean), .fieldLink RX0 68 "Gridpuzzle$Board" "runCount" "I", .methodLink RX3 106 yX0_firstAt, .instanceMethod yX0_firstAt, .selects RX0 yX0_firstAt yX0_firstAt, .code yX0_firstAt cX0_firstAt 2 (some .int), .fieldLink RX0 15 "Gridpuzzle$Board" "firsts" "[I", .static yX3_at, .code yX3_at cX3_at 2 (some .int)] ++ wsX30 ++ wsX00 ++ (vx_atS RX3 160 "java/lang/IndexOutOfBoundsException" ["java/lang/RuntimeException", "java/lang/Exception"]).filter goodWord)
def wsX3_lengthOf : List Cond := .code yX3_lengthOf cX3_lengthOf 2 (some .int) :: ([.fieldLink RX3 12 "Gridpuzzle" "board" "LGridpuzzle$Board;", .methodLink RX3 75 yX3_needRun, .instanceMethod yX3_needRun, .selects RX3 yX3_needRun yX3_needRun, .initialized RX3, .code yX3_needRun cX3_needRun 2 none, .classLink RX3 156 "java/lang/IndexOutOfBoundsException", .initialized "java/lang/IndexOutOfBoundsException", .methodLink RX3 161 yX0_hasRun, .instanceMethod yX0_hasRun, .selects RX0 yX0_hasRun yX0_hasRun, .initialized RX0, .code yX0_hasRun cX0_hasRun 2 (some .boolean), .fieldLink RX0 68 "Gridpuzzle$Board" "runCount" "I", .methodLink RX3 109 yX0_lengthAt, .instanceMethod yX0_lengthAt, .selects RX0 yX0_lengthAt yX0_lengthAt, .code yX0_lengthAt cX0_lengthAt 2 (some .int), .fieldLink RX0 21 "Gridpuzzle$Board" "lengths" "[I", .static yX3_at, .code yX3_at cX3_at 2 (some .int)] ++ wsX30 ++ wsX00 ++ (vx_atS RX3 160 "java/lang/IndexOutOfBoundsException" ["java/lang/RuntimeException", "java/lang/Exception"]).filter goodWord)
def wsX3_sumOf : List Cond := .code yX3_sumOf cX3_sumOf 2 (some .int) :: ([.fieldLink RX3 12 "Gridpuzzle" "board" "LGridpuzzle$Board;", .methodLink RX3 75 yX3_needRun, .instanceMethod yX3_needRun, .selects RX3 yX3_needRun yX3_needRun, .initialized RX3, .code yX3_needRun cX3_needRun 2 none, .classLink RX3 156 "java/lang/IndexOutOfBoundsException", .initialized "java/lang/IndexOutOfBoundsException", .methodLink RX3 161 yX0_hasRun, .instanceMethod yX0_hasRun, .selects RX0 yX0_hasRun yX0_hasRun, .initialized RX0, .code yX0_hasRun cX0_hasRun 2 (some .boolean), .fieldLink RX0 68 "Gridpuzzle$Board" "runCount" "I", .methodLink RX3 80 yX0_sumAt, .instanceMethod yX0_sumAt, .selects RX0 yX0_sumAt yX0_sumAt, .code yX0_sumAt cX0_sumAt 2 (some .int), .fieldLink RX0 24 "Gridpuzzle$Board" "sums" "[I", .static yX3_at, .code yX3_at cX3_at 2 (some .int)] ++ wsX30 ++ wsX00 ++ (vx_atS RX3 160 "java/lang/IndexOutOfBoundsException" ["java/lang/RuntimeException", "java/lang/Exception"]).filter goodWord)
def wsX3_digit : List Cond := .code yX3_digit cX3_digit 2 (some .int) :: ([.fieldLink RX3 12 "Gridpuzzle" "board" "LGridpuzzle$Board;", .methodLink RX3 43 yX3_needCell, .instanceMethod yX3_needCell, .selects RX3 yX3_needCell yX3_needCell, .initialized RX3, .code yX3_needCell cX3_needCell 2 none, .classLink RX3 156 "java/lang/IndexOutOfBoundsException", .initialized "java/lang/IndexOutOfBoundsException", .methodLink RX3 153 yX0_hasCell, .instanceMethod yX0_hasCell, .selects RX0 yX0_hasCell yX0_hasCell, .initialized RX0, .code yX0_hasCell cX0_hasCell 2 (some .boolean), .fieldLink RX0 33 "Gridpuzzle$Board" "size" "I", .methodLink RX3 68 yX0_givenAt, .instanceMethod yX0_givenAt, .selects RX0 yX0_givenAt yX0_givenAt, .code yX0_givenAt cX0_givenAt 2 (some .int), .fieldLink RX0 9 "Gridpuzzle$Board" "givens" "[I", .static yX3_at, .code yX3_at cX3_at 2 (some .int)] ++ wsX30 ++ wsX00 ++ (vx_atS RX3 160 "java/lang/IndexOutOfBoundsException" ["java/lang/RuntimeException", "java/lang/Exception"]).filter goodWord)
def wsX3_answers_r1 : List Cond := [Cond.classLink RX3 36 "java/lang/IllegalArgumentException", Cond.initialized "java/lang/IllegalArgumentException", Cond.fieldLink RX3 21 "Gridpuzzle" "trying" "LGridpuzzle$Trying;", Cond.methodLink RX3 114 yX2_find, Cond.instanceMethod yX2_find, Cond.selects RX2 yX2_find yX2_find, Cond.initialized RX2, Cond.code yX2_find cX2_find 6 (some .int), Cond.fieldLink RX2 31 "Gridpuzzle$Trying" "blankCount" "I", Cond.fieldLink RX2 24 "Gridpuzzle$Trying" "board" "LGridpuzzle$Board;", Cond.fieldLink RX2 18 "Gridpuzzle$Trying" "filling" "[I", Cond.fieldLink RX2 9 "Gridpuzzle$Trying" "blanks" "[I", Cond.methodLink RX2 28 yX2_start, Cond.instanceMethod yX2_start, Cond.selects RX2 yX2_start yX2_start, Cond.code yX2_start cX2_start 2 none, Cond.fieldLink RX2 15 "Gridpuzzle$Trying" "tried" "[I", Cond.static yX3_put, Cond.initialized RX3, Cond.code yX3_put cX3_put 3 none, Cond.methodLink RX2 64 yX0_isOpen, Cond.instanceMethod yX0_isOpen, Cond.selects RX0 yX0_isOpen yX0_isOpen, Cond.initialized RX0]
def wsX3_answers_r2 : List Cond := [Cond.code yX0_isOpen cX0_isOpen 2 (some .boolean), Cond.fieldLink RX0 9 "Gridpuzzle$Board" "givens" "[I", Cond.methodLink RX0 46 yX0_hasCell, Cond.instanceMethod yX0_hasCell, Cond.selects RX0 yX0_hasCell yX0_hasCell, Cond.code yX0_hasCell cX0_hasCell 2 (some .boolean), Cond.fieldLink RX0 33 "Gridpuzzle$Board" "size" "I", Cond.static yX3_at, Cond.code yX3_at cX3_at 2 (some .int), Cond.methodLink RX2 67 yX0_givenAt, Cond.instanceMethod yX0_givenAt, Cond.selects RX0 yX0_givenAt yX0_givenAt, Cond.code yX0_givenAt cX0_givenAt 2 (some .int), Cond.methodLink RX2 70 yX0_isBlank, Cond.instanceMethod yX0_isBlank, Cond.selects RX0 yX0_isBlank yX0_isBlank, Cond.code yX0_isBlank cX0_isBlank 2 (some .boolean), Cond.methodLink RX2 35 yX0_isAnswer, Cond.instanceMethod yX0_isAnswer, Cond.selects RX0 yX0_isAnswer yX0_isAnswer, Cond.code yX0_isAnswer cX0_isAnswer 4 (some .boolean), Cond.fieldLink RX0 68 "Gridpuzzle$Board" "runCount" "I", Cond.methodLink RX0 90 yX0_sumAt, Cond.instanceMethod yX0_sumAt]
def wsX3_answers_r3 : List Cond := [Cond.selects RX0 yX0_sumAt yX0_sumAt, Cond.code yX0_sumAt cX0_sumAt 2 (some .int), Cond.fieldLink RX0 24 "Gridpuzzle$Board" "sums" "[I", Cond.methodLink RX0 82 yX0_hasTwice, Cond.instanceMethod yX0_hasTwice, Cond.selects RX0 yX0_hasTwice yX0_hasTwice, Cond.code yX0_hasTwice cX0_hasTwice 7 (some .boolean), Cond.methodLink RX0 94 yX0_lengthAt, Cond.instanceMethod yX0_lengthAt, Cond.selects RX0 yX0_lengthAt yX0_lengthAt, Cond.code yX0_lengthAt cX0_lengthAt 2 (some .int), Cond.fieldLink RX0 21 "Gridpuzzle$Board" "lengths" "[I", Cond.methodLink RX0 97 yX0_cellAt, Cond.instanceMethod yX0_cellAt, Cond.selects RX0 yX0_cellAt yX0_cellAt, Cond.code yX0_cellAt cX0_cellAt 3 (some .int), Cond.fieldLink RX0 15 "Gridpuzzle$Board" "firsts" "[I", Cond.fieldLink RX0 18 "Gridpuzzle$Board" "steps" "[I", Cond.methodLink RX0 86 yX0_totalOf, Cond.instanceMethod yX0_totalOf, Cond.selects RX0 yX0_totalOf yX0_totalOf, Cond.code yX0_totalOf cX0_totalOf 6 (some .int), Cond.methodLink RX2 45 yX2_tryNext, Cond.instanceMethod yX2_tryNext]
def wsX3_answers_r4 : List Cond := [Cond.selects RX2 yX2_tryNext yX2_tryNext, Cond.code yX2_tryNext cX2_tryNext 3 (some .boolean), Cond.methodLink RX2 73 yX0_rowRunOf, Cond.instanceMethod yX0_rowRunOf, Cond.selects RX0 yX0_rowRunOf yX0_rowRunOf, Cond.code yX0_rowRunOf cX0_rowRunOf 2 (some .int), Cond.fieldLink RX0 27 "Gridpuzzle$Board" "rowRuns" "[I", Cond.methodLink RX2 76 yX2_suits, Cond.instanceMethod yX2_suits, Cond.selects RX2 yX2_suits yX2_suits, Cond.code yX2_suits cX2_suits 8 (some .boolean), Cond.methodLink RX2 83 yX0_lengthAt, Cond.methodLink RX2 86 yX0_cellAt, Cond.methodLink RX2 90 yX0_sumAt, Cond.methodLink RX2 80 yX0_columnRunOf, Cond.instanceMethod yX0_columnRunOf, Cond.selects RX0 yX0_columnRunOf yX0_columnRunOf, Cond.code yX0_columnRunOf cX0_columnRunOf 2 (some .int), Cond.fieldLink RX0 30 "Gridpuzzle$Board" "columnRuns" "[I", Cond.methodLink RX2 49 yX2_keepFirstAnswer, Cond.instanceMethod yX2_keepFirstAnswer, Cond.selects RX2 yX2_keepFirstAnswer yX2_keepFirstAnswer, Cond.code yX2_keepFirstAnswer cX2_keepFirstAnswer 2 none, Cond.fieldLink RX2 21 "Gridpuzzle$Trying" "firstAnswer" "[I"]
def wsX3_answers_r5 : List Cond := [Cond.methodLink RX2 52 yX2_backFrom, Cond.instanceMethod yX2_backFrom, Cond.selects RX2 yX2_backFrom yX2_backFrom, Cond.code yX2_backFrom cX2_backFrom 3 (some .int)]
def wsX3_answers : List Cond := .code yX3_answers cX3_answers 2 (some .int) :: ((wsX3_answers_r1 ++ (wsX3_answers_r2 ++ (wsX3_answers_r3 ++ (wsX3_answers_r4 ++ wsX3_answers_r5)))) ++ wsX30 ++ wsX20 ++ wsX00 ++ (vx_atS RX3 40 "java/lang/IllegalArgumentException" ["java/lang/RuntimeException", "java/lang/Exception"]).filter goodWord)
def wsX3_answersByAll_r1 : List Cond := [Cond.classLink RX3 63 "java/lang/IllegalStateException", Cond.initialized "java/lang/IllegalStateException", Cond.fieldLink RX3 12 "Gridpuzzle" "board" "LGridpuzzle$Board;", Cond.fieldLink RX3 21 "Gridpuzzle" "trying" "LGridpuzzle$Trying;", Cond.methodLink RX3 117 yX0_countBlanks, Cond.instanceMethod yX0_countBlanks, Cond.selects RX0 yX0_countBlanks yX0_countBlanks, Cond.initialized RX0, Cond.code yX0_countBlanks cX0_countBlanks 3 (some .int), Cond.methodLink RX0 65 yX0_isBlank, Cond.instanceMethod yX0_isBlank, Cond.selects RX0 yX0_isBlank yX0_isBlank, Cond.code yX0_isBlank cX0_isBlank 2 (some .boolean), Cond.fieldLink RX0 9 "Gridpuzzle$Board" "givens" "[I", Cond.methodLink RX0 46 yX0_hasCell, Cond.instanceMethod yX0_hasCell, Cond.selects RX0 yX0_hasCell yX0_hasCell, Cond.code yX0_hasCell cX0_hasCell 2 (some .boolean), Cond.fieldLink RX0 33 "Gridpuzzle$Board" "size" "I", Cond.static yX3_at, Cond.initialized RX3, Cond.code yX3_at cX3_at 2 (some .int), Cond.methodLink RX3 122 yX2_countByAll, Cond.instanceMethod yX2_countByAll]
def wsX3_answersByAll_r2 : List Cond := [Cond.selects RX2 yX2_countByAll yX2_countByAll, Cond.initialized RX2, Cond.code yX2_countByAll cX2_countByAll 4 (some .int), Cond.fieldLink RX2 31 "Gridpuzzle$Trying" "blankCount" "I", Cond.fieldLink RX2 24 "Gridpuzzle$Trying" "board" "LGridpuzzle$Board;", Cond.fieldLink RX2 18 "Gridpuzzle$Trying" "filling" "[I", Cond.methodLink RX2 28 yX2_start, Cond.instanceMethod yX2_start, Cond.selects RX2 yX2_start yX2_start, Cond.code yX2_start cX2_start 2 none, Cond.fieldLink RX2 15 "Gridpuzzle$Trying" "tried" "[I", Cond.fieldLink RX2 9 "Gridpuzzle$Trying" "blanks" "[I", Cond.static yX3_put, Cond.code yX3_put cX3_put 3 none, Cond.methodLink RX2 64 yX0_isOpen, Cond.instanceMethod yX0_isOpen, Cond.selects RX0 yX0_isOpen yX0_isOpen, Cond.code yX0_isOpen cX0_isOpen 2 (some .boolean), Cond.methodLink RX2 67 yX0_givenAt, Cond.instanceMethod yX0_givenAt, Cond.selects RX0 yX0_givenAt yX0_givenAt, Cond.code yX0_givenAt cX0_givenAt 2 (some .int), Cond.methodLink RX2 70 yX0_isBlank, Cond.methodLink RX2 56 yX2_fillBy]
def wsX3_answersByAll_r3 : List Cond := [Cond.instanceMethod yX2_fillBy, Cond.selects RX2 yX2_fillBy yX2_fillBy, Cond.code yX2_fillBy cX2_fillBy 4 none, Cond.methodLink RX2 35 yX0_isAnswer, Cond.instanceMethod yX0_isAnswer, Cond.selects RX0 yX0_isAnswer yX0_isAnswer, Cond.code yX0_isAnswer cX0_isAnswer 4 (some .boolean), Cond.fieldLink RX0 68 "Gridpuzzle$Board" "runCount" "I", Cond.methodLink RX0 90 yX0_sumAt, Cond.instanceMethod yX0_sumAt, Cond.selects RX0 yX0_sumAt yX0_sumAt, Cond.code yX0_sumAt cX0_sumAt 2 (some .int), Cond.fieldLink RX0 24 "Gridpuzzle$Board" "sums" "[I", Cond.methodLink RX0 82 yX0_hasTwice, Cond.instanceMethod yX0_hasTwice, Cond.selects RX0 yX0_hasTwice yX0_hasTwice, Cond.code yX0_hasTwice cX0_hasTwice 7 (some .boolean), Cond.methodLink RX0 94 yX0_lengthAt, Cond.instanceMethod yX0_lengthAt, Cond.selects RX0 yX0_lengthAt yX0_lengthAt, Cond.code yX0_lengthAt cX0_lengthAt 2 (some .int), Cond.fieldLink RX0 21 "Gridpuzzle$Board" "lengths" "[I", Cond.methodLink RX0 97 yX0_cellAt, Cond.instanceMethod yX0_cellAt]
def wsX3_answersByAll_r4 : List Cond := [Cond.selects RX0 yX0_cellAt yX0_cellAt, Cond.code yX0_cellAt cX0_cellAt 3 (some .int), Cond.fieldLink RX0 15 "Gridpuzzle$Board" "firsts" "[I", Cond.fieldLink RX0 18 "Gridpuzzle$Board" "steps" "[I", Cond.methodLink RX0 86 yX0_totalOf, Cond.instanceMethod yX0_totalOf, Cond.selects RX0 yX0_totalOf yX0_totalOf, Cond.code yX0_totalOf cX0_totalOf 6 (some .int)]
def wsX3_answersByAll : List Cond := .code yX3_answersByAll cX3_answersByAll 1 (some .int) :: ((wsX3_answersByAll_r1 ++ (wsX3_answersByAll_r2 ++ (wsX3_answersByAll_r3 ++ wsX3_answersByAll_r4))) ++ wsX30 ++ wsX00 ++ wsX20 ++ (vx_atS RX3 67 "java/lang/IllegalStateException" ["java/lang/RuntimeException", "java/lang/Exception"]).filter goodWord)
def wsX3_mend_r1 : List Cond := [Cond.classLink RX3 63 "java/lang/IllegalStateException", Cond.initialized "java/lang/IllegalStateException", Cond.fieldLink RX3 21 "Gridpuzzle" "trying" "LGridpuzzle$Trying;", Cond.fieldLink RX3 12 "Gridpuzzle" "board" "LGridpuzzle$Board;", Cond.methodLink RX3 114 yX2_find, Cond.instanceMethod yX2_find, Cond.selects RX2 yX2_find yX2_find, Cond.initialized RX2, Cond.code yX2_find cX2_find 6 (some .int), Cond.fieldLink RX2 31 "Gridpuzzle$Trying" "blankCount" "I", Cond.fieldLink RX2 24 "Gridpuzzle$Trying" "board" "LGridpuzzle$Board;", Cond.fieldLink RX2 18 "Gridpuzzle$Trying" "filling" "[I", Cond.fieldLink RX2 9 "Gridpuzzle$Trying" "blanks" "[I", Cond.methodLink RX2 28 yX2_start, Cond.instanceMethod yX2_start, Cond.selects RX2 yX2_start yX2_start, Cond.code yX2_start cX2_start 2 none, Cond.fieldLink RX2 15 "Gridpuzzle$Trying" "tried" "[I", Cond.static yX3_put, Cond.initialized RX3, Cond.code yX3_put cX3_put 3 none, Cond.methodLink RX2 64 yX0_isOpen, Cond.instanceMethod yX0_isOpen, Cond.selects RX0 yX0_isOpen yX0_isOpen]
def wsX3_mend_r2 : List Cond := [Cond.initialized RX0, Cond.code yX0_isOpen cX0_isOpen 2 (some .boolean), Cond.fieldLink RX0 9 "Gridpuzzle$Board" "givens" "[I", Cond.methodLink RX0 46 yX0_hasCell, Cond.instanceMethod yX0_hasCell, Cond.selects RX0 yX0_hasCell yX0_hasCell, Cond.code yX0_hasCell cX0_hasCell 2 (some .boolean), Cond.fieldLink RX0 33 "Gridpuzzle$Board" "size" "I", Cond.static yX3_at, Cond.code yX3_at cX3_at 2 (some .int), Cond.methodLink RX2 67 yX0_givenAt, Cond.instanceMethod yX0_givenAt, Cond.selects RX0 yX0_givenAt yX0_givenAt, Cond.code yX0_givenAt cX0_givenAt 2 (some .int), Cond.methodLink RX2 70 yX0_isBlank, Cond.instanceMethod yX0_isBlank, Cond.selects RX0 yX0_isBlank yX0_isBlank, Cond.code yX0_isBlank cX0_isBlank 2 (some .boolean), Cond.methodLink RX2 35 yX0_isAnswer, Cond.instanceMethod yX0_isAnswer, Cond.selects RX0 yX0_isAnswer yX0_isAnswer, Cond.code yX0_isAnswer cX0_isAnswer 4 (some .boolean), Cond.fieldLink RX0 68 "Gridpuzzle$Board" "runCount" "I", Cond.methodLink RX0 90 yX0_sumAt]
def wsX3_mend_r3 : List Cond := [Cond.instanceMethod yX0_sumAt, Cond.selects RX0 yX0_sumAt yX0_sumAt, Cond.code yX0_sumAt cX0_sumAt 2 (some .int), Cond.fieldLink RX0 24 "Gridpuzzle$Board" "sums" "[I", Cond.methodLink RX0 82 yX0_hasTwice, Cond.instanceMethod yX0_hasTwice, Cond.selects RX0 yX0_hasTwice yX0_hasTwice, Cond.code yX0_hasTwice cX0_hasTwice 7 (some .boolean), Cond.methodLink RX0 94 yX0_lengthAt, Cond.instanceMethod yX0_lengthAt, Cond.selects RX0 yX0_lengthAt yX0_lengthAt, Cond.code yX0_lengthAt cX0_lengthAt 2 (some .int), Cond.fieldLink RX0 21 "Gridpuzzle$Board" "lengths" "[I", Cond.methodLink RX0 97 yX0_cellAt, Cond.instanceMethod yX0_cellAt, Cond.selects RX0 yX0_cellAt yX0_cellAt, Cond.code yX0_cellAt cX0_cellAt 3 (some .int), Cond.fieldLink RX0 15 "Gridpuzzle$Board" "firsts" "[I", Cond.fieldLink RX0 18 "Gridpuzzle$Board" "steps" "[I", Cond.methodLink RX0 86 yX0_totalOf, Cond.instanceMethod yX0_totalOf, Cond.selects RX0 yX0_totalOf yX0_totalOf, Cond.code yX0_totalOf cX0_totalOf 6 (some .int), Cond.methodLink RX2 45 yX2_tryNext]
def wsX3_mend_r4 : List Cond := [Cond.instanceMethod yX2_tryNext, Cond.selects RX2 yX2_tryNext yX2_tryNext, Cond.code yX2_tryNext cX2_tryNext 3 (some .boolean), Cond.methodLink RX2 73 yX0_rowRunOf, Cond.instanceMethod yX0_rowRunOf, Cond.selects RX0 yX0_rowRunOf yX0_rowRunOf, Cond.code yX0_rowRunOf cX0_rowRunOf 2 (some .int), Cond.fieldLink RX0 27 "Gridpuzzle$Board" "rowRuns" "[I", Cond.methodLink RX2 76 yX2_suits, Cond.instanceMethod yX2_suits, Cond.selects RX2 yX2_suits yX2_suits, Cond.code yX2_suits cX2_suits 8 (some .boolean), Cond.methodLink RX2 83 yX0_lengthAt, Cond.methodLink RX2 86 yX0_cellAt, Cond.methodLink RX2 90 yX0_sumAt, Cond.methodLink RX2 80 yX0_columnRunOf, Cond.instanceMethod yX0_columnRunOf, Cond.selects RX0 yX0_columnRunOf yX0_columnRunOf, Cond.code yX0_columnRunOf cX0_columnRunOf 2 (some .int), Cond.fieldLink RX0 30 "Gridpuzzle$Board" "columnRuns" "[I", Cond.methodLink RX2 49 yX2_keepFirstAnswer, Cond.instanceMethod yX2_keepFirstAnswer, Cond.selects RX2 yX2_keepFirstAnswer yX2_keepFirstAnswer, Cond.code yX2_keepFirstAnswer cX2_keepFirstAnswer 2 none]
def wsX3_mend_r5 : List Cond := [Cond.fieldLink RX2 21 "Gridpuzzle$Trying" "firstAnswer" "[I", Cond.methodLink RX2 52 yX2_backFrom, Cond.instanceMethod yX2_backFrom, Cond.selects RX2 yX2_backFrom yX2_backFrom, Cond.code yX2_backFrom cX2_backFrom 3 (some .int), Cond.methodLink RX3 127 yX2_firstUnlike, Cond.instanceMethod yX2_firstUnlike, Cond.selects RX2 yX2_firstUnlike yX2_firstUnlike, Cond.code yX2_firstUnlike cX2_firstUnlike 2 (some .int), Cond.methodLink RX3 130 yX2_firstAnswerAt, Cond.instanceMethod yX2_firstAnswerAt, Cond.selects RX2 yX2_firstAnswerAt yX2_firstAnswerAt, Cond.code yX2_firstAnswerAt cX2_firstAnswerAt 2 (some .int), Cond.methodLink RX3 71 yX0_putGiven, Cond.instanceMethod yX0_putGiven, Cond.selects RX0 yX0_putGiven yX0_putGiven, Cond.code yX0_putGiven cX0_putGiven 3 none]
def wsX3_mend : List Cond := .code yX3_mend cX3_mend 3 (some .int) :: ((wsX3_mend_r1 ++ (wsX3_mend_r2 ++ (wsX3_mend_r3 ++ (wsX3_mend_r4 ++ wsX3_mend_r5)))) ++ wsX30 ++ wsX20 ++ wsX00 ++ (vx_atS RX3 67 "java/lang/IllegalStateException" ["java/lang/RuntimeException", "java/lang/Exception"]).filter goodWord)
def wsX3_level_r1 : List Cond := [Cond.fieldLink RX3 28 "Gridpuzzle" "solving" "LGridpuzzle$Solving;", Cond.methodLink RX3 133 yX1_solve, Cond.instanceMethod yX1_solve, Cond.selects RX1 yX1_solve yX1_solve, Cond.initialized RX1, Cond.code yX1_solve cX1_solve 4 none, Cond.fieldLink RX1 29 "Gridpuzzle$Solving" "tookAway" "Z", Cond.fieldLink RX1 33 "Gridpuzzle$Solving" "greatest" "I", Cond.methodLink RX1 37 Lib.Math.max.name, Cond.static Lib.Math.max.name, Cond.initialized "java/lang/Math", Cond.code Lib.Math.max.name Lib.Math.max.code 2 (some .int), Cond.methodLink RX1 22 yX1_start, Cond.instanceMethod yX1_start, Cond.selects RX1 yX1_start yX1_start, Cond.code yX1_start cX1_start 2 none, Cond.fieldLink RX1 9 "Gridpuzzle$Solving" "sets" "[I", Cond.methodLink RX1 70 yX1_firstSetOf, Cond.instanceMethod yX1_firstSetOf, Cond.selects RX1 yX1_firstSetOf yX1_firstSetOf, Cond.code yX1_firstSetOf cX1_firstSetOf 2 (some .int), Cond.fieldLink RX1 18 "Gridpuzzle$Solving" "board" "LGridpuzzle$Board;", Cond.methodLink RX1 58 yX0_isOpen, Cond.instanceMethod yX0_isOpen]
def wsX3_level_r2 : List Cond := [Cond.selects RX0 yX0_isOpen yX0_isOpen, Cond.initialized RX0, Cond.code yX0_isOpen cX0_isOpen 2 (some .boolean), Cond.fieldLink RX0 9 "Gridpuzzle$Board" "givens" "[I", Cond.methodLink RX0 46 yX0_hasCell, Cond.instanceMethod yX0_hasCell, Cond.selects RX0 yX0_hasCell yX0_hasCell, Cond.code yX0_hasCell cX0_hasCell 2 (some .boolean), Cond.fieldLink RX0 33 "Gridpuzzle$Board" "size" "I", Cond.static yX3_at, Cond.initialized RX3, Cond.code yX3_at cX3_at 2 (some .int), Cond.methodLink RX1 67 yX0_isBlank, Cond.instanceMethod yX0_isBlank, Cond.selects RX0 yX0_isBlank yX0_isBlank, Cond.code yX0_isBlank cX0_isBlank 2 (some .boolean), Cond.methodLink RX1 78 yX0_givenAt, Cond.instanceMethod yX0_givenAt, Cond.selects RX0 yX0_givenAt yX0_givenAt, Cond.code yX0_givenAt cX0_givenAt 2 (some .int), Cond.static yX3_put, Cond.code yX3_put cX3_put 3 none, Cond.methodLink RX1 25 yX1_goThrough, Cond.instanceMethod yX1_goThrough]
def wsX3_level_r3 : List Cond := [Cond.selects RX1 yX1_goThrough yX1_goThrough, Cond.code yX1_goThrough cX1_goThrough 4 none, Cond.methodLink RX1 81 yX0_countRuns, Cond.instanceMethod yX0_countRuns, Cond.selects RX0 yX0_countRuns yX0_countRuns, Cond.code yX0_countRuns cX0_countRuns 1 (some .int), Cond.fieldLink RX0 68 "Gridpuzzle$Board" "runCount" "I", Cond.methodLink RX1 84 yX1_takeSingles, Cond.instanceMethod yX1_takeSingles, Cond.selects RX1 yX1_takeSingles yX1_takeSingles, Cond.code yX1_takeSingles cX1_takeSingles 6 none, Cond.methodLink RX1 96 yX0_lengthAt, Cond.instanceMethod yX0_lengthAt, Cond.selects RX0 yX0_lengthAt yX0_lengthAt, Cond.code yX0_lengthAt cX0_lengthAt 2 (some .int), Cond.fieldLink RX0 21 "Gridpuzzle$Board" "lengths" "[I", Cond.methodLink RX1 99 yX0_cellAt, Cond.instanceMethod yX0_cellAt, Cond.selects RX0 yX0_cellAt yX0_cellAt, Cond.code yX0_cellAt cX0_cellAt 3 (some .int), Cond.fieldLink RX0 15 "Gridpuzzle$Board" "firsts" "[I", Cond.fieldLink RX0 18 "Gridpuzzle$Board" "steps" "[I", Cond.methodLink RX1 64 yX1_isSingle, Cond.static yX1_isSingle]
def wsX3_level_r4 : List Cond := [Cond.code yX1_isSingle cX1_isSingle 1 (some .boolean), Cond.methodLink RX1 110 yJ6_bitCount_0f7a4, Cond.static yJ6_bitCount_0f7a4, Cond.initialized RJ6, Cond.code yJ6_bitCount_0f7a4 cJ6_bitCount_0f7a4 1 (some .int), Cond.constant RJ6 265 (1431655765), Cond.constant RJ6 266 (858993459), Cond.constant RJ6 267 (252645135), Cond.methodLink RX1 102 yX1_take, Cond.instanceMethod yX1_take, Cond.selects RX1 yX1_take yX1_take, Cond.code yX1_take cX1_take 4 none, Cond.methodLink RX1 87 yX0_sumAt, Cond.instanceMethod yX0_sumAt, Cond.selects RX0 yX0_sumAt yX0_sumAt, Cond.code yX0_sumAt cX0_sumAt 2 (some .int), Cond.fieldLink RX0 24 "Gridpuzzle$Board" "sums" "[I", Cond.methodLink RX1 90 yX1_takeOutsideSets, Cond.instanceMethod yX1_takeOutsideSets, Cond.selects RX1 yX1_takeOutsideSets yX1_takeOutsideSets, Cond.code yX1_takeOutsideSets cX1_takeOutsideSets 6 none, Cond.methodLink RX1 106 yX1_digitsOfSets, Cond.static yX1_digitsOfSets, Cond.code yX1_digitsOfSets cX1_digitsOfSets 5 (some .int)]
def wsX3_level_r5 : List Cond := [Cond.methodLink RX1 115 yX1_sumOfSet, Cond.static yX1_sumOfSet, Cond.code yX1_sumOfSet cX1_sumOfSet 3 (some .int), Cond.methodLink RX1 93 yX1_takeUnfit, Cond.instanceMethod yX1_takeUnfit, Cond.selects RX1 yX1_takeUnfit yX1_takeUnfit, Cond.code yX1_takeUnfit cX1_takeUnfit 7 none, Cond.fieldLink RX1 15 "Gridpuzzle$Solving" "setsOfRun" "[I", Cond.methodLink RX1 118 yX1_canMake, Cond.static yX1_canMake, Cond.code yX1_canMake cX1_canMake 7 (some .boolean), Cond.methodLink RX1 43 yX1_hasEmptyCell, Cond.instanceMethod yX1_hasEmptyCell, Cond.selects RX1 yX1_hasEmptyCell yX1_hasEmptyCell, Cond.code yX1_hasEmptyCell cX1_hasEmptyCell 2 (some .boolean), Cond.methodLink RX3 136 yX1_isSolved, Cond.instanceMethod yX1_isSolved, Cond.selects RX1 yX1_isSolved yX1_isSolved, Cond.code yX1_isSolved cX1_isSolved 2 (some .boolean), Cond.methodLink RX3 139 yX1_greatestRule, Cond.instanceMethod yX1_greatestRule, Cond.selects RX1 yX1_greatestRule yX1_greatestRule, Cond.code yX1_greatestRule cX1_greatestRule 1 (some .int)]
def wsX3_level : List Cond := .code yX3_level cX3_level 1 (some .int) :: ((wsX3_level_r1 ++ (wsX3_level_r2 ++ (wsX3_level_r3 ++ (wsX3_level_r4 ++ wsX3_level_r5)))) ++ wsX30 ++ wsX10 ++ wsX00)
def wsX3_candidates_r1 : List Cond := [Cond.classLink RX3 36 "java/lang/IllegalArgumentException", Cond.initialized "java/lang/IllegalArgumentException", Cond.fieldLink RX3 28 "Gridpuzzle" "solving" "LGridpuzzle$Solving;", Cond.methodLink RX3 43 yX3_needCell, Cond.instanceMethod yX3_needCell, Cond.selects RX3 yX3_needCell yX3_needCell, Cond.initialized RX3, Cond.code yX3_needCell cX3_needCell 2 none, Cond.classLink RX3 156 "java/lang/IndexOutOfBoundsException", Cond.initialized "java/lang/IndexOutOfBoundsException", Cond.fieldLink RX3 12 "Gridpuzzle" "board" "LGridpuzzle$Board;", Cond.methodLink RX3 153 yX0_hasCell, Cond.instanceMethod yX0_hasCell, Cond.selects RX0 yX0_hasCell yX0_hasCell, Cond.initialized RX0, Cond.code yX0_hasCell cX0_hasCell 2 (some .boolean), Cond.fieldLink RX0 33 "Gridpuzzle$Board" "size" "I", Cond.methodLink RX3 133 yX1_solve, Cond.instanceMethod yX1_solve, Cond.selects RX1 yX1_solve yX1_solve, Cond.initialized RX1, Cond.code yX1_solve cX1_solve 4 none, Cond.fieldLink RX1 29 "Gridpuzzle$Solving" "tookAway" "Z", Cond.fieldLink RX1 33 "Gridpuzzle$Solving" "greatest" "I"]
def wsX3_candidates_r2 : List Cond := [Cond.methodLink RX1 37 Lib.Math.max.name, Cond.static Lib.Math.max.name, Cond.initialized "java/lang/Math", Cond.code Lib.Math.max.name Lib.Math.max.code 2 (some .int), Cond.methodLink RX1 22 yX1_start, Cond.instanceMethod yX1_start, Cond.selects RX1 yX1_start yX1_start, Cond.code yX1_start cX1_start 2 none, Cond.fieldLink RX1 9 "Gridpuzzle$Solving" "sets" "[I", Cond.methodLink RX1 70 yX1_firstSetOf, Cond.instanceMethod yX1_firstSetOf, Cond.selects RX1 yX1_firstSetOf yX1_firstSetOf, Cond.code yX1_firstSetOf cX1_firstSetOf 2 (some .int), Cond.fieldLink RX1 18 "Gridpuzzle$Solving" "board" "LGridpuzzle$Board;", Cond.methodLink RX1 58 yX0_isOpen, Cond.instanceMethod yX0_isOpen, Cond.selects RX0 yX0_isOpen yX0_isOpen, Cond.code yX0_isOpen cX0_isOpen 2 (some .boolean), Cond.fieldLink RX0 9 "Gridpuzzle$Board" "givens" "[I", Cond.methodLink RX0 46 yX0_hasCell, Cond.static yX3_at, Cond.code yX3_at cX3_at 2 (some .int), Cond.methodLink RX1 67 yX0_isBlank, Cond.instanceMethod yX0_isBlank]
def wsX3_candidates_r3 : List Cond := [Cond.selects RX0 yX0_isBlank yX0_isBlank, Cond.code yX0_isBlank cX0_isBlank 2 (some .boolean), Cond.methodLink RX1 78 yX0_givenAt, Cond.instanceMethod yX0_givenAt, Cond.selects RX0 yX0_givenAt yX0_givenAt, Cond.code yX0_givenAt cX0_givenAt 2 (some .int), Cond.static yX3_put, Cond.code yX3_put cX3_put 3 none, Cond.methodLink RX1 25 yX1_goThrough, Cond.instanceMethod yX1_goThrough, Cond.selects RX1 yX1_goThrough yX1_goThrough, Cond.code yX1_goThrough cX1_goThrough 4 none, Cond.methodLink RX1 81 yX0_countRuns, Cond.instanceMethod yX0_countRuns, Cond.selects RX0 yX0_countRuns yX0_countRuns, Cond.code yX0_countRuns cX0_countRuns 1 (some .int), Cond.fieldLink RX0 68 "Gridpuzzle$Board" "runCount" "I", Cond.methodLink RX1 84 yX1_takeSingles, Cond.instanceMethod yX1_takeSingles, Cond.selects RX1 yX1_takeSingles yX1_takeSingles, Cond.code yX1_takeSingles cX1_takeSingles 6 none, Cond.methodLink RX1 96 yX0_lengthAt, Cond.instanceMethod yX0_lengthAt, Cond.selects RX0 yX0_lengthAt yX0_lengthAt]
def wsX3_candidates_r4 : List Cond := [Cond.code yX0_lengthAt cX0_lengthAt 2 (some .int), Cond.fieldLink RX0 21 "Gridpuzzle$Board" "lengths" "[I", Cond.methodLink RX1 99 yX0_cellAt, Cond.instanceMethod yX0_cellAt, Cond.selects RX0 yX0_cellAt yX0_cellAt, Cond.code yX0_cellAt cX0_cellAt 3 (some .int), Cond.fieldLink RX0 15 "Gridpuzzle$Board" "firsts" "[I", Cond.fieldLink RX0 18 "Gridpuzzle$Board" "steps" "[I", Cond.methodLink RX1 64 yX1_isSingle, Cond.static yX1_isSingle, Cond.code yX1_isSingle cX1_isSingle 1 (some .boolean), Cond.methodLink RX1 110 yJ6_bitCount_0f7a4, Cond.static yJ6_bitCount_0f7a4, Cond.initialized RJ6, Cond.code yJ6_bitCount_0f7a4 cJ6_bitCount_0f7a4 1 (some .int), Cond.constant RJ6 265 (1431655765), Cond.constant RJ6 266 (858993459), Cond.constant RJ6 267 (252645135), Cond.methodLink RX1 102 yX1_take, Cond.instanceMethod yX1_take, Cond.selects RX1 yX1_take yX1_take, Cond.code yX1_take cX1_take 4 none, Cond.methodLink RX1 87 yX0_sumAt, Cond.instanceMethod yX0_sumAt]
def wsX3_candidates_r5 : List Cond := [Cond.selects RX0 yX0_sumAt yX0_sumAt, Cond.code yX0_sumAt cX0_sumAt 2 (some .int), Cond.fieldLink RX0 24 "Gridpuzzle$Board" "sums" "[I", Cond.methodLink RX1 90 yX1_takeOutsideSets, Cond.instanceMethod yX1_takeOutsideSets, Cond.selects RX1 yX1_takeOutsideSets yX1_takeOutsideSets, Cond.code yX1_takeOutsideSets cX1_takeOutsideSets 6 none, Cond.methodLink RX1 106 yX1_digitsOfSets, Cond.static yX1_digitsOfSets, Cond.code yX1_digitsOfSets cX1_digitsOfSets 5 (some .int), Cond.methodLink RX1 115 yX1_sumOfSet, Cond.static yX1_sumOfSet, Cond.code yX1_sumOfSet cX1_sumOfSet 3 (some .int), Cond.methodLink RX1 93 yX1_takeUnfit, Cond.instanceMethod yX1_takeUnfit, Cond.selects RX1 yX1_takeUnfit yX1_takeUnfit, Cond.code yX1_takeUnfit cX1_takeUnfit 7 none, Cond.fieldLink RX1 15 "Gridpuzzle$Solving" "setsOfRun" "[I", Cond.methodLink RX1 118 yX1_canMake, Cond.static yX1_canMake, Cond.code yX1_canMake cX1_canMake 7 (some .boolean), Cond.methodLink RX1 43 yX1_hasEmptyCell, Cond.instanceMethod yX1_hasEmptyCell, Cond.selects RX1 yX1_hasEmptyCell yX1_hasEmptyCell]
def wsX3_candidates_r6 : List Cond := [Cond.code yX1_hasEmptyCell cX1_hasEmptyCell 2 (some .boolean), Cond.methodLink RX3 144 yX1_setAt, Cond.instanceMethod yX1_setAt, Cond.selects RX1 yX1_setAt yX1_setAt, Cond.code yX1_setAt cX1_setAt 2 (some .int)]
def wsX3_candidates : List Cond := .code yX3_candidates cX3_candidates 3 (some .int) :: ((wsX3_candidates_r1 ++ (wsX3_candidates_r2 ++ (wsX3_candidates_r3 ++ (wsX3_candidates_r4 ++ (wsX3_candidates_r5 ++ wsX3_candidates_r6))))) ++ wsX30 ++ wsX00 ++ wsX10 ++ (vx_atS RX3 40 "java/lang/IllegalArgumentException" ["java/lang/RuntimeException", "java/lang/Exception"]).filter goodWord ++ (vx_atS RX3 160 "java/lang/IndexOutOfBoundsException" ["java/lang/RuntimeException", "java/lang/Exception"]).filter goodWord)
def wsX3_hint_r1 : List Cond := [Cond.fieldLink RX3 28 "Gridpuzzle" "solving" "LGridpuzzle$Solving;", Cond.methodLink RX3 147 yX1_solveToHint, Cond.instanceMethod yX1_solveToHint, Cond.selects RX1 yX1_solveToHint yX1_solveToHint, Cond.initialized RX1, Cond.code yX1_solveToHint cX1_solveToHint 2 (some .int), Cond.methodLink RX1 47 yX1_solve, Cond.instanceMethod yX1_solve, Cond.selects RX1 yX1_solve yX1_solve, Cond.code yX1_solve cX1_solve 4 none, Cond.fieldLink RX1 29 "Gridpuzzle$Solving" "tookAway" "Z", Cond.fieldLink RX1 33 "Gridpuzzle$Solving" "greatest" "I", Cond.methodLink RX1 37 Lib.Math.max.name, Cond.static Lib.Math.max.name, Cond.initialized "java/lang/Math", Cond.code Lib.Math.max.name Lib.Math.max.code 2 (some .int), Cond.methodLink RX1 22 yX1_start, Cond.instanceMethod yX1_start, Cond.selects RX1 yX1_start yX1_start, Cond.code yX1_start cX1_start 2 none, Cond.fieldLink RX1 9 "Gridpuzzle$Solving" "sets" "[I", Cond.methodLink RX1 70 yX1_firstSetOf, Cond.instanceMethod yX1_firstSetOf, Cond.selects RX1 yX1_firstSetOf yX1_firstSetOf]
def wsX3_hint_r2 : List Cond := [Cond.code yX1_firstSetOf cX1_firstSetOf 2 (some .int), Cond.fieldLink RX1 18 "Gridpuzzle$Solving" "board" "LGridpuzzle$Board;", Cond.methodLink RX1 58 yX0_isOpen, Cond.instanceMethod yX0_isOpen, Cond.selects RX0 yX0_isOpen yX0_isOpen, Cond.initialized RX0, Cond.code yX0_isOpen cX0_isOpen 2 (some .boolean), Cond.fieldLink RX0 9 "Gridpuzzle$Board" "givens" "[I", Cond.methodLink RX0 46 yX0_hasCell, Cond.instanceMethod yX0_hasCell, Cond.selects RX0 yX0_hasCell yX0_hasCell, Cond.code yX0_hasCell cX0_hasCell 2 (some .boolean), Cond.fieldLink RX0 33 "Gridpuzzle$Board" "size" "I", Cond.static yX3_at, Cond.initialized RX3, Cond.code yX3_at cX3_at 2 (some .int), Cond.methodLink RX1 67 yX0_isBlank, Cond.instanceMethod yX0_isBlank, Cond.selects RX0 yX0_isBlank yX0_isBlank, Cond.code yX0_isBlank cX0_isBlank 2 (some .boolean), Cond.methodLink RX1 78 yX0_givenAt, Cond.instanceMethod yX0_givenAt, Cond.selects RX0 yX0_givenAt yX0_givenAt, Cond.code yX0_givenAt cX0_givenAt 2 (some .int)]
def wsX3_hint_r3 : List Cond := [Cond.static yX3_put, Cond.code yX3_put cX3_put 3 none, Cond.methodLink RX1 25 yX1_goThrough, Cond.instanceMethod yX1_goThrough, Cond.selects RX1 yX1_goThrough yX1_goThrough, Cond.code yX1_goThrough cX1_goThrough 4 none, Cond.methodLink RX1 81 yX0_countRuns, Cond.instanceMethod yX0_countRuns, Cond.selects RX0 yX0_countRuns yX0_countRuns, Cond.code yX0_countRuns cX0_countRuns 1 (some .int), Cond.fieldLink RX0 68 "Gridpuzzle$Board" "runCount" "I", Cond.methodLink RX1 84 yX1_takeSingles, Cond.instanceMethod yX1_takeSingles, Cond.selects RX1 yX1_takeSingles yX1_takeSingles, Cond.code yX1_takeSingles cX1_takeSingles 6 none, Cond.methodLink RX1 96 yX0_lengthAt, Cond.instanceMethod yX0_lengthAt, Cond.selects RX0 yX0_lengthAt yX0_lengthAt, Cond.code yX0_lengthAt cX0_lengthAt 2 (some .int), Cond.fieldLink RX0 21 "Gridpuzzle$Board" "lengths" "[I", Cond.methodLink RX1 99 yX0_cellAt, Cond.instanceMethod yX0_cellAt, Cond.selects RX0 yX0_cellAt yX0_cellAt, Cond.code yX0_cellAt cX0_cellAt 3 (some .int)]
def wsX3_hint_r4 : List Cond := [Cond.fieldLink RX0 15 "Gridpuzzle$Board" "firsts" "[I", Cond.fieldLink RX0 18 "Gridpuzzle$Board" "steps" "[I", Cond.methodLink RX1 64 yX1_isSingle, Cond.static yX1_isSingle, Cond.code yX1_isSingle cX1_isSingle 1 (some .boolean), Cond.methodLink RX1 110 yJ6_bitCount_0f7a4, Cond.static yJ6_bitCount_0f7a4, Cond.initialized RJ6, Cond.code yJ6_bitCount_0f7a4 cJ6_bitCount_0f7a4 1 (some .int), Cond.constant RJ6 265 (1431655765), Cond.constant RJ6 266 (858993459), Cond.constant RJ6 267 (252645135), Cond.methodLink RX1 102 yX1_take, Cond.instanceMethod yX1_take, Cond.selects RX1 yX1_take yX1_take, Cond.code yX1_take cX1_take 4 none, Cond.methodLink RX1 87 yX0_sumAt, Cond.instanceMethod yX0_sumAt, Cond.selects RX0 yX0_sumAt yX0_sumAt, Cond.code yX0_sumAt cX0_sumAt 2 (some .int), Cond.fieldLink RX0 24 "Gridpuzzle$Board" "sums" "[I", Cond.methodLink RX1 90 yX1_takeOutsideSets, Cond.instanceMethod yX1_takeOutsideSets, Cond.selects RX1 yX1_takeOutsideSets yX1_takeOutsideSets]
def wsX3_hint_r5 : List Cond := [Cond.code yX1_takeOutsideSets cX1_takeOutsideSets 6 none, Cond.methodLink RX1 106 yX1_digitsOfSets, Cond.static yX1_digitsOfSets, Cond.code yX1_digitsOfSets cX1_digitsOfSets 5 (some .int), Cond.methodLink RX1 115 yX1_sumOfSet, Cond.static yX1_sumOfSet, Cond.code yX1_sumOfSet cX1_sumOfSet 3 (some .int), Cond.methodLink RX1 93 yX1_takeUnfit, Cond.instanceMethod yX1_takeUnfit, Cond.selects RX1 yX1_takeUnfit yX1_takeUnfit, Cond.code yX1_takeUnfit cX1_takeUnfit 7 none, Cond.fieldLink RX1 15 "Gridpuzzle$Solving" "setsOfRun" "[I", Cond.methodLink RX1 118 yX1_canMake, Cond.static yX1_canMake, Cond.code yX1_canMake cX1_canMake 7 (some .boolean), Cond.methodLink RX1 43 yX1_hasEmptyCell, Cond.instanceMethod yX1_hasEmptyCell, Cond.selects RX1 yX1_hasEmptyCell yX1_hasEmptyCell, Cond.code yX1_hasEmptyCell cX1_hasEmptyCell 2 (some .boolean), Cond.methodLink RX1 50 yX1_firstFound, Cond.instanceMethod yX1_firstFound, Cond.selects RX1 yX1_firstFound yX1_firstFound, Cond.code yX1_firstFound cX1_firstFound 2 (some .int), Cond.methodLink RX3 150 yX1_firstFound]
def wsX3_hint : List Cond := .code yX3_hint cX3_hint 1 (some .int) :: ((wsX3_hint_r1 ++ (wsX3_hint_r2 ++ (wsX3_hint_r3 ++ (wsX3_hint_r4 ++ wsX3_hint_r5)))) ++ wsX30 ++ wsX10 ++ wsX00)
def wsX3_hintRules_r1 : List Cond := [Cond.fieldLink RX3 28 "Gridpuzzle" "solving" "LGridpuzzle$Solving;", Cond.methodLink RX3 147 yX1_solveToHint, Cond.instanceMethod yX1_solveToHint, Cond.selects RX1 yX1_solveToHint yX1_solveToHint, Cond.initialized RX1, Cond.code yX1_solveToHint cX1_solveToHint 2 (some .int), Cond.methodLink RX1 47 yX1_solve, Cond.instanceMethod yX1_solve, Cond.selects RX1 yX1_solve yX1_solve, Cond.code yX1_solve cX1_solve 4 none, Cond.fieldLink RX1 29 "Gridpuzzle$Solving" "tookAway" "Z", Cond.fieldLink RX1 33 "Gridpuzzle$Solving" "greatest" "I", Cond.methodLink RX1 37 Lib.Math.max.name, Cond.static Lib.Math.max.name, Cond.initialized "java/lang/Math", Cond.code Lib.Math.max.name Lib.Math.max.code 2 (some .int), Cond.methodLink RX1 22 yX1_start, Cond.instanceMethod yX1_start, Cond.selects RX1 yX1_start yX1_start, Cond.code yX1_start cX1_start 2 none, Cond.fieldLink RX1 9 "Gridpuzzle$Solving" "sets" "[I", Cond.methodLink RX1 70 yX1_firstSetOf, Cond.instanceMethod yX1_firstSetOf, Cond.selects RX1 yX1_firstSetOf yX1_firstSetOf]
def wsX3_hintRules_r2 : List Cond := [Cond.code yX1_firstSetOf cX1_firstSetOf 2 (some .int), Cond.fieldLink RX1 18 "Gridpuzzle$Solving" "board" "LGridpuzzle$Board;", Cond.methodLink RX1 58 yX0_isOpen, Cond.instanceMethod yX0_isOpen, Cond.selects RX0 yX0_isOpen yX0_isOpen, Cond.initialized RX0, Cond.code yX0_isOpen cX0_isOpen 2 (some .boolean), Cond.fieldLink RX0 9 "Gridpuzzle$Board" "givens" "[I", Cond.methodLink RX0 46 yX0_hasCell, Cond.instanceMethod yX0_hasCell, Cond.selects RX0 yX0_hasCell yX0_hasCell, Cond.code yX0_hasCell cX0_hasCell 2 (some .boolean), Cond.fieldLink RX0 33 "Gridpuzzle$Board" "size" "I", Cond.static yX3_at, Cond.initialized RX3, Cond.code yX3_at cX3_at 2 (some .int), Cond.methodLink RX1 67 yX0_isBlank, Cond.instanceMethod yX0_isBlank, Cond.selects RX0 yX0_isBlank yX0_isBlank, Cond.code yX0_isBlank cX0_isBlank 2 (some .boolean), Cond.methodLink RX1 78 yX0_givenAt, Cond.instanceMethod yX0_givenAt, Cond.selects RX0 yX0_givenAt yX0_givenAt, Cond.code yX0_givenAt cX0_givenAt 2 (some .int)]
def wsX3_hintRules_r3 : List Cond := [Cond.static yX3_put, Cond.code yX3_put cX3_put 3 none, Cond.methodLink RX1 25 yX1_goThrough, Cond.instanceMethod yX1_goThrough, Cond.selects RX1 yX1_goThrough yX1_goThrough, Cond.code yX1_goThrough cX1_goThrough 4 none, Cond.methodLink RX1 81 yX0_countRuns, Cond.instanceMethod yX0_countRuns, Cond.selects RX0 yX0_countRuns yX0_countRuns, Cond.code yX0_countRuns cX0_countRuns 1 (some .int), Cond.fieldLink RX0 68 "Gridpuzzle$Board" "runCount" "I", Cond.methodLink RX1 84 yX1_takeSingles, Cond.instanceMethod yX1_takeSingles, Cond.selects RX1 yX1_takeSingles yX1_takeSingles, Cond.code yX1_takeSingles cX1_takeSingles 6 none, Cond.methodLink RX1 96 yX0_lengthAt, Cond.instanceMethod yX0_lengthAt, Cond.selects RX0 yX0_lengthAt yX0_lengthAt, Cond.code yX0_lengthAt cX0_lengthAt 2 (some .int), Cond.fieldLink RX0 21 "Gridpuzzle$Board" "lengths" "[I", Cond.methodLink RX1 99 yX0_cellAt, Cond.instanceMethod yX0_cellAt, Cond.selects RX0 yX0_cellAt yX0_cellAt, Cond.code yX0_cellAt cX0_cellAt 3 (some .int)]
def wsX3_hintRules_r4 : List Cond := [Cond.fieldLink RX0 15 "Gridpuzzle$Board" "firsts" "[I", Cond.fieldLink RX0 18 "Gridpuzzle$Board" "steps" "[I", Cond.methodLink RX1 64 yX1_isSingle, Cond.static yX1_isSingle, Cond.code yX1_isSingle cX1_isSingle 1 (some .boolean), Cond.methodLink RX1 110 yJ6_bitCount_0f7a4, Cond.static yJ6_bitCount_0f7a4, Cond.initialized RJ6, Cond.code yJ6_bitCount_0f7a4 cJ6_bitCount_0f7a4 1 (some .int), Cond.constant RJ6 265 (1431655765), Cond.constant RJ6 266 (858993459), Cond.constant RJ6 267 (252645135), Cond.methodLink RX1 102 yX1_take, Cond.instanceMethod yX1_take, Cond.selects RX1 yX1_take yX1_take, Cond.code yX1_take cX1_take 4 none, Cond.methodLink RX1 87 yX0_sumAt, Cond.instanceMethod yX0_sumAt, Cond.selects RX0 yX0_sumAt yX0_sumAt, Cond.code yX0_sumAt cX0_sumAt 2 (some .int), Cond.fieldLink RX0 24 "Gridpuzzle$Board" "sums" "[I", Cond.methodLink RX1 90 yX1_takeOutsideSets, Cond.instanceMethod yX1_takeOutsideSets, Cond.selects RX1 yX1_takeOutsideSets yX1_takeOutsideSets]
def wsX3_hintRules_r5 : List Cond := [Cond.code yX1_takeOutsideSets cX1_takeOutsideSets 6 none, Cond.methodLink RX1 106 yX1_digitsOfSets, Cond.static yX1_digitsOfSets, Cond.code yX1_digitsOfSets cX1_digitsOfSets 5 (some .int), Cond.methodLink RX1 115 yX1_sumOfSet, Cond.static yX1_sumOfSet, Cond.code yX1_sumOfSet cX1_sumOfSet 3 (some .int), Cond.methodLink RX1 93 yX1_takeUnfit, Cond.instanceMethod yX1_takeUnfit, Cond.selects RX1 yX1_takeUnfit yX1_takeUnfit, Cond.code yX1_takeUnfit cX1_takeUnfit 7 none, Cond.fieldLink RX1 15 "Gridpuzzle$Solving" "setsOfRun" "[I", Cond.methodLink RX1 118 yX1_canMake, Cond.static yX1_canMake, Cond.code yX1_canMake cX1_canMake 7 (some .boolean), Cond.methodLink RX1 43 yX1_hasEmptyCell, Cond.instanceMethod yX1_hasEmptyCell, Cond.selects RX1 yX1_hasEmptyCell yX1_hasEmptyCell, Cond.code yX1_hasEmptyCell cX1_hasEmptyCell 2 (some .boolean), Cond.methodLink RX1 50 yX1_firstFound, Cond.instanceMethod yX1_firstFound, Cond.selects RX1 yX1_firstFound yX1_firstFound, Cond.code yX1_firstFound cX1_firstFound 2 (some .int)]
def wsX3_hintRules : List Cond := .code yX3_hintRules cX3_hintRules 1 (some .int) :: ((wsX3_hintRules_r1 ++ (wsX3_hintRules_r2 ++ (wsX3_hintRules_r3 ++ (wsX3_hintRules_r4 ++ wsX3_hintRules_r5)))) ++ wsX30 ++ wsX10 ++ wsX00)
def wsX4_layRuns : List Cond := .code yX4_layRuns cX4_layRuns 7 none :: ([.fieldLink RX4 59 "GridpuzzleModel" "runs" "I", .fieldLink RX4 7 "GridpuzzleModel" "size" "I", .fieldLink RX4 13 "GridpuzzleModel" "isBarred" "[Z", .fieldLink RX4 21 "GridpuzzleModel" "firsts" "[I", .fieldLink RX4 24 "GridpuzzleModel" "lengths" "[I", .fieldLink RX4 27 "GridpuzzleModel" "steps" "[I", .fieldLink RX4 30 "GridpuzzleModel" "sums" "[I"] ++ wsX40)
def wsX4_init : List Cond := .code yX4_init cX4_init 1 none :: ([.methodLink RX4 1 objectInit, .instanceMethod objectInit, .code objectInit ⟨#[0xb1]⟩ 1 none, .fieldLink RX4 7 "GridpuzzleModel" "size" "I", .arrayClass .boolean, .fieldLink RX4 13 "GridpuzzleModel" "isBarred" "[Z", .arrayClass .int, .fieldLink RX4 17 "GridpuzzleModel" "given" "[I", .fieldLink RX4 21 "GridpuzzleModel" "firsts" "[I", .fieldLink RX4 24 "GridpuzzleModel" "lengths" "[I", .fieldLink RX4 27 "GridpuzzleModel" "steps" "[I", .fieldLink RX4 30 "GridpuzzleModel" "sums" "[I", .fieldLink RX4 33 "GridpuzzleModel" "tried" "[I", .fieldLink RX4 36 "GridpuzzleModel" "digits" "[I", .fieldLink RX4 39 "GridpuzzleModel" "firstAnswer" "[I", .fieldLink RX4 42 "GridpuzzleModel" "candidates" "[I", .methodLink RX4 45 yX4_layRuns, .instanceMethod yX4_layRuns, .selects RX4 yX4_layRuns yX4_layRuns, .initialized RX4, .code yX4_layRuns cX4_layRuns 7 none, .fieldLink RX4 59 "GridpuzzleModel" "runs" "I"] ++ wsX40)
def wsX4_thrown : List Cond := .code yX4_thrown cX4_thrown 1 (some .int) :: ([.fieldLink RX4 48 "GridpuzzleModel" "thrown" "I"] ++ wsX40)
def wsX4_goesWell : List Cond := .code yX4_goesWell cX4_goesWell 2 (some .boolean) :: ([.fieldLink RX4 48 "GridpuzzleModel" "thrown" "I"] ++ wsX40)
def wsX4_in : List Cond := .code yX4_in cX4_in 3 (some .boolean) :: ([])
def wsX4_isCell : List Cond := .code yX4_isCell cX4_isCell 2 (some .boolean) :: ([.fieldLink RX4 7 "GridpuzzleModel" "size" "I", .methodLink RX4 51 yX4_in, .static yX4_in, .initialized RX4, .code yX4_in cX4_in 3 (some .boolean)] ++ wsX40)
def wsX4_isOpen : List Cond := .code yX4_isOpen cX4_isOpen 2 (some .boolean) :: ([.fieldLink RX4 13 "GridpuzzleModel" "isBarred" "[Z", .methodLink RX4 55 yX4_isCell, .instanceMethod yX4_isCell, .selects RX4 yX4_isCell yX4_isCell, .initialized RX4, .code yX4_isCell cX4_isCell 2 (some .boolean), .fieldLink RX4 7 "GridpuzzleModel" "size" "I", .methodLink RX4 51 yX4_in, .static yX4_in, .code yX4_in cX4_in 3 (some .boolean)] ++ wsX40)
def wsX4_isRun : List Cond := .code yX4_isRun cX4_isRun 2 (some .boolean) :: ([.fieldLink RX4 59 "GridpuzzleModel" "runs" "I", .methodLink RX4 51 yX4_in, .static yX4_in, .initialized RX4, .code yX4_in cX4_in 3 (some .boolean)] ++ wsX40)
def wsX4_begin : List Cond := .code yX4_begin cX4_begin 3 none :: ([.fieldLink RX4 7 "GridpuzzleModel" "size" "I", .fieldLink RX4 13 "GridpuzzleModel" "isBarred" "[Z", .fieldLink RX4 17 "GridpuzzleModel" "given" "[I", .methodLink RX4 51 yX4_in, .static yX4_in, .initialized RX4, .code yX4_in cX4_in 3 (some .boolean), .methodLink RX4 62 yX4_goesWell, .instanceMethod yX4_goesWell, .selects RX4 yX4_goesWell yX4_goesWell, .code yX4_goesWell cX4_goesWell 2 (some .boolean), .fieldLink RX4 48 "GridpuzzleModel" "thrown" "I", .methodLink RX4 45 yX4_layRuns, .instanceMethod yX4_layRuns, .selects RX4 yX4_layRuns yX4_layRuns, .code yX4_layRuns cX4_layRuns 7 none, .fieldLink RX4 59 "GridpuzzleModel" "runs" "I", .fieldLink RX4 21 "GridpuzzleModel" "firsts" "[I", .fieldLink RX4 24 "GridpuzzleModel" "lengths" "[I", .fieldLink RX4 27 "GridpuzzleModel" "steps" "[I", .fieldLink RX4 30 "GridpuzzleModel" "sums" "[I"] ++ wsX40)
def wsX4_turn : List Cond := .code yX4_turn cX4_turn 2 none :: ([.fieldLink RX4 13 "GridpuzzleModel" "isBarred" "[Z", .fieldLink RX4 17 "GridpuzzleModel" "given" "[I"] ++ wsX40)
def wsX4_bar_r1 : List Cond := [Cond.fieldLink RX4 13 "GridpuzzleModel" "isBarred" "[Z", Cond.methodLink RX4 55 yX4_isCell, Cond.instanceMethod yX4_isCell, Cond.selects RX4 yX4_isCell yX4_isCell, Cond.initialized RX4, Cond.code yX4_isCell cX4_isCell 2 (some .boolean), Cond.fieldLink RX4 7 "GridpuzzleModel" "size" "I", Cond.methodLink RX4 51 yX4_in, Cond.static yX4_in, Cond.code yX4_in cX4_in 3 (some .boolean), Cond.methodLink RX4 62 yX4_goesWell, Cond.instanceMethod yX4_goesWell, Cond.selects RX4 yX4_goesWell yX4_goesWell, Cond.code yX4_goesWell cX4_goesWell 2 (some .boolean), Cond.fieldLink RX4 48 "GridpuzzleModel" "thrown" "I", Cond.methodLink RX4 65 yX4_turn, Cond.instanceMethod yX4_turn, Cond.selects RX4 yX4_turn yX4_turn, Cond.code yX4_turn cX4_turn 2 none, Cond.fieldLink RX4 17 "GridpuzzleModel" "given" "[I", Cond.methodLink RX4 45 yX4_layRuns, Cond.instanceMethod yX4_layRuns, Cond.selects RX4 yX4_layRuns yX4_layRuns, Cond.code yX4_layRuns cX4_layRuns 7 none]
def wsX4_bar_r2 : List Cond := [Cond.fieldLink RX4 59 "GridpuzzleModel" "runs" "I", Cond.fieldLink RX4 21 "GridpuzzleModel" "firsts" "[I", Cond.fieldLink RX4 24 "GridpuzzleModel" "lengths" "[I", Cond.fieldLink RX4 27 "GridpuzzleModel" "steps" "[I", Cond.fieldLink RX4 30 "GridpuzzleModel" "sums" "[I"]
def wsX4_bar : List Cond := .code yX4_bar cX4_bar 2 (some .boolean) :: ((wsX4_bar_r1 ++ wsX4_bar_r2) ++ wsX40)
def wsX4_countOpen : List Cond := .code yX4_countOpen cX4_countOpen 3 (some .int) :: ([.methodLink RX4 69 yX4_isOpen, .instanceMethod yX4_isOpen, .selects RX4 yX4_isOpen yX4_isOpen, .initialized RX4, .code yX4_isOpen cX4_isOpen 2 (some .boolean), .fieldLink RX4 13 "GridpuzzleModel" "isBarred" "[Z", .methodLink RX4 55 yX4_isCell, .instanceMethod yX4_isCell, .selects RX4 yX4_isCell yX4_isCell, .code yX4_isCell cX4_isCell 2 (some .boolean), .fieldLink RX4 7 "GridpuzzleModel" "size" "I", .methodLink RX4 51 yX4_in, .static yX4_in, .code yX4_in cX4_in 3 (some .boolean)] ++ wsX40)
def wsX4_barBoth_r1 : List Cond := [Cond.fieldLink RX4 7 "GridpuzzleModel" "size" "I", Cond.methodLink RX4 55 yX4_isCell, Cond.instanceMethod yX4_isCell, Cond.selects RX4 yX4_isCell yX4_isCell, Cond.initialized RX4, Cond.code yX4_isCell cX4_isCell 2 (some .boolean), Cond.methodLink RX4 51 yX4_in, Cond.static yX4_in, Cond.code yX4_in cX4_in 3 (some .boolean), Cond.methodLink RX4 62 yX4_goesWell, Cond.instanceMethod yX4_goesWell, Cond.selects RX4 yX4_goesWell yX4_goesWell, Cond.code yX4_goesWell cX4_goesWell 2 (some .boolean), Cond.fieldLink RX4 48 "GridpuzzleModel" "thrown" "I", Cond.methodLink RX4 65 yX4_turn, Cond.instanceMethod yX4_turn, Cond.selects RX4 yX4_turn yX4_turn, Cond.code yX4_turn cX4_turn 2 none, Cond.fieldLink RX4 13 "GridpuzzleModel" "isBarred" "[Z", Cond.fieldLink RX4 17 "GridpuzzleModel" "given" "[I", Cond.methodLink RX4 45 yX4_layRuns, Cond.instanceMethod yX4_layRuns, Cond.selects RX4 yX4_layRuns yX4_layRuns, Cond.code yX4_layRuns cX4_layRuns 7 none]
def wsX4_barBoth_r2 : List Cond := [Cond.fieldLink RX4 59 "GridpuzzleModel" "runs" "I", Cond.fieldLink RX4 21 "GridpuzzleModel" "firsts" "[I", Cond.fieldLink RX4 24 "GridpuzzleModel" "lengths" "[I", Cond.fieldLink RX4 27 "GridpuzzleModel" "steps" "[I", Cond.fieldLink RX4 30 "GridpuzzleModel" "sums" "[I", Cond.methodLink RX4 72 yX4_countOpen, Cond.instanceMethod yX4_countOpen, Cond.selects RX4 yX4_countOpen yX4_countOpen, Cond.code yX4_countOpen cX4_countOpen 3 (some .int), Cond.methodLink RX4 69 yX4_isOpen, Cond.instanceMethod yX4_isOpen, Cond.selects RX4 yX4_isOpen yX4_isOpen, Cond.code yX4_isOpen cX4_isOpen 2 (some .boolean)]
def wsX4_barBoth : List Cond := .code yX4_barBoth cX4_barBoth 3 (some .int) :: ((wsX4_barBoth_r1 ++ wsX4_barBoth_r2) ++ wsX40)
def wsX4_give : List Cond := .code yX4_give cX4_give 5 (some .int) :: ([.fieldLink RX4 13 "GridpuzzleModel" "isBarred" "[Z", .fieldLink RX4 17 "GridpuzzleModel" "given" "[I", .methodLink RX4 55 yX4_isCell, .instanceMethod yX4_isCell, .selects RX4 yX4_isCell yX4_isCell, .initialized RX4, .code yX4_isCell cX4_isCell 2 (some .boolean), .fieldLink RX4 7 "GridpuzzleModel" "size" "I", .methodLink RX4 51 yX4_in, .static yX4_in, .code yX4_in cX4_in 3 (some .boolean), .methodLink RX4 62 yX4_goesWell, .instanceMethod yX4_goesWell, .selects RX4 yX4_goesWell yX4_goesWell, .code yX4_goesWell cX4_goesWell 2 (some .boolean), .fieldLink RX4 48 "GridpuzzleModel" "thrown" "I"] ++ wsX40)
def wsX4_setSum : List Cond := .code yX4_setSum cX4_setSum 4 (some .int) :: ([.fieldLink RX4 30 "GridpuzzleModel" "sums" "[I", .methodLink RX4 76 yX4_isRun, .instanceMethod yX4_isRun, .selects RX4 yX4_isRun yX4_isRun, .initialized RX4, .code yX4_isRun cX4_isRun 2 (some .boolean), .fieldLink RX4 59 "GridpuzzleModel" "runs" "I", .methodLink RX4 51 yX4_in, .static yX4_in, .code yX4_in cX4_in 3 (some .boolean), .methodLink RX4 62 yX4_goesWell, .instanceMethod yX4_goesWell, .selects RX4 yX4_goesWell yX4_goesWell, .code yX4_goesWell cX4_goesWell 2 (some .boolean), .fieldLink RX4 48 "GridpuzzleModel" "thrown" "I"] ++ wsX40)
def wsX4_cellOf : List Cond := .code yX4_cellOf cX4_cellOf 3 (some .int) :: ([.fieldLink RX4 21 "GridpuzzleModel" "firsts" "[I", .fieldLink RX4 27 "GridpuzzleModel" "steps" "[I"] ++ wsX40)
def wsX4_has : List Cond := .code yX4_has cX4_has 4 (some .boolean) :: ([.fieldLink RX4 21 "GridpuzzleModel" "firsts" "[I", .fieldLink RX4 27 "GridpuzzleModel" "steps" "[I", .fieldLink RX4 24 "GridpuzzleModel" "lengths" "[I"] ++ wsX40)
def wsX4_copyGiven : List Cond := .code yX4_copyGiven cX4_copyGiven 2 none :: ([.fieldLink RX4 36 "GridpuzzleModel" "digits" "[I", .fieldLink RX4 17 "GridpuzzleModel" "given" "[I"] ++ wsX40)
def wsX4_isUnlike : List Cond := .code yX4_isUnlike cX4_isUnlike 6 (some .boolean) :: ([.fieldLink RX4 24 "GridpuzzleModel" "lengths" "[I", .fieldLink RX4 36 "GridpuzzleModel" "digits" "[I", .methodLink RX4 79 yX4_cellOf, .instanceMethod yX4_cellOf, .selects RX4 yX4_cellOf yX4_cellOf, .initialized RX4, .code yX4_cellOf cX4_cellOf 3 (some .int), .fieldLink RX4 21 "GridpuzzleModel" "firsts" "[I", .fieldLink RX4 27 "GridpuzzleModel" "steps" "[I"] ++ wsX40)
def wsX4_sumUp : List Cond := .code yX4_sumUp cX4_sumUp 4 (some .int) :: ([.fieldLink RX4 24 "GridpuzzleModel" "lengths" "[I", .fieldLink RX4 36 "GridpuzzleModel" "digits" "[I", .methodLink RX4 79 yX4_cellOf, .instanceMethod yX4_cellOf, .selects RX4 yX4_cellOf yX4_cellOf, .initialized RX4, .code yX4_cellOf cX4_cellOf 3 (some .int), .fieldLink RX4 21 "GridpuzzleModel" "firsts" "[I", .fieldLink RX4 27 "GridpuzzleModel" "steps" "[I"] ++ wsX40)
def wsX4_isAnswer : List Cond := .code yX4_isAnswer cX4_isAnswer 3 (some .boolean) :: ([.fieldLink RX4 59 "GridpuzzleModel" "runs" "I", .fieldLink RX4 30 "GridpuzzleModel" "sums" "[I", .methodLink RX4 83 yX4_isUnlike, .instanceMethod yX4_isUnlike, .selects RX4 yX4_isUnlike yX4_isUnlike, .initialized RX4, .code yX4_isUnlike cX4_isUnlike 6 (some .boolean), .fieldLink RX4 24 "GridpuzzleModel" "lengths" "[I", .fieldLink RX4 36 "GridpuzzleModel" "digits" "[I", .methodLink RX4 79 yX4_cellOf, .instanceMethod yX4_cellOf, .selects RX4 yX4_cellOf yX4_cellOf, .code yX4_cellOf cX4_cellOf 3 (some .int), .fieldLink RX4 21 "GridpuzzleModel" "firsts" "[I", .fieldLink RX4 27 "GridpuzzleModel" "steps" "[I", .methodLink RX4 86 yX4_sumUp, .instanceMethod yX4_sumUp, .selects RX4 yX4_sumUp yX4_sumUp, .code yX4_sumUp cX4_sumUp 4 (some .int)] ++ wsX40)
def wsX4_press_r1 : List Cond := [Cond.fieldLink RX4 17 "GridpuzzleModel" "given" "[I", Cond.fieldLink RX4 59 "GridpuzzleModel" "runs" "I", Cond.fieldLink RX4 30 "GridpuzzleModel" "sums" "[I", Cond.methodLink RX4 90 yX4_copyGiven, Cond.instanceMethod yX4_copyGiven, Cond.selects RX4 yX4_copyGiven yX4_copyGiven, Cond.initialized RX4, Cond.code yX4_copyGiven cX4_copyGiven 2 none, Cond.fieldLink RX4 36 "GridpuzzleModel" "digits" "[I", Cond.methodLink RX4 69 yX4_isOpen, Cond.instanceMethod yX4_isOpen, Cond.selects RX4 yX4_isOpen yX4_isOpen, Cond.code yX4_isOpen cX4_isOpen 2 (some .boolean), Cond.fieldLink RX4 13 "GridpuzzleModel" "isBarred" "[Z", Cond.methodLink RX4 55 yX4_isCell, Cond.instanceMethod yX4_isCell, Cond.selects RX4 yX4_isCell yX4_isCell, Cond.code yX4_isCell cX4_isCell 2 (some .boolean), Cond.fieldLink RX4 7 "GridpuzzleModel" "size" "I", Cond.methodLink RX4 51 yX4_in, Cond.static yX4_in, Cond.code yX4_in cX4_in 3 (some .boolean), Cond.methodLink RX4 83 yX4_isUnlike, Cond.instanceMethod yX4_isUnlike]
def wsX4_press_r2 : List Cond := [Cond.selects RX4 yX4_isUnlike yX4_isUnlike, Cond.code yX4_isUnlike cX4_isUnlike 6 (some .boolean), Cond.fieldLink RX4 24 "GridpuzzleModel" "lengths" "[I", Cond.methodLink RX4 79 yX4_cellOf, Cond.instanceMethod yX4_cellOf, Cond.selects RX4 yX4_cellOf yX4_cellOf, Cond.code yX4_cellOf cX4_cellOf 3 (some .int), Cond.fieldLink RX4 21 "GridpuzzleModel" "firsts" "[I", Cond.fieldLink RX4 27 "GridpuzzleModel" "steps" "[I", Cond.methodLink RX4 62 yX4_goesWell, Cond.instanceMethod yX4_goesWell, Cond.selects RX4 yX4_goesWell yX4_goesWell, Cond.code yX4_goesWell cX4_goesWell 2 (some .boolean), Cond.fieldLink RX4 48 "GridpuzzleModel" "thrown" "I", Cond.methodLink RX4 86 yX4_sumUp, Cond.instanceMethod yX4_sumUp, Cond.selects RX4 yX4_sumUp yX4_sumUp, Cond.code yX4_sumUp cX4_sumUp 4 (some .int)]
def wsX4_press : List Cond := .code yX4_press cX4_press 3 (some .int) :: ((wsX4_press_r1 ++ wsX4_press_r2) ++ wsX40)
def wsX4_open : List Cond := .code yX4_open cX4_open 1 (some .int) :: ([.fieldLink RX4 48 "GridpuzzleModel" "thrown" "I", .methodLink RX4 72 yX4_countOpen, .instanceMethod yX4_countOpen, .selects RX4 yX4_countOpen yX4_countOpen, .initialized RX4, .code yX4_countOpen cX4_countOpen 3 (some .int), .methodLink RX4 69 yX4_isOpen, .instanceMethod yX4_isOpen, .selects RX4 yX4_isOpen yX4_isOpen, .code yX4_isOpen cX4_isOpen 2 (some .boolean), .fieldLink RX4 13 "GridpuzzleModel" "isBarred" "[Z", .methodLink RX4 55 yX4_isCell, .instanceMethod yX4_isCell, .selects RX4 yX4_isCell yX4_isCell, .code yX4_isCell cX4_isCell 2 (some .boolean), .fieldLink RX4 7 "GridpuzzleModel" "size" "I", .methodLink RX4 51 yX4_in, .static yX4_in, .code yX4_in cX4_in 3 (some .boolean)] ++ wsX40)
def wsX4_runs : List Cond := .code yX4_runs cX4_runs 1 (some .int) :: ([.fieldLink RX4 48 "GridpuzzleModel" "thrown" "I", .fieldLink RX4 59 "GridpuzzleModel" "runs" "I"] ++ wsX40)
def wsX4_firstOf : List Cond := .code yX4_firstOf cX4_firstOf 2 (some .int) :: ([.fieldLink RX4 21 "GridpuzzleModel" "firsts" "[I", .methodLink RX4 76 yX4_isRun, .instanceMethod yX4_isRun, .selects RX4 yX4_isRun yX4_isRun, .initialized RX4, .code yX4_isRun cX4_isRun 2 (some .boolean), .fieldLink RX4 59 "GridpuzzleModel" "runs" "I", .methodLink RX4 51 yX4_in, .static yX4_in, .code yX4_in cX4_in 3 (some .boolean), .methodLink RX4 62 yX4_goesWell, .instanceMethod yX4_goesWell, .selects RX4 yX4_goesWell yX4_goesWell, .code yX4_goesWell cX4_goesWell 2 (some .boolean), .fieldLink RX4 48 "GridpuzzleModel" "thrown" "I"] ++ wsX40)
def wsX4_lengthOf : List Cond := .code yX4_lengthOf cX4_lengthOf 2 (some .int) :: ([.fieldLink RX4 24 "GridpuzzleModel" "lengths" "[I", .methodLink RX4 76 yX4_isRun, .instanceMethod yX4_isRun, .selects RX4 yX4_isRun yX4_isRun, .initialized RX4, .code yX4_isRun cX4_isRun 2 (some .boolean), .fieldLink RX4 59 "GridpuzzleModel" "runs" "I", .methodLink RX4 51 yX4_in, .static yX4_in, .code yX4_in cX4_in 3 (some .boolean), .methodLink RX4 62 yX4_goesWell, .instanceMethod yX4_goesWell, .selects RX4 yX4_goesWell yX4_goesWell, .code yX4_goesWell cX4_goesWell 2 (some .boolean), .fieldLink RX4 48 "GridpuzzleModel" "thrown" "I"] ++ wsX40)
def wsX4_sumOf : List Cond := .code yX4_sumOf cX4_sumOf 2 (some .int) :: ([.fieldLink RX4 30 "GridpuzzleModel" "sums" "[I", .methodLink RX4 76 yX4_isRun, .instanceMethod yX4_isRun, .selects RX4 yX4_isRun yX4_isRun, .initialized RX4, .code yX4_isRun cX4_isRun 2 (some .boolean), .fieldLink RX4 59 "GridpuzzleModel" "runs" "I", .methodLink RX4 51 yX4_in, .static yX4_in, .code yX4_in cX4_in 3 (some .boolean), .methodLink RX4 62 yX4_goesWell, .instanceMethod yX4_goesWell, .selects RX4 yX4_goesWell yX4_goesWell, .code yX4_goesWell cX4_goesWell 2 (some .boolean), .fieldLink RX4 48 "GridpuzzleModel" "thrown" "I"] ++ wsX40)
def wsX4_digit : List Cond := .code yX4_digit cX4_digit 2 (some .int) :: ([.fieldLink RX4 13 "GridpuzzleModel" "isBarred" "[Z", .fieldLink RX4 17 "GridpuzzleModel" "given" "[I", .methodLink RX4 55 yX4_isCell, .instanceMethod yX4_isCell, .selects RX4 yX4_isCell yX4_isCell, .initialized RX4, .code yX4_isCell cX4_isCell 2 (some .boolean), .fieldLink RX4 7 "GridpuzzleModel" "size" "I", .methodLink RX4 51 yX4_in, .static yX4_in, .code yX4_in cX4_in 3 (some .boolean), .methodLink RX4 62 yX4_goesWell, .instanceMethod yX4_goesWell, .selects RX4 yX4_goesWell yX4_goesWell, .code yX4_goesWell cX4_goesWell 2 (some .boolean), .fieldLink RX4 48 "GridpuzzleModel" "thrown" "I"] ++ wsX40)
def wsX4_isGood : List Cond := .code yX4_isGood cX4_isGood 8 (some .boolean) :: ([.fieldLink RX4 59 "GridpuzzleModel" "runs" "I", .fieldLink RX4 24 "GridpuzzleModel" "lengths" "[I", .fieldLink RX4 36 "GridpuzzleModel" "digits" "[I", .fieldLink RX4 30 "GridpuzzleModel" "sums" "[I", .methodLink RX4 93 yX4_has, .instanceMethod yX4_has, .selects RX4 yX4_has yX4_has, .initialized RX4, .code yX4_has cX4_has 4 (some .boolean), .fieldLink RX4 21 "GridpuzzleModel" "firsts" "[I", .fieldLink RX4 27 "GridpuzzleModel" "steps" "[I", .methodLink RX4 79 yX4_cellOf, .instanceMethod yX4_cellOf, .selects RX4 yX4_cellOf yX4_cellOf, .code yX4_cellOf cX4_cellOf 3 (some .int), .methodLink RX4 86 yX4_sumUp, .instanceMethod yX4_sumUp, .selects RX4 yX4_sumUp yX4_sumUp, .code yX4_sumUp cX4_sumUp 4 (some .int)] ++ wsX40)
def wsX4_layTried : List Cond := .code yX4_layTried cX4_layTried 2 none :: ([.fieldLink RX4 97 "GridpuzzleModel" "many" "I", .fieldLink RX4 17 "GridpuzzleModel" "given" "[I", .fieldLink RX4 33 "GridpuzzleModel" "tried" "[I", .methodLink RX4 90 yX4_copyGiven, .instanceMethod yX4_copyGiven, .selects RX4 yX4_copyGiven yX4_copyGiven, .initialized RX4, .code yX4_copyGiven cX4_copyGiven 2 none, .fieldLink RX4 36 "GridpuzzleModel" "digits" "[I", .methodLink RX4 69 yX4_isOpen, .instanceMethod yX4_isOpen, .selects RX4 yX4_isOpen yX4_isOpen, .code yX4_isOpen cX4_isOpen 2 (some .boolean), .fieldLink RX4 13 "GridpuzzleModel" "isBarred" "[Z", .methodLink RX4 55 yX4_isCell, .instanceMethod yX4_isCell, .selects RX4 yX4_isCell yX4_isCell, .code yX4_isCell cX4_isCell 2 (some .boolean), .fieldLink RX4 7 "GridpuzzleModel" "size" "I", .methodLink RX4 51 yX4_in, .static yX4_in, .code yX4_in cX4_in 3 (some .boolean)] ++ wsX40)
def wsX4_keep : List Cond := .code yX4_keep cX4_keep 3 none :: ([.fieldLink RX4 36 "GridpuzzleModel" "digits" "[I", .fieldLink RX4 39 "GridpuzzleModel" "firstAnswer" "[I", .fieldLink RX4 100 "GridpuzzleModel" "differing" "I"] ++ wsX40)
def wsX4_attempt_r1 : List Cond := [Cond.fieldLink RX4 106 "GridpuzzleModel" "isGivenUp" "Z", Cond.fieldLink RX4 100 "GridpuzzleModel" "differing" "I", Cond.fieldLink RX4 97 "GridpuzzleModel" "many" "I", Cond.fieldLink RX4 33 "GridpuzzleModel" "tried" "[I", Cond.fieldLink RX4 36 "GridpuzzleModel" "digits" "[I", Cond.methodLink RX4 103 yX4_layTried, Cond.instanceMethod yX4_layTried, Cond.selects RX4 yX4_layTried yX4_layTried, Cond.initialized RX4, Cond.code yX4_layTried cX4_layTried 2 none, Cond.fieldLink RX4 17 "GridpuzzleModel" "given" "[I", Cond.methodLink RX4 90 yX4_copyGiven, Cond.instanceMethod yX4_copyGiven, Cond.selects RX4 yX4_copyGiven yX4_copyGiven, Cond.code yX4_copyGiven cX4_copyGiven 2 none, Cond.methodLink RX4 69 yX4_isOpen, Cond.instanceMethod yX4_isOpen, Cond.selects RX4 yX4_isOpen yX4_isOpen, Cond.code yX4_isOpen cX4_isOpen 2 (some .boolean), Cond.fieldLink RX4 13 "GridpuzzleModel" "isBarred" "[Z", Cond.methodLink RX4 55 yX4_isCell, Cond.instanceMethod yX4_isCell, Cond.selects RX4 yX4_isCell yX4_isCell, Cond.code yX4_isCell cX4_isCell 2 (some .boolean)]
def wsX4_attempt_r2 : List Cond := [Cond.fieldLink RX4 7 "GridpuzzleModel" "size" "I", Cond.methodLink RX4 51 yX4_in, Cond.static yX4_in, Cond.code yX4_in cX4_in 3 (some .boolean), Cond.methodLink RX4 110 yX4_isAnswer, Cond.instanceMethod yX4_isAnswer, Cond.selects RX4 yX4_isAnswer yX4_isAnswer, Cond.code yX4_isAnswer cX4_isAnswer 3 (some .boolean), Cond.fieldLink RX4 59 "GridpuzzleModel" "runs" "I", Cond.fieldLink RX4 30 "GridpuzzleModel" "sums" "[I", Cond.methodLink RX4 83 yX4_isUnlike, Cond.instanceMethod yX4_isUnlike, Cond.selects RX4 yX4_isUnlike yX4_isUnlike, Cond.code yX4_isUnlike cX4_isUnlike 6 (some .boolean), Cond.fieldLink RX4 24 "GridpuzzleModel" "lengths" "[I", Cond.methodLink RX4 79 yX4_cellOf, Cond.instanceMethod yX4_cellOf, Cond.selects RX4 yX4_cellOf yX4_cellOf, Cond.code yX4_cellOf cX4_cellOf 3 (some .int), Cond.fieldLink RX4 21 "GridpuzzleModel" "firsts" "[I", Cond.fieldLink RX4 27 "GridpuzzleModel" "steps" "[I", Cond.methodLink RX4 86 yX4_sumUp, Cond.instanceMethod yX4_sumUp, Cond.selects RX4 yX4_sumUp yX4_sumUp]
def wsX4_attempt_r3 : List Cond := [Cond.code yX4_sumUp cX4_sumUp 4 (some .int), Cond.methodLink RX4 114 yX4_isGood, Cond.instanceMethod yX4_isGood, Cond.selects RX4 yX4_isGood yX4_isGood, Cond.code yX4_isGood cX4_isGood 8 (some .boolean), Cond.methodLink RX4 93 yX4_has, Cond.instanceMethod yX4_has, Cond.selects RX4 yX4_has yX4_has, Cond.code yX4_has cX4_has 4 (some .boolean), Cond.methodLink RX4 117 yX4_keep, Cond.instanceMethod yX4_keep, Cond.selects RX4 yX4_keep yX4_keep, Cond.code yX4_keep cX4_keep 3 none, Cond.fieldLink RX4 39 "GridpuzzleModel" "firstAnswer" "[I"]
def wsX4_attempt : List Cond := .code yX4_attempt cX4_attempt 7 (some .int) :: ((wsX4_attempt_r1 ++ (wsX4_attempt_r2 ++ wsX4_attempt_r3)) ++ wsX40)
def wsX4_answers_r1 : List Cond := [Cond.methodLink RX4 51 yX4_in, Cond.static yX4_in, Cond.initialized RX4, Cond.code yX4_in cX4_in 3 (some .boolean), Cond.methodLink RX4 62 yX4_goesWell, Cond.instanceMethod yX4_goesWell, Cond.selects RX4 yX4_goesWell yX4_goesWell, Cond.code yX4_goesWell cX4_goesWell 2 (some .boolean), Cond.fieldLink RX4 48 "GridpuzzleModel" "thrown" "I", Cond.methodLink RX4 120 yX4_attempt, Cond.instanceMethod yX4_attempt, Cond.selects RX4 yX4_attempt yX4_attempt, Cond.code yX4_attempt cX4_attempt 7 (some .int), Cond.fieldLink RX4 106 "GridpuzzleModel" "isGivenUp" "Z", Cond.fieldLink RX4 100 "GridpuzzleModel" "differing" "I", Cond.fieldLink RX4 97 "GridpuzzleModel" "many" "I", Cond.fieldLink RX4 33 "GridpuzzleModel" "tried" "[I", Cond.fieldLink RX4 36 "GridpuzzleModel" "digits" "[I", Cond.methodLink RX4 103 yX4_layTried, Cond.instanceMethod yX4_layTried, Cond.selects RX4 yX4_layTried yX4_layTried, Cond.code yX4_layTried cX4_layTried 2 none, Cond.fieldLink RX4 17 "GridpuzzleModel" "given" "[I", Cond.methodLink RX4 90 yX4_copyGiven]
def wsX4_answers_r2 : List Cond := [Cond.instanceMethod yX4_copyGiven, Cond.selects RX4 yX4_copyGiven yX4_copyGiven, Cond.code yX4_copyGiven cX4_copyGiven 2 none, Cond.methodLink RX4 69 yX4_isOpen, Cond.instanceMethod yX4_isOpen, Cond.selects RX4 yX4_isOpen yX4_isOpen, Cond.code yX4_isOpen cX4_isOpen 2 (some .boolean), Cond.fieldLink RX4 13 "GridpuzzleModel" "isBarred" "[Z", Cond.methodLink RX4 55 yX4_isCell, Cond.instanceMethod yX4_isCell, Cond.selects RX4 yX4_isCell yX4_isCell, Cond.code yX4_isCell cX4_isCell 2 (some .boolean), Cond.fieldLink RX4 7 "GridpuzzleModel" "size" "I", Cond.methodLink RX4 110 yX4_isAnswer, Cond.instanceMethod yX4_isAnswer, Cond.selects RX4 yX4_isAnswer yX4_isAnswer, Cond.code yX4_isAnswer cX4_isAnswer 3 (some .boolean), Cond.fieldLink RX4 59 "GridpuzzleModel" "runs" "I", Cond.fieldLink RX4 30 "GridpuzzleModel" "sums" "[I", Cond.methodLink RX4 83 yX4_isUnlike, Cond.instanceMethod yX4_isUnlike, Cond.selects RX4 yX4_isUnlike yX4_isUnlike, Cond.code yX4_isUnlike cX4_isUnlike 6 (some .boolean), Cond.fieldLink RX4 24 "GridpuzzleModel" "lengths" "[I"]
def wsX4_answers_r3 : List Cond := [Cond.methodLink RX4 79 yX4_cellOf, Cond.instanceMethod yX4_cellOf, Cond.selects RX4 yX4_cellOf yX4_cellOf, Cond.code yX4_cellOf cX4_cellOf 3 (some .int), Cond.fieldLink RX4 21 "GridpuzzleModel" "firsts" "[I", Cond.fieldLink RX4 27 "GridpuzzleModel" "steps" "[I", Cond.methodLink RX4 86 yX4_sumUp, Cond.instanceMethod yX4_sumUp, Cond.selects RX4 yX4_sumUp yX4_sumUp, Cond.code yX4_sumUp cX4_sumUp 4 (some .int), Cond.methodLink RX4 114 yX4_isGood, Cond.instanceMethod yX4_isGood, Cond.selects RX4 yX4_isGood yX4_isGood, Cond.code yX4_isGood cX4_isGood 8 (some .boolean), Cond.methodLink RX4 93 yX4_has, Cond.instanceMethod yX4_has, Cond.selects RX4 yX4_has yX4_has, Cond.code yX4_has cX4_has 4 (some .boolean), Cond.methodLink RX4 117 yX4_keep, Cond.instanceMethod yX4_keep, Cond.selects RX4 yX4_keep yX4_keep, Cond.code yX4_keep cX4_keep 3 none, Cond.fieldLink RX4 39 "GridpuzzleModel" "firstAnswer" "[I"]
def wsX4_answers : List Cond := .code yX4_answers cX4_answers 2 (some .int) :: ((wsX4_answers_r1 ++ (wsX4_answers_r2 ++ wsX4_answers_r3)) ++ wsX40)
def wsX4_answersByAll_r1 : List Cond := [Cond.fieldLink RX4 97 "GridpuzzleModel" "many" "I", Cond.fieldLink RX4 36 "GridpuzzleModel" "digits" "[I", Cond.fieldLink RX4 33 "GridpuzzleModel" "tried" "[I", Cond.methodLink RX4 103 yX4_layTried, Cond.instanceMethod yX4_layTried, Cond.selects RX4 yX4_layTried yX4_layTried, Cond.initialized RX4, Cond.code yX4_layTried cX4_layTried 2 none, Cond.fieldLink RX4 17 "GridpuzzleModel" "given" "[I", Cond.methodLink RX4 90 yX4_copyGiven, Cond.instanceMethod yX4_copyGiven, Cond.selects RX4 yX4_copyGiven yX4_copyGiven, Cond.code yX4_copyGiven cX4_copyGiven 2 none, Cond.methodLink RX4 69 yX4_isOpen, Cond.instanceMethod yX4_isOpen, Cond.selects RX4 yX4_isOpen yX4_isOpen, Cond.code yX4_isOpen cX4_isOpen 2 (some .boolean), Cond.fieldLink RX4 13 "GridpuzzleModel" "isBarred" "[Z", Cond.methodLink RX4 55 yX4_isCell, Cond.instanceMethod yX4_isCell, Cond.selects RX4 yX4_isCell yX4_isCell, Cond.code yX4_isCell cX4_isCell 2 (some .boolean), Cond.fieldLink RX4 7 "GridpuzzleModel" "size" "I", Cond.methodLink RX4 51 yX4_in]
def wsX4_answersByAll_r2 : List Cond := [Cond.static yX4_in, Cond.code yX4_in cX4_in 3 (some .boolean), Cond.methodLink RX4 62 yX4_goesWell, Cond.instanceMethod yX4_goesWell, Cond.selects RX4 yX4_goesWell yX4_goesWell, Cond.code yX4_goesWell cX4_goesWell 2 (some .boolean), Cond.fieldLink RX4 48 "GridpuzzleModel" "thrown" "I", Cond.methodLink RX4 110 yX4_isAnswer, Cond.instanceMethod yX4_isAnswer, Cond.selects RX4 yX4_isAnswer yX4_isAnswer, Cond.code yX4_isAnswer cX4_isAnswer 3 (some .boolean), Cond.fieldLink RX4 59 "GridpuzzleModel" "runs" "I", Cond.fieldLink RX4 30 "GridpuzzleModel" "sums" "[I", Cond.methodLink RX4 83 yX4_isUnlike, Cond.instanceMethod yX4_isUnlike, Cond.selects RX4 yX4_isUnlike yX4_isUnlike, Cond.code yX4_isUnlike cX4_isUnlike 6 (some .boolean), Cond.fieldLink RX4 24 "GridpuzzleModel" "lengths" "[I", Cond.methodLink RX4 79 yX4_cellOf, Cond.instanceMethod yX4_cellOf, Cond.selects RX4 yX4_cellOf yX4_cellOf, Cond.code yX4_cellOf cX4_cellOf 3 (some .int), Cond.fieldLink RX4 21 "GridpuzzleModel" "firsts" "[I", Cond.fieldLink RX4 27 "GridpuzzleModel" "steps" "[I"]
def wsX4_answersByAll_r3 : List Cond := [Cond.methodLink RX4 86 yX4_sumUp, Cond.instanceMethod yX4_sumUp, Cond.selects RX4 yX4_sumUp yX4_sumUp, Cond.code yX4_sumUp cX4_sumUp 4 (some .int)]
def wsX4_answersByAll : List Cond := .code yX4_answersByAll cX4_answersByAll 6 (some .int) :: ((wsX4_answersByAll_r1 ++ (wsX4_answersByAll_r2 ++ wsX4_answersByAll_r3)) ++ wsX40)
def wsX4_mend_r1 : List Cond := [Cond.fieldLink RX4 106 "GridpuzzleModel" "isGivenUp" "Z", Cond.fieldLink RX4 17 "GridpuzzleModel" "given" "[I", Cond.fieldLink RX4 100 "GridpuzzleModel" "differing" "I", Cond.fieldLink RX4 39 "GridpuzzleModel" "firstAnswer" "[I", Cond.methodLink RX4 120 yX4_attempt, Cond.instanceMethod yX4_attempt, Cond.selects RX4 yX4_attempt yX4_attempt, Cond.initialized RX4, Cond.code yX4_attempt cX4_attempt 7 (some .int), Cond.fieldLink RX4 97 "GridpuzzleModel" "many" "I", Cond.fieldLink RX4 33 "GridpuzzleModel" "tried" "[I", Cond.fieldLink RX4 36 "GridpuzzleModel" "digits" "[I", Cond.methodLink RX4 103 yX4_layTried, Cond.instanceMethod yX4_layTried, Cond.selects RX4 yX4_layTried yX4_layTried, Cond.code yX4_layTried cX4_layTried 2 none, Cond.methodLink RX4 90 yX4_copyGiven, Cond.instanceMethod yX4_copyGiven, Cond.selects RX4 yX4_copyGiven yX4_copyGiven, Cond.code yX4_copyGiven cX4_copyGiven 2 none, Cond.methodLink RX4 69 yX4_isOpen, Cond.instanceMethod yX4_isOpen, Cond.selects RX4 yX4_isOpen yX4_isOpen, Cond.code yX4_isOpen cX4_isOpen 2 (some .boolean)]
def wsX4_mend_r2 : List Cond := [Cond.fieldLink RX4 13 "GridpuzzleModel" "isBarred" "[Z", Cond.methodLink RX4 55 yX4_isCell, Cond.instanceMethod yX4_isCell, Cond.selects RX4 yX4_isCell yX4_isCell, Cond.code yX4_isCell cX4_isCell 2 (some .boolean), Cond.fieldLink RX4 7 "GridpuzzleModel" "size" "I", Cond.methodLink RX4 51 yX4_in, Cond.static yX4_in, Cond.code yX4_in cX4_in 3 (some .boolean), Cond.methodLink RX4 110 yX4_isAnswer, Cond.instanceMethod yX4_isAnswer, Cond.selects RX4 yX4_isAnswer yX4_isAnswer, Cond.code yX4_isAnswer cX4_isAnswer 3 (some .boolean), Cond.fieldLink RX4 59 "GridpuzzleModel" "runs" "I", Cond.fieldLink RX4 30 "GridpuzzleModel" "sums" "[I", Cond.methodLink RX4 83 yX4_isUnlike, Cond.instanceMethod yX4_isUnlike, Cond.selects RX4 yX4_isUnlike yX4_isUnlike, Cond.code yX4_isUnlike cX4_isUnlike 6 (some .boolean), Cond.fieldLink RX4 24 "GridpuzzleModel" "lengths" "[I", Cond.methodLink RX4 79 yX4_cellOf, Cond.instanceMethod yX4_cellOf, Cond.selects RX4 yX4_cellOf yX4_cellOf, Cond.code yX4_cellOf cX4_cellOf 3 (some .int)]
def wsX4_mend_r3 : List Cond := [Cond.fieldLink RX4 21 "GridpuzzleModel" "firsts" "[I", Cond.fieldLink RX4 27 "GridpuzzleModel" "steps" "[I", Cond.methodLink RX4 86 yX4_sumUp, Cond.instanceMethod yX4_sumUp, Cond.selects RX4 yX4_sumUp yX4_sumUp, Cond.code yX4_sumUp cX4_sumUp 4 (some .int), Cond.methodLink RX4 114 yX4_isGood, Cond.instanceMethod yX4_isGood, Cond.selects RX4 yX4_isGood yX4_isGood, Cond.code yX4_isGood cX4_isGood 8 (some .boolean), Cond.methodLink RX4 93 yX4_has, Cond.instanceMethod yX4_has, Cond.selects RX4 yX4_has yX4_has, Cond.code yX4_has cX4_has 4 (some .boolean), Cond.methodLink RX4 117 yX4_keep, Cond.instanceMethod yX4_keep, Cond.selects RX4 yX4_keep yX4_keep, Cond.code yX4_keep cX4_keep 3 none, Cond.methodLink RX4 62 yX4_goesWell, Cond.instanceMethod yX4_goesWell, Cond.selects RX4 yX4_goesWell yX4_goesWell, Cond.code yX4_goesWell cX4_goesWell 2 (some .boolean), Cond.fieldLink RX4 48 "GridpuzzleModel" "thrown" "I"]
def wsX4_mend : List Cond := .code yX4_mend cX4_mend 2 (some .int) :: ((wsX4_mend_r1 ++ (wsX4_mend_r2 ++ wsX4_mend_r3)) ++ wsX40)
def wsX4_isSingle : List Cond := .code yX4_isSingle cX4_isSingle 1 (some .boolean) :: ([])
def wsX4_take : List Cond := .code yX4_take cX4_take 3 none :: ([.fieldLink RX4 123 "GridpuzzleModel" "hasTaken" "Z", .fieldLink RX4 42 "GridpuzzleModel" "candidates" "[I"] ++ wsX40)
def wsX4_goThroughSingles : List Cond := .code yX4_goThroughSingles cX4_goThroughSingles 5 none :: ([.fieldLink RX4 59 "GridpuzzleModel" "runs" "I", .fieldLink RX4 24 "GridpuzzleModel" "lengths" "[I", .fieldLink RX4 42 "GridpuzzleModel" "candidates" "[I", .methodLink RX4 79 yX4_cellOf, .instanceMethod yX4_cellOf, .selects RX4 yX4_cellOf yX4_cellOf, .initialized RX4, .code yX4_cellOf cX4_cellOf 3 (some .int), .fieldLink RX4 21 "GridpuzzleModel" "firsts" "[I", .fieldLink RX4 27 "GridpuzzleModel" "steps" "[I", .methodLink RX4 126 yX4_isSingle, .static yX4_isSingle, .code yX4_isSingle cX4_isSingle 1 (some .boolean), .methodLink RX4 129 yX4_take, .instanceMethod yX4_take, .selects RX4 yX4_take yX4_take, .code yX4_take cX4_take 3 none, .fieldLink RX4 123 "GridpuzzleModel" "hasTaken" "Z"] ++ wsX40)
def wsX4_sumOfSet : List Cond := .code yX4_sumOfSet cX4_sumOfSet 3 (some .int) :: ([])
def wsX4_bits : List Cond := .code yX4_bits cX4_bits 3 (some .int) :: ([])
def wsX4_goThroughSets_r1 : List Cond := [Cond.fieldLink RX4 59 "GridpuzzleModel" "runs" "I", Cond.fieldLink RX4 24 "GridpuzzleModel" "lengths" "[I", Cond.fieldLink RX4 42 "GridpuzzleModel" "candidates" "[I", Cond.fieldLink RX4 30 "GridpuzzleModel" "sums" "[I", Cond.methodLink RX4 79 yX4_cellOf, Cond.instanceMethod yX4_cellOf, Cond.selects RX4 yX4_cellOf yX4_cellOf, Cond.initialized RX4, Cond.code yX4_cellOf cX4_cellOf 3 (some .int), Cond.fieldLink RX4 21 "GridpuzzleModel" "firsts" "[I", Cond.fieldLink RX4 27 "GridpuzzleModel" "steps" "[I", Cond.methodLink RX4 126 yX4_isSingle, Cond.static yX4_isSingle, Cond.code yX4_isSingle cX4_isSingle 1 (some .boolean), Cond.methodLink RX4 133 yX4_bits, Cond.static yX4_bits, Cond.code yX4_bits cX4_bits 3 (some .int), Cond.methodLink RX4 136 yX4_sumOfSet, Cond.static yX4_sumOfSet, Cond.code yX4_sumOfSet cX4_sumOfSet 3 (some .int), Cond.methodLink RX4 129 yX4_take, Cond.instanceMethod yX4_take, Cond.selects RX4 yX4_take yX4_take, Cond.code yX4_take cX4_take 3 none]
def wsX4_goThroughSets_r2 : List Cond := [Cond.fieldLink RX4 123 "GridpuzzleModel" "hasTaken" "Z"]
def wsX4_goThroughSets : List Cond := .code yX4_goThroughSets cX4_goThroughSets 6 none :: ((wsX4_goThroughSets_r1 ++ wsX4_goThroughSets_r2) ++ wsX40)
def wsX4_canBe : List Cond := .code yX4_canBe cX4_canBe 11 (some .boolean) :: ([.fieldLink RX4 24 "GridpuzzleModel" "lengths" "[I", .fieldLink RX4 42 "GridpuzzleModel" "candidates" "[I", .fieldLink RX4 30 "GridpuzzleModel" "sums" "[I", .methodLink RX4 79 yX4_cellOf, .instanceMethod yX4_cellOf, .selects RX4 yX4_cellOf yX4_cellOf, .initialized RX4, .code yX4_cellOf cX4_cellOf 3 (some .int), .fieldLink RX4 21 "GridpuzzleModel" "firsts" "[I", .fieldLink RX4 27 "GridpuzzleModel" "steps" "[I", .methodLink RX4 136 yX4_sumOfSet, .static yX4_sumOfSet, .code yX4_sumOfSet cX4_sumOfSet 3 (some .int)] ++ wsX40)
def wsX4_goThroughRows : List Cond := .code yX4_goThroughRows cX4_goThroughRows 5 none :: ([.fieldLink RX4 59 "GridpuzzleModel" "runs" "I", .fieldLink RX4 24 "GridpuzzleModel" "lengths" "[I", .fieldLink RX4 30 "GridpuzzleModel" "sums" "[I", .fieldLink RX4 42 "GridpuzzleModel" "candidates" "[I", .methodLink RX4 79 yX4_cellOf, .instanceMethod yX4_cellOf, .selects RX4 yX4_cellOf yX4_cellOf, .initialized RX4, .code yX4_cellOf cX4_cellOf 3 (some .int), .fieldLink RX4 21 "GridpuzzleModel" "firsts" "[I", .fieldLink RX4 27 "GridpuzzleModel" "steps" "[I", .methodLink RX4 139 yX4_canBe, .instanceMethod yX4_canBe, .selects RX4 yX4_canBe yX4_canBe, .code yX4_canBe cX4_canBe 11 (some .boolean), .methodLink RX4 136 yX4_sumOfSet, .static yX4_sumOfSet, .code yX4_sumOfSet cX4_sumOfSet 3 (some .int), .methodLink RX4 129 yX4_take, .instanceMethod yX4_take, .selects RX4 yX4_take yX4_take, .code yX4_take cX4_take 3 none, .fieldLink RX4 123 "GridpuzzleModel" "hasTaken" "Z"] ++ wsX40)
def wsX4_isDead : List Cond := .code yX4_isDead cX4_isDead 3 (some .boolean) :: ([.fieldLink RX4 42 "GridpuzzleModel" "candidates" "[I", .methodLink RX4 69 yX4_isOpen, .instanceMethod yX4_isOpen, .selects RX4 yX4_isOpen yX4_isOpen, .initialized RX4, .code yX4_isOpen cX4_isOpen 2 (some .boolean), .fieldLink RX4 13 "GridpuzzleModel" "isBarred" "[Z", .methodLink RX4 55 yX4_isCell, .instanceMethod yX4_isCell, .selects RX4 yX4_isCell yX4_isCell, .code yX4_isCell cX4_isCell 2 (some .boolean), .fieldLink RX4 7 "GridpuzzleModel" "size" "I", .methodLink RX4 51 yX4_in, .static yX4_in, .code yX4_in cX4_in 3 (some .boolean)] ++ wsX40)
def wsX4_solve_r1 : List Cond := [Cond.fieldLink RX4 142 "GridpuzzleModel" "level" "I", Cond.fieldLink RX4 42 "GridpuzzleModel" "candidates" "[I", Cond.fieldLink RX4 17 "GridpuzzleModel" "given" "[I", Cond.fieldLink RX4 123 "GridpuzzleModel" "hasTaken" "Z", Cond.methodLink RX4 69 yX4_isOpen, Cond.instanceMethod yX4_isOpen, Cond.selects RX4 yX4_isOpen yX4_isOpen, Cond.initialized RX4, Cond.code yX4_isOpen cX4_isOpen 2 (some .boolean), Cond.fieldLink RX4 13 "GridpuzzleModel" "isBarred" "[Z", Cond.methodLink RX4 55 yX4_isCell, Cond.instanceMethod yX4_isCell, Cond.selects RX4 yX4_isCell yX4_isCell, Cond.code yX4_isCell cX4_isCell 2 (some .boolean), Cond.fieldLink RX4 7 "GridpuzzleModel" "size" "I", Cond.methodLink RX4 51 yX4_in, Cond.static yX4_in, Cond.code yX4_in cX4_in 3 (some .boolean), Cond.methodLink RX4 145 yX4_goThroughSingles, Cond.instanceMethod yX4_goThroughSingles, Cond.selects RX4 yX4_goThroughSingles yX4_goThroughSingles, Cond.code yX4_goThroughSingles cX4_goThroughSingles 5 none, Cond.fieldLink RX4 59 "GridpuzzleModel" "runs" "I", Cond.fieldLink RX4 24 "GridpuzzleModel" "lengths" "[I"]
def wsX4_solve_r2 : List Cond := [Cond.methodLink RX4 79 yX4_cellOf, Cond.instanceMethod yX4_cellOf, Cond.selects RX4 yX4_cellOf yX4_cellOf, Cond.code yX4_cellOf cX4_cellOf 3 (some .int), Cond.fieldLink RX4 21 "GridpuzzleModel" "firsts" "[I", Cond.fieldLink RX4 27 "GridpuzzleModel" "steps" "[I", Cond.methodLink RX4 126 yX4_isSingle, Cond.static yX4_isSingle, Cond.code yX4_isSingle cX4_isSingle 1 (some .boolean), Cond.methodLink RX4 129 yX4_take, Cond.instanceMethod yX4_take, Cond.selects RX4 yX4_take yX4_take, Cond.code yX4_take cX4_take 3 none, Cond.methodLink RX4 148 yX4_goThroughSets, Cond.instanceMethod yX4_goThroughSets, Cond.selects RX4 yX4_goThroughSets yX4_goThroughSets, Cond.code yX4_goThroughSets cX4_goThroughSets 6 none, Cond.fieldLink RX4 30 "GridpuzzleModel" "sums" "[I", Cond.methodLink RX4 133 yX4_bits, Cond.static yX4_bits, Cond.code yX4_bits cX4_bits 3 (some .int), Cond.methodLink RX4 136 yX4_sumOfSet, Cond.static yX4_sumOfSet, Cond.code yX4_sumOfSet cX4_sumOfSet 3 (some .int)]
def wsX4_solve_r3 : List Cond := [Cond.methodLink RX4 151 yX4_goThroughRows, Cond.instanceMethod yX4_goThroughRows, Cond.selects RX4 yX4_goThroughRows yX4_goThroughRows, Cond.code yX4_goThroughRows cX4_goThroughRows 5 none, Cond.methodLink RX4 139 yX4_canBe, Cond.instanceMethod yX4_canBe, Cond.selects RX4 yX4_canBe yX4_canBe, Cond.code yX4_canBe cX4_canBe 11 (some .boolean), Cond.methodLink RX4 154 yX4_isDead, Cond.instanceMethod yX4_isDead, Cond.selects RX4 yX4_isDead yX4_isDead, Cond.code yX4_isDead cX4_isDead 3 (some .boolean)]
def wsX4_solve : List Cond := .code yX4_solve cX4_solve 3 none :: ((wsX4_solve_r1 ++ (wsX4_solve_r2 ++ wsX4_solve_r3)) ++ wsX40)
def wsX4_level_r1 : List Cond := [Cond.fieldLink RX4 48 "GridpuzzleModel" "thrown" "I", Cond.fieldLink RX4 42 "GridpuzzleModel" "candidates" "[I", Cond.fieldLink RX4 142 "GridpuzzleModel" "level" "I", Cond.methodLink RX4 157 yX4_solve, Cond.instanceMethod yX4_solve, Cond.selects RX4 yX4_solve yX4_solve, Cond.initialized RX4, Cond.code yX4_solve cX4_solve 3 none, Cond.fieldLink RX4 17 "GridpuzzleModel" "given" "[I", Cond.fieldLink RX4 123 "GridpuzzleModel" "hasTaken" "Z", Cond.methodLink RX4 69 yX4_isOpen, Cond.instanceMethod yX4_isOpen, Cond.selects RX4 yX4_isOpen yX4_isOpen, Cond.code yX4_isOpen cX4_isOpen 2 (some .boolean), Cond.fieldLink RX4 13 "GridpuzzleModel" "isBarred" "[Z", Cond.methodLink RX4 55 yX4_isCell, Cond.instanceMethod yX4_isCell, Cond.selects RX4 yX4_isCell yX4_isCell, Cond.code yX4_isCell cX4_isCell 2 (some .boolean), Cond.fieldLink RX4 7 "GridpuzzleModel" "size" "I", Cond.methodLink RX4 51 yX4_in, Cond.static yX4_in, Cond.code yX4_in cX4_in 3 (some .boolean), Cond.methodLink RX4 145 yX4_goThroughSingles]
def wsX4_level_r2 : List Cond := [Cond.instanceMethod yX4_goThroughSingles, Cond.selects RX4 yX4_goThroughSingles yX4_goThroughSingles, Cond.code yX4_goThroughSingles cX4_goThroughSingles 5 none, Cond.fieldLink RX4 59 "GridpuzzleModel" "runs" "I", Cond.fieldLink RX4 24 "GridpuzzleModel" "lengths" "[I", Cond.methodLink RX4 79 yX4_cellOf, Cond.instanceMethod yX4_cellOf, Cond.selects RX4 yX4_cellOf yX4_cellOf, Cond.code yX4_cellOf cX4_cellOf 3 (some .int), Cond.fieldLink RX4 21 "GridpuzzleModel" "firsts" "[I", Cond.fieldLink RX4 27 "GridpuzzleModel" "steps" "[I", Cond.methodLink RX4 126 yX4_isSingle, Cond.static yX4_isSingle, Cond.code yX4_isSingle cX4_isSingle 1 (some .boolean), Cond.methodLink RX4 129 yX4_take, Cond.instanceMethod yX4_take, Cond.selects RX4 yX4_take yX4_take, Cond.code yX4_take cX4_take 3 none, Cond.methodLink RX4 148 yX4_goThroughSets, Cond.instanceMethod yX4_goThroughSets, Cond.selects RX4 yX4_goThroughSets yX4_goThroughSets, Cond.code yX4_goThroughSets cX4_goThroughSets 6 none, Cond.fieldLink RX4 30 "GridpuzzleModel" "sums" "[I", Cond.methodLink RX4 133 yX4_bits]
def wsX4_level_r3 : List Cond := [Cond.static yX4_bits, Cond.code yX4_bits cX4_bits 3 (some .int), Cond.methodLink RX4 136 yX4_sumOfSet, Cond.static yX4_sumOfSet, Cond.code yX4_sumOfSet cX4_sumOfSet 3 (some .int), Cond.methodLink RX4 151 yX4_goThroughRows, Cond.instanceMethod yX4_goThroughRows, Cond.selects RX4 yX4_goThroughRows yX4_goThroughRows, Cond.code yX4_goThroughRows cX4_goThroughRows 5 none, Cond.methodLink RX4 139 yX4_canBe, Cond.instanceMethod yX4_canBe, Cond.selects RX4 yX4_canBe yX4_canBe, Cond.code yX4_canBe cX4_canBe 11 (some .boolean), Cond.methodLink RX4 154 yX4_isDead, Cond.instanceMethod yX4_isDead, Cond.selects RX4 yX4_isDead yX4_isDead, Cond.code yX4_isDead cX4_isDead 3 (some .boolean)]
def wsX4_level : List Cond := .code yX4_level cX4_level 2 (some .int) :: ((wsX4_level_r1 ++ (wsX4_level_r2 ++ wsX4_level_r3)) ++ wsX40)
def wsX4_candidates_r1 : List Cond := [Cond.fieldLink RX4 42 "GridpuzzleModel" "candidates" "[I", Cond.methodLink RX4 55 yX4_isCell, Cond.instanceMethod yX4_isCell, Cond.selects RX4 yX4_isCell yX4_isCell, Cond.initialized RX4, Cond.code yX4_isCell cX4_isCell 2 (some .boolean), Cond.fieldLink RX4 7 "GridpuzzleModel" "size" "I", Cond.methodLink RX4 51 yX4_in, Cond.static yX4_in, Cond.code yX4_in cX4_in 3 (some .boolean), Cond.methodLink RX4 62 yX4_goesWell, Cond.instanceMethod yX4_goesWell, Cond.selects RX4 yX4_goesWell yX4_goesWell, Cond.code yX4_goesWell cX4_goesWell 2 (some .boolean), Cond.fieldLink RX4 48 "GridpuzzleModel" "thrown" "I", Cond.methodLink RX4 157 yX4_solve, Cond.instanceMethod yX4_solve, Cond.selects RX4 yX4_solve yX4_solve, Cond.code yX4_solve cX4_solve 3 none, Cond.fieldLink RX4 142 "GridpuzzleModel" "level" "I", Cond.fieldLink RX4 17 "GridpuzzleModel" "given" "[I", Cond.fieldLink RX4 123 "GridpuzzleModel" "hasTaken" "Z", Cond.methodLink RX4 69 yX4_isOpen, Cond.instanceMethod yX4_isOpen]
def wsX4_candidates_r2 : List Cond := [Cond.selects RX4 yX4_isOpen yX4_isOpen, Cond.code yX4_isOpen cX4_isOpen 2 (some .boolean), Cond.fieldLink RX4 13 "GridpuzzleModel" "isBarred" "[Z", Cond.methodLink RX4 145 yX4_goThroughSingles, Cond.instanceMethod yX4_goThroughSingles, Cond.selects RX4 yX4_goThroughSingles yX4_goThroughSingles, Cond.code yX4_goThroughSingles cX4_goThroughSingles 5 none, Cond.fieldLink RX4 59 "GridpuzzleModel" "runs" "I", Cond.fieldLink RX4 24 "GridpuzzleModel" "lengths" "[I", Cond.methodLink RX4 79 yX4_cellOf, Cond.instanceMethod yX4_cellOf, Cond.selects RX4 yX4_cellOf yX4_cellOf, Cond.code yX4_cellOf cX4_cellOf 3 (some .int), Cond.fieldLink RX4 21 "GridpuzzleModel" "firsts" "[I", Cond.fieldLink RX4 27 "GridpuzzleModel" "steps" "[I", Cond.methodLink RX4 126 yX4_isSingle, Cond.static yX4_isSingle, Cond.code yX4_isSingle cX4_isSingle 1 (some .boolean), Cond.methodLink RX4 129 yX4_take, Cond.instanceMethod yX4_take, Cond.selects RX4 yX4_take yX4_take, Cond.code yX4_take cX4_take 3 none, Cond.methodLink RX4 148 yX4_goThroughSets, Cond.instanceMethod yX4_goThroughSets]
def wsX4_candidates_r3 : List Cond := [Cond.selects RX4 yX4_goThroughSets yX4_goThroughSets, Cond.code yX4_goThroughSets cX4_goThroughSets 6 none, Cond.fieldLink RX4 30 "GridpuzzleModel" "sums" "[I", Cond.methodLink RX4 133 yX4_bits, Cond.static yX4_bits, Cond.code yX4_bits cX4_bits 3 (some .int), Cond.methodLink RX4 136 yX4_sumOfSet, Cond.static yX4_sumOfSet, Cond.code yX4_sumOfSet cX4_sumOfSet 3 (some .int), Cond.methodLink RX4 151 yX4_goThroughRows, Cond.instanceMethod yX4_goThroughRows, Cond.selects RX4 yX4_goThroughRows yX4_goThroughRows, Cond.code yX4_goThroughRows cX4_goThroughRows 5 none, Cond.methodLink RX4 139 yX4_canBe, Cond.instanceMethod yX4_canBe, Cond.selects RX4 yX4_canBe yX4_canBe, Cond.code yX4_canBe cX4_canBe 11 (some .boolean), Cond.methodLink RX4 154 yX4_isDead, Cond.instanceMethod yX4_isDead, Cond.selects RX4 yX4_isDead yX4_isDead, Cond.code yX4_isDead cX4_isDead 3 (some .boolean)]
def wsX4_candidates : List Cond := .code yX4_candidates cX4_candidates 3 (some .int) :: ((wsX4_candidates_r1 ++ (wsX4_candidates_r2 ++ wsX4_candidates_r3)) ++ wsX40)
def wsX4_find_r1 : List Cond := [Cond.fieldLink RX4 17 "GridpuzzleModel" "given" "[I", Cond.fieldLink RX4 42 "GridpuzzleModel" "candidates" "[I", Cond.methodLink RX4 157 yX4_solve, Cond.instanceMethod yX4_solve, Cond.selects RX4 yX4_solve yX4_solve, Cond.initialized RX4, Cond.code yX4_solve cX4_solve 3 none, Cond.fieldLink RX4 142 "GridpuzzleModel" "level" "I", Cond.fieldLink RX4 123 "GridpuzzleModel" "hasTaken" "Z", Cond.methodLink RX4 69 yX4_isOpen, Cond.instanceMethod yX4_isOpen, Cond.selects RX4 yX4_isOpen yX4_isOpen, Cond.code yX4_isOpen cX4_isOpen 2 (some .boolean), Cond.fieldLink RX4 13 "GridpuzzleModel" "isBarred" "[Z", Cond.methodLink RX4 55 yX4_isCell, Cond.instanceMethod yX4_isCell, Cond.selects RX4 yX4_isCell yX4_isCell, Cond.code yX4_isCell cX4_isCell 2 (some .boolean), Cond.fieldLink RX4 7 "GridpuzzleModel" "size" "I", Cond.methodLink RX4 51 yX4_in, Cond.static yX4_in, Cond.code yX4_in cX4_in 3 (some .boolean), Cond.methodLink RX4 145 yX4_goThroughSingles, Cond.instanceMethod yX4_goThroughSingles]
def wsX4_find_r2 : List Cond := [Cond.selects RX4 yX4_goThroughSingles yX4_goThroughSingles, Cond.code yX4_goThroughSingles cX4_goThroughSingles 5 none, Cond.fieldLink RX4 59 "GridpuzzleModel" "runs" "I", Cond.fieldLink RX4 24 "GridpuzzleModel" "lengths" "[I", Cond.methodLink RX4 79 yX4_cellOf, Cond.instanceMethod yX4_cellOf, Cond.selects RX4 yX4_cellOf yX4_cellOf, Cond.code yX4_cellOf cX4_cellOf 3 (some .int), Cond.fieldLink RX4 21 "GridpuzzleModel" "firsts" "[I", Cond.fieldLink RX4 27 "GridpuzzleModel" "steps" "[I", Cond.methodLink RX4 126 yX4_isSingle, Cond.static yX4_isSingle, Cond.code yX4_isSingle cX4_isSingle 1 (some .boolean), Cond.methodLink RX4 129 yX4_take, Cond.instanceMethod yX4_take, Cond.selects RX4 yX4_take yX4_take, Cond.code yX4_take cX4_take 3 none, Cond.methodLink RX4 148 yX4_goThroughSets, Cond.instanceMethod yX4_goThroughSets, Cond.selects RX4 yX4_goThroughSets yX4_goThroughSets, Cond.code yX4_goThroughSets cX4_goThroughSets 6 none, Cond.fieldLink RX4 30 "GridpuzzleModel" "sums" "[I", Cond.methodLink RX4 133 yX4_bits, Cond.static yX4_bits]
def wsX4_find_r3 : List Cond := [Cond.code yX4_bits cX4_bits 3 (some .int), Cond.methodLink RX4 136 yX4_sumOfSet, Cond.static yX4_sumOfSet, Cond.code yX4_sumOfSet cX4_sumOfSet 3 (some .int), Cond.methodLink RX4 151 yX4_goThroughRows, Cond.instanceMethod yX4_goThroughRows, Cond.selects RX4 yX4_goThroughRows yX4_goThroughRows, Cond.code yX4_goThroughRows cX4_goThroughRows 5 none, Cond.methodLink RX4 139 yX4_canBe, Cond.instanceMethod yX4_canBe, Cond.selects RX4 yX4_canBe yX4_canBe, Cond.code yX4_canBe cX4_canBe 11 (some .boolean), Cond.methodLink RX4 154 yX4_isDead, Cond.instanceMethod yX4_isDead, Cond.selects RX4 yX4_isDead yX4_isDead, Cond.code yX4_isDead cX4_isDead 3 (some .boolean)]
def wsX4_find : List Cond := .code yX4_find cX4_find 3 (some .int) :: ((wsX4_find_r1 ++ (wsX4_find_r2 ++ wsX4_find_r3)) ++ wsX40)
def wsX4_hint_r1 : List Cond := [Cond.fieldLink RX4 48 "GridpuzzleModel" "thrown" "I", Cond.methodLink RX4 160 yX4_find, Cond.instanceMethod yX4_find, Cond.selects RX4 yX4_find yX4_find, Cond.initialized RX4, Cond.code yX4_find cX4_find 3 (some .int), Cond.fieldLink RX4 17 "GridpuzzleModel" "given" "[I", Cond.fieldLink RX4 42 "GridpuzzleModel" "candidates" "[I", Cond.methodLink RX4 157 yX4_solve, Cond.instanceMethod yX4_solve, Cond.selects RX4 yX4_solve yX4_solve, Cond.code yX4_solve cX4_solve 3 none, Cond.fieldLink RX4 142 "GridpuzzleModel" "level" "I", Cond.fieldLink RX4 123 "GridpuzzleModel" "hasTaken" "Z", Cond.methodLink RX4 69 yX4_isOpen, Cond.instanceMethod yX4_isOpen, Cond.selects RX4 yX4_isOpen yX4_isOpen, Cond.code yX4_isOpen cX4_isOpen 2 (some .boolean), Cond.fieldLink RX4 13 "GridpuzzleModel" "isBarred" "[Z", Cond.methodLink RX4 55 yX4_isCell, Cond.instanceMethod yX4_isCell, Cond.selects RX4 yX4_isCell yX4_isCell, Cond.code yX4_isCell cX4_isCell 2 (some .boolean), Cond.fieldLink RX4 7 "GridpuzzleModel" "size" "I"]
def wsX4_hint_r2 : List Cond := [Cond.methodLink RX4 51 yX4_in, Cond.static yX4_in, Cond.code yX4_in cX4_in 3 (some .boolean), Cond.methodLink RX4 145 yX4_goThroughSingles, Cond.instanceMethod yX4_goThroughSingles, Cond.selects RX4 yX4_goThroughSingles yX4_goThroughSingles, Cond.code yX4_goThroughSingles cX4_goThroughSingles 5 none, Cond.fieldLink RX4 59 "GridpuzzleModel" "runs" "I", Cond.fieldLink RX4 24 "GridpuzzleModel" "lengths" "[I", Cond.methodLink RX4 79 yX4_cellOf, Cond.instanceMethod yX4_cellOf, Cond.selects RX4 yX4_cellOf yX4_cellOf, Cond.code yX4_cellOf cX4_cellOf 3 (some .int), Cond.fieldLink RX4 21 "GridpuzzleModel" "firsts" "[I", Cond.fieldLink RX4 27 "GridpuzzleModel" "steps" "[I", Cond.methodLink RX4 126 yX4_isSingle, Cond.static yX4_isSingle, Cond.code yX4_isSingle cX4_isSingle 1 (some .boolean), Cond.methodLink RX4 129 yX4_take, Cond.instanceMethod yX4_take, Cond.selects RX4 yX4_take yX4_take, Cond.code yX4_take cX4_take 3 none, Cond.methodLink RX4 148 yX4_goThroughSets, Cond.instanceMethod yX4_goThroughSets]
def wsX4_hint_r3 : List Cond := [Cond.selects RX4 yX4_goThroughSets yX4_goThroughSets, Cond.code yX4_goThroughSets cX4_goThroughSets 6 none, Cond.fieldLink RX4 30 "GridpuzzleModel" "sums" "[I", Cond.methodLink RX4 133 yX4_bits, Cond.static yX4_bits, Cond.code yX4_bits cX4_bits 3 (some .int), Cond.methodLink RX4 136 yX4_sumOfSet, Cond.static yX4_sumOfSet, Cond.code yX4_sumOfSet cX4_sumOfSet 3 (some .int), Cond.methodLink RX4 151 yX4_goThroughRows, Cond.instanceMethod yX4_goThroughRows, Cond.selects RX4 yX4_goThroughRows yX4_goThroughRows, Cond.code yX4_goThroughRows cX4_goThroughRows 5 none, Cond.methodLink RX4 139 yX4_canBe, Cond.instanceMethod yX4_canBe, Cond.selects RX4 yX4_canBe yX4_canBe, Cond.code yX4_canBe cX4_canBe 11 (some .boolean), Cond.methodLink RX4 154 yX4_isDead, Cond.instanceMethod yX4_isDead, Cond.selects RX4 yX4_isDead yX4_isDead, Cond.code yX4_isDead cX4_isDead 3 (some .boolean)]
def wsX4_hint : List Cond := .code yX4_hint cX4_hint 3 (some .int) :: ((wsX4_hint_r1 ++ (wsX4_hint_r2 ++ wsX4_hint_r3)) ++ wsX40)
def wsX4_hintRules_r1 : List Cond := [Cond.fieldLink RX4 48 "GridpuzzleModel" "thrown" "I", Cond.methodLink RX4 160 yX4_find, Cond.instanceMethod yX4_find, Cond.selects RX4 yX4_find yX4_find, Cond.initialized RX4, Cond.code yX4_find cX4_find 3 (some .int), Cond.fieldLink RX4 17 "GridpuzzleModel" "given" "[I", Cond.fieldLink RX4 42 "GridpuzzleModel" "candidates" "[I", Cond.methodLink RX4 157 yX4_solve, Cond.instanceMethod yX4_solve, Cond.selects RX4 yX4_solve yX4_solve, Cond.code yX4_solve cX4_solve 3 none, Cond.fieldLink RX4 142 "GridpuzzleModel" "level" "I", Cond.fieldLink RX4 123 "GridpuzzleModel" "hasTaken" "Z", Cond.methodLink RX4 69 yX4_isOpen, Cond.instanceMethod yX4_isOpen, Cond.selects RX4 yX4_isOpen yX4_isOpen, Cond.code yX4_isOpen cX4_isOpen 2 (some .boolean), Cond.fieldLink RX4 13 "GridpuzzleModel" "isBarred" "[Z", Cond.methodLink RX4 55 yX4_isCell, Cond.instanceMethod yX4_isCell, Cond.selects RX4 yX4_isCell yX4_isCell, Cond.code yX4_isCell cX4_isCell 2 (some .boolean), Cond.fieldLink RX4 7 "GridpuzzleModel" "size" "I"]
def wsX4_hintRules_r2 : List Cond := [Cond.methodLink RX4 51 yX4_in, Cond.static yX4_in, Cond.code yX4_in cX4_in 3 (some .boolean), Cond.methodLink RX4 145 yX4_goThroughSingles, Cond.instanceMethod yX4_goThroughSingles, Cond.selects RX4 yX4_goThroughSingles yX4_goThroughSingles, Cond.code yX4_goThroughSingles cX4_goThroughSingles 5 none, Cond.fieldLink RX4 59 "GridpuzzleModel" "runs" "I", Cond.fieldLink RX4 24 "GridpuzzleModel" "lengths" "[I", Cond.methodLink RX4 79 yX4_cellOf, Cond.instanceMethod yX4_cellOf, Cond.selects RX4 yX4_cellOf yX4_cellOf, Cond.code yX4_cellOf cX4_cellOf 3 (some .int), Cond.fieldLink RX4 21 "GridpuzzleModel" "firsts" "[I", Cond.fieldLink RX4 27 "GridpuzzleModel" "steps" "[I", Cond.methodLink RX4 126 yX4_isSingle, Cond.static yX4_isSingle, Cond.code yX4_isSingle cX4_isSingle 1 (some .boolean), Cond.methodLink RX4 129 yX4_take, Cond.instanceMethod yX4_take, Cond.selects RX4 yX4_take yX4_take, Cond.code yX4_take cX4_take 3 none, Cond.methodLink RX4 148 yX4_goThroughSets, Cond.instanceMethod yX4_goThroughSets]
def wsX4_hintRules_r3 : List Cond := [Cond.selects RX4 yX4_goThroughSets yX4_goThroughSets, Cond.code yX4_goThroughSets cX4_goThroughSets 6 none, Cond.fieldLink RX4 30 "GridpuzzleModel" "sums" "[I", Cond.methodLink RX4 133 yX4_bits, Cond.static yX4_bits, Cond.code yX4_bits cX4_bits 3 (some .int), Cond.methodLink RX4 136 yX4_sumOfSet, Cond.static yX4_sumOfSet, Cond.code yX4_sumOfSet cX4_sumOfSet 3 (some .int), Cond.methodLink RX4 151 yX4_goThroughRows, Cond.instanceMethod yX4_goThroughRows, Cond.selects RX4 yX4_goThroughRows yX4_goThroughRows, Cond.code yX4_goThroughRows cX4_goThroughRows 5 none, Cond.methodLink RX4 139 yX4_canBe, Cond.instanceMethod yX4_canBe, Cond.selects RX4 yX4_canBe yX4_canBe, Cond.code yX4_canBe cX4_canBe 11 (some .boolean), Cond.methodLink RX4 154 yX4_isDead, Cond.instanceMethod yX4_isDead, Cond.selects RX4 yX4_isDead yX4_isDead, Cond.code yX4_isDead cX4_isDead 3 (some .boolean)]
def wsX4_hintRules : List Cond := .code yX4_hintRules cX4_hintRules 2 (some .int) :: ((wsX4_hintRules_r1 ++ (wsX4_hintRules_r2 ++ wsX4_hintRules_r3)) ++ wsX40)
def wsJ9_max_7cf53 : List Cond := .code yJ9_max_7cf53 cJ9_max_7cf53 2 (some .int) :: ([])
def wsL_begin_r1 : List Cond := [Cond.classLink RL 13 "java/lang/IllegalArgumentException", Cond.methodLink RL 7 yX3_begin, Cond.instanceMethod yX3_begin, Cond.selects RX3 yX3_begin yX3_begin, Cond.initialized RX3, Cond.code yX3_begin cX3_begin 2 none, Cond.classLink RX3 36 "java/lang/IllegalArgumentException", Cond.initialized "java/lang/IllegalArgumentException", Cond.fieldLink RX3 12 "Gridpuzzle" "board" "LGridpuzzle$Board;", Cond.methodLink RX3 32 yX0_clear, Cond.instanceMethod yX0_clear, Cond.selects RX0 yX0_clear yX0_clear, Cond.initialized RX0, Cond.code yX0_clear cX0_clear 2 none, Cond.fieldLink RX0 33 "Gridpuzzle$Board" "size" "I", Cond.fieldLink RX0 9 "Gridpuzzle$Board" "givens" "[I", Cond.methodLink RX0 37 yJ7_fill_53178, Cond.static yJ7_fill_53178, Cond.initialized RJ7, Cond.code yJ7_fill_53178 cJ7_fill_53178 4 none, Cond.methodLink RX0 43 yX0_findRuns, Cond.instanceMethod yX0_findRuns, Cond.selects RX0 yX0_findRuns yX0_findRuns, Cond.code yX0_findRuns cX0_findRuns 2 none]
def wsL_begin_r2 : List Cond := [Cond.fieldLink RX0 68 "Gridpuzzle$Board" "runCount" "I", Cond.fieldLink RX0 24 "Gridpuzzle$Board" "sums" "[I", Cond.fieldLink RX0 27 "Gridpuzzle$Board" "rowRuns" "[I", Cond.fieldLink RX0 30 "Gridpuzzle$Board" "columnRuns" "[I", Cond.methodLink RX0 71 yX0_findRunsOfLine, Cond.instanceMethod yX0_findRunsOfLine, Cond.selects RX0 yX0_findRunsOfLine yX0_findRunsOfLine, Cond.code yX0_findRunsOfLine cX0_findRunsOfLine 5 none, Cond.methodLink RX0 58 yX0_isOpen, Cond.instanceMethod yX0_isOpen, Cond.selects RX0 yX0_isOpen yX0_isOpen, Cond.code yX0_isOpen cX0_isOpen 2 (some .boolean), Cond.methodLink RX0 46 yX0_hasCell, Cond.instanceMethod yX0_hasCell, Cond.selects RX0 yX0_hasCell yX0_hasCell, Cond.code yX0_hasCell cX0_hasCell 2 (some .boolean), Cond.static yX3_at, Cond.code yX3_at cX3_at 2 (some .int), Cond.methodLink RX0 75 yX0_addRun, Cond.instanceMethod yX0_addRun, Cond.selects RX0 yX0_addRun yX0_addRun, Cond.code yX0_addRun cX0_addRun 5 none, Cond.fieldLink RX0 15 "Gridpuzzle$Board" "firsts" "[I", Cond.fieldLink RX0 18 "Gridpuzzle$Board" "steps" "[I"]
def wsL_begin_r3 : List Cond := [Cond.fieldLink RX0 21 "Gridpuzzle$Board" "lengths" "[I", Cond.static yX3_put, Cond.code yX3_put cX3_put 3 none]
def wsL_begin : List Cond := .codeWith yL_begin cL_begin 3 (some .int) [(0, 5, 8, 13)] :: ((wsL_begin_r1 ++ (wsL_begin_r2 ++ wsL_begin_r3)) ++ wsX30 ++ wsX00 ++ (vx_atS RX3 40 "java/lang/IllegalArgumentException" ["java/lang/RuntimeException", "java/lang/Exception"]).filter goodWord)
def wsL_bar_r1 : List Cond := [Cond.classLink RL 19 "java/lang/IndexOutOfBoundsException", Cond.methodLink RL 15 yX3_bar, Cond.instanceMethod yX3_bar, Cond.selects RX3 yX3_bar yX3_bar, Cond.initialized RX3, Cond.code yX3_bar cX3_bar 2 (some .boolean), Cond.fieldLink RX3 12 "Gridpuzzle" "board" "LGridpuzzle$Board;", Cond.methodLink RX3 43 yX3_needCell, Cond.instanceMethod yX3_needCell, Cond.selects RX3 yX3_needCell yX3_needCell, Cond.code yX3_needCell cX3_needCell 2 none, Cond.classLink RX3 156 "java/lang/IndexOutOfBoundsException", Cond.initialized "java/lang/IndexOutOfBoundsException", Cond.methodLink RX3 153 yX0_hasCell, Cond.instanceMethod yX0_hasCell, Cond.selects RX0 yX0_hasCell yX0_hasCell, Cond.initialized RX0, Cond.code yX0_hasCell cX0_hasCell 2 (some .boolean), Cond.fieldLink RX0 33 "Gridpuzzle$Board" "size" "I", Cond.methodLink RX3 46 yX0_turn, Cond.instanceMethod yX0_turn, Cond.selects RX0 yX0_turn yX0_turn, Cond.code yX0_turn cX0_turn 2 none, Cond.fieldLink RX0 9 "Gridpuzzle$Board" "givens" "[I"]
def wsL_bar_r2 : List Cond := [Cond.methodLink RX0 58 yX0_isOpen, Cond.instanceMethod yX0_isOpen, Cond.selects RX0 yX0_isOpen yX0_isOpen, Cond.code yX0_isOpen cX0_isOpen 2 (some .boolean), Cond.methodLink RX0 46 yX0_hasCell, Cond.static yX3_at, Cond.code yX3_at cX3_at 2 (some .int), Cond.static yX3_put, Cond.code yX3_put cX3_put 3 none, Cond.methodLink RX0 43 yX0_findRuns, Cond.instanceMethod yX0_findRuns, Cond.selects RX0 yX0_findRuns yX0_findRuns, Cond.code yX0_findRuns cX0_findRuns 2 none, Cond.fieldLink RX0 68 "Gridpuzzle$Board" "runCount" "I", Cond.fieldLink RX0 24 "Gridpuzzle$Board" "sums" "[I", Cond.fieldLink RX0 27 "Gridpuzzle$Board" "rowRuns" "[I", Cond.fieldLink RX0 30 "Gridpuzzle$Board" "columnRuns" "[I", Cond.methodLink RX0 37 yJ7_fill_53178, Cond.static yJ7_fill_53178, Cond.initialized RJ7, Cond.code yJ7_fill_53178 cJ7_fill_53178 4 none, Cond.methodLink RX0 71 yX0_findRunsOfLine, Cond.instanceMethod yX0_findRunsOfLine, Cond.selects RX0 yX0_findRunsOfLine yX0_findRunsOfLine]
def wsL_bar_r3 : List Cond := [Cond.code yX0_findRunsOfLine cX0_findRunsOfLine 5 none, Cond.methodLink RX0 75 yX0_addRun, Cond.instanceMethod yX0_addRun, Cond.selects RX0 yX0_addRun yX0_addRun, Cond.code yX0_addRun cX0_addRun 5 none, Cond.fieldLink RX0 15 "Gridpuzzle$Board" "firsts" "[I", Cond.fieldLink RX0 18 "Gridpuzzle$Board" "steps" "[I", Cond.fieldLink RX0 21 "Gridpuzzle$Board" "lengths" "[I", Cond.methodLink RX3 49 yX0_isOpen]
def wsL_bar : List Cond := .codeWith yL_bar cL_bar 4 (some .int) [(0, 16, 19, 19)] :: ((wsL_bar_r1 ++ (wsL_bar_r2 ++ wsL_bar_r3)) ++ wsX30 ++ wsX00 ++ (vx_atS RX3 160 "java/lang/IndexOutOfBoundsException" ["java/lang/RuntimeException", "java/lang/Exception"]).filter goodWord)
def wsL_barBoth_r1 : List Cond := [Cond.classLink RL 19 "java/lang/IndexOutOfBoundsException", Cond.methodLink RL 21 yX3_barBoth, Cond.instanceMethod yX3_barBoth, Cond.selects RX3 yX3_barBoth yX3_barBoth, Cond.initialized RX3, Cond.code yX3_barBoth cX3_barBoth 3 (some .int), Cond.fieldLink RX3 12 "Gridpuzzle" "board" "LGridpuzzle$Board;", Cond.methodLink RX3 43 yX3_needCell, Cond.instanceMethod yX3_needCell, Cond.selects RX3 yX3_needCell yX3_needCell, Cond.code yX3_needCell cX3_needCell 2 none, Cond.classLink RX3 156 "java/lang/IndexOutOfBoundsException", Cond.initialized "java/lang/IndexOutOfBoundsException", Cond.methodLink RX3 153 yX0_hasCell, Cond.instanceMethod yX0_hasCell, Cond.selects RX0 yX0_hasCell yX0_hasCell, Cond.initialized RX0, Cond.code yX0_hasCell cX0_hasCell 2 (some .boolean), Cond.fieldLink RX0 33 "Gridpuzzle$Board" "size" "I", Cond.methodLink RX3 53 yX0_oppositeOf, Cond.instanceMethod yX0_oppositeOf, Cond.selects RX0 yX0_oppositeOf yX0_oppositeOf, Cond.code yX0_oppositeOf cX0_oppositeOf 4 (some .int), Cond.methodLink RX3 46 yX0_turn]
def wsL_barBoth_r2 : List Cond := [Cond.instanceMethod yX0_turn, Cond.selects RX0 yX0_turn yX0_turn, Cond.code yX0_turn cX0_turn 2 none, Cond.fieldLink RX0 9 "Gridpuzzle$Board" "givens" "[I", Cond.methodLink RX0 58 yX0_isOpen, Cond.instanceMethod yX0_isOpen, Cond.selects RX0 yX0_isOpen yX0_isOpen, Cond.code yX0_isOpen cX0_isOpen 2 (some .boolean), Cond.methodLink RX0 46 yX0_hasCell, Cond.static yX3_at, Cond.code yX3_at cX3_at 2 (some .int), Cond.static yX3_put, Cond.code yX3_put cX3_put 3 none, Cond.methodLink RX0 43 yX0_findRuns, Cond.instanceMethod yX0_findRuns, Cond.selects RX0 yX0_findRuns yX0_findRuns, Cond.code yX0_findRuns cX0_findRuns 2 none, Cond.fieldLink RX0 68 "Gridpuzzle$Board" "runCount" "I", Cond.fieldLink RX0 24 "Gridpuzzle$Board" "sums" "[I", Cond.fieldLink RX0 27 "Gridpuzzle$Board" "rowRuns" "[I", Cond.fieldLink RX0 30 "Gridpuzzle$Board" "columnRuns" "[I", Cond.methodLink RX0 37 yJ7_fill_53178, Cond.static yJ7_fill_53178, Cond.initialized RJ7]
def wsL_barBoth_r3 : List Cond := [Cond.code yJ7_fill_53178 cJ7_fill_53178 4 none, Cond.methodLink RX0 71 yX0_findRunsOfLine, Cond.instanceMethod yX0_findRunsOfLine, Cond.selects RX0 yX0_findRunsOfLine yX0_findRunsOfLine, Cond.code yX0_findRunsOfLine cX0_findRunsOfLine 5 none, Cond.methodLink RX0 75 yX0_addRun, Cond.instanceMethod yX0_addRun, Cond.selects RX0 yX0_addRun yX0_addRun, Cond.code yX0_addRun cX0_addRun 5 none, Cond.fieldLink RX0 15 "Gridpuzzle$Board" "firsts" "[I", Cond.fieldLink RX0 18 "Gridpuzzle$Board" "steps" "[I", Cond.fieldLink RX0 21 "Gridpuzzle$Board" "lengths" "[I", Cond.methodLink RX3 57 yX0_countBarred, Cond.instanceMethod yX0_countBarred, Cond.selects RX0 yX0_countBarred yX0_countBarred, Cond.code yX0_countBarred cX0_countBarred 1 (some .int), Cond.methodLink RX0 61 yX0_countOpen, Cond.instanceMethod yX0_countOpen, Cond.selects RX0 yX0_countOpen yX0_countOpen, Cond.code yX0_countOpen cX0_countOpen 3 (some .int)]
def wsL_barBoth : List Cond := .codeWith yL_barBoth cL_barBoth 4 (some .int) [(0, 9, 12, 19)] :: ((wsL_barBoth_r1 ++ (wsL_barBoth_r2 ++ wsL_barBoth_r3)) ++ wsX30 ++ wsX00 ++ (vx_atS RX3 160 "java/lang/IndexOutOfBoundsException" ["java/lang/RuntimeException", "java/lang/Exception"]).filter goodWord)
def wsL_give_r1 : List Cond := [Cond.classLink RL 19 "java/lang/IndexOutOfBoundsException", Cond.classLink RL 13 "java/lang/IllegalArgumentException", Cond.classLink RL 29 "java/lang/IllegalStateException", Cond.methodLink RL 25 yX3_give, Cond.instanceMethod yX3_give, Cond.selects RX3 yX3_give yX3_give, Cond.initialized RX3, Cond.code yX3_give cX3_give 4 (some .int), Cond.classLink RX3 36 "java/lang/IllegalArgumentException", Cond.initialized "java/lang/IllegalArgumentException", Cond.classLink RX3 63 "java/lang/IllegalStateException", Cond.initialized "java/lang/IllegalStateException", Cond.fieldLink RX3 12 "Gridpuzzle" "board" "LGridpuzzle$Board;", Cond.methodLink RX3 43 yX3_needCell, Cond.instanceMethod yX3_needCell, Cond.selects RX3 yX3_needCell yX3_needCell, Cond.code yX3_needCell cX3_needCell 2 none, Cond.classLink RX3 156 "java/lang/IndexOutOfBoundsException", Cond.initialized "java/lang/IndexOutOfBoundsException", Cond.methodLink RX3 153 yX0_hasCell, Cond.instanceMethod yX0_hasCell, Cond.selects RX0 yX0_hasCell yX0_hasCell, Cond.initialized RX0, Cond.code yX0_hasCell cX0_hasCell 2 (some .boolean)]
def wsL_give_r2 : List Cond := [Cond.fieldLink RX0 33 "Gridpuzzle$Board" "size" "I", Cond.methodLink RX3 49 yX0_isOpen, Cond.instanceMethod yX0_isOpen, Cond.selects RX0 yX0_isOpen yX0_isOpen, Cond.code yX0_isOpen cX0_isOpen 2 (some .boolean), Cond.fieldLink RX0 9 "Gridpuzzle$Board" "givens" "[I", Cond.methodLink RX0 46 yX0_hasCell, Cond.static yX3_at, Cond.code yX3_at cX3_at 2 (some .int), Cond.methodLink RX3 68 yX0_givenAt, Cond.instanceMethod yX0_givenAt, Cond.selects RX0 yX0_givenAt yX0_givenAt, Cond.code yX0_givenAt cX0_givenAt 2 (some .int), Cond.methodLink RX3 71 yX0_putGiven, Cond.instanceMethod yX0_putGiven, Cond.selects RX0 yX0_putGiven yX0_putGiven, Cond.code yX0_putGiven cX0_putGiven 3 none, Cond.static yX3_put, Cond.code yX3_put cX3_put 3 none]
def wsL_give : List Cond := .codeWith yL_give cL_give 5 (some .int) [(0, 10, 13, 19), (0, 10, 17, 13), (0, 10, 21, 29)] :: ((wsL_give_r1 ++ wsL_give_r2) ++ wsX30 ++ wsX00 ++ (vx_atS RX3 40 "java/lang/IllegalArgumentException" ["java/lang/RuntimeException", "java/lang/Exception"]).filter goodWord ++ (vx_atS RX3 67 "java/lang/IllegalStateException" ["java/lang/RuntimeException", "java/lang/Exception"]).filter goodWord ++ (vx_atS RX3 160 "java/lang/IndexOutOfBoundsException" ["java/lang/RuntimeException", "java/lang/Exception"]).filter goodWord)
def wsL_setSum_r1 : List Cond := [Cond.classLink RL 19 "java/lang/IndexOutOfBoundsException", Cond.classLink RL 13 "java/lang/IllegalArgumentException", Cond.methodLink RL 31 yX3_setSum, Cond.instanceMethod yX3_setSum, Cond.selects RX3 yX3_setSum yX3_setSum, Cond.initialized RX3, Cond.code yX3_setSum cX3_setSum 4 (some .int), Cond.classLink RX3 36 "java/lang/IllegalArgumentException", Cond.initialized "java/lang/IllegalArgumentException", Cond.fieldLink RX3 12 "Gridpuzzle" "board" "LGridpuzzle$Board;", Cond.methodLink RX3 75 yX3_needRun, Cond.instanceMethod yX3_needRun, Cond.selects RX3 yX3_needRun yX3_needRun, Cond.code yX3_needRun cX3_needRun 2 none, Cond.classLink RX3 156 "java/lang/IndexOutOfBoundsException", Cond.initialized "java/lang/IndexOutOfBoundsException", Cond.methodLink RX3 161 yX0_hasRun, Cond.instanceMethod yX0_hasRun, Cond.selects RX0 yX0_hasRun yX0_hasRun, Cond.initialized RX0, Cond.code yX0_hasRun cX0_hasRun 2 (some .boolean), Cond.fieldLink RX0 68 "Gridpuzzle$Board" "runCount" "I", Cond.methodLink RX3 80 yX0_sumAt, Cond.instanceMethod yX0_sumAt]
def wsL_setSum_r2 : List Cond := [Cond.selects RX0 yX0_sumAt yX0_sumAt, Cond.code yX0_sumAt cX0_sumAt 2 (some .int), Cond.fieldLink RX0 24 "Gridpuzzle$Board" "sums" "[I", Cond.static yX3_at, Cond.code yX3_at cX3_at 2 (some .int), Cond.methodLink RX3 83 yX0_putSum, Cond.instanceMethod yX0_putSum, Cond.selects RX0 yX0_putSum yX0_putSum, Cond.code yX0_putSum cX0_putSum 3 none, Cond.static yX3_put, Cond.code yX3_put cX3_put 3 none]
def wsL_setSum : List Cond := .codeWith yL_setSum cL_setSum 5 (some .int) [(0, 10, 13, 19), (0, 10, 17, 13)] :: ((wsL_setSum_r1 ++ wsL_setSum_r2) ++ wsX30 ++ wsX00 ++ (vx_atS RX3 40 "java/lang/IllegalArgumentException" ["java/lang/RuntimeException", "java/lang/Exception"]).filter goodWord ++ (vx_atS RX3 160 "java/lang/IndexOutOfBoundsException" ["java/lang/RuntimeException", "java/lang/Exception"]).filter goodWord)
def wsL_press_r1 : List Cond := [Cond.classLink RL 29 "java/lang/IllegalStateException", Cond.methodLink RL 34 yX3_press, Cond.instanceMethod yX3_press, Cond.selects RX3 yX3_press yX3_press, Cond.initialized RX3, Cond.code yX3_press cX3_press 1 (some .int), Cond.classLink RX3 63 "java/lang/IllegalStateException", Cond.initialized "java/lang/IllegalStateException", Cond.fieldLink RX3 12 "Gridpuzzle" "board" "LGridpuzzle$Board;", Cond.methodLink RX3 86 yX0_isFilled, Cond.instanceMethod yX0_isFilled, Cond.selects RX0 yX0_isFilled yX0_isFilled, Cond.initialized RX0, Cond.code yX0_isFilled cX0_isFilled 1 (some .boolean), Cond.methodLink RX0 79 yX0_countBlanks, Cond.instanceMethod yX0_countBlanks, Cond.selects RX0 yX0_countBlanks yX0_countBlanks, Cond.code yX0_countBlanks cX0_countBlanks 3 (some .int), Cond.methodLink RX0 65 yX0_isBlank, Cond.instanceMethod yX0_isBlank, Cond.selects RX0 yX0_isBlank yX0_isBlank, Cond.code yX0_isBlank cX0_isBlank 2 (some .boolean), Cond.fieldLink RX0 9 "Gridpuzzle$Board" "givens" "[I", Cond.methodLink RX0 46 yX0_hasCell]
def wsL_press_r2 : List Cond := [Cond.instanceMethod yX0_hasCell, Cond.selects RX0 yX0_hasCell yX0_hasCell, Cond.code yX0_hasCell cX0_hasCell 2 (some .boolean), Cond.fieldLink RX0 33 "Gridpuzzle$Board" "size" "I", Cond.static yX3_at, Cond.code yX3_at cX3_at 2 (some .int), Cond.methodLink RX3 92 yX0_givesTwice, Cond.instanceMethod yX0_givesTwice, Cond.selects RX0 yX0_givesTwice yX0_givesTwice, Cond.code yX0_givesTwice cX0_givesTwice 2 (some .boolean), Cond.fieldLink RX0 68 "Gridpuzzle$Board" "runCount" "I", Cond.methodLink RX0 82 yX0_hasTwice, Cond.instanceMethod yX0_hasTwice, Cond.selects RX0 yX0_hasTwice yX0_hasTwice, Cond.code yX0_hasTwice cX0_hasTwice 7 (some .boolean), Cond.methodLink RX0 94 yX0_lengthAt, Cond.instanceMethod yX0_lengthAt, Cond.selects RX0 yX0_lengthAt yX0_lengthAt, Cond.code yX0_lengthAt cX0_lengthAt 2 (some .int), Cond.fieldLink RX0 21 "Gridpuzzle$Board" "lengths" "[I", Cond.methodLink RX0 97 yX0_cellAt, Cond.instanceMethod yX0_cellAt, Cond.selects RX0 yX0_cellAt yX0_cellAt, Cond.code yX0_cellAt cX0_cellAt 3 (some .int)]
def wsL_press_r3 : List Cond := [Cond.fieldLink RX0 15 "Gridpuzzle$Board" "firsts" "[I", Cond.fieldLink RX0 18 "Gridpuzzle$Board" "steps" "[I", Cond.methodLink RX3 97 yX0_sumAndEmpty, Cond.instanceMethod yX0_sumAndEmpty, Cond.selects RX0 yX0_sumAndEmpty yX0_sumAndEmpty, Cond.code yX0_sumAndEmpty cX0_sumAndEmpty 2 none, Cond.fieldLink RX0 24 "Gridpuzzle$Board" "sums" "[I", Cond.methodLink RX0 86 yX0_totalOf, Cond.instanceMethod yX0_totalOf, Cond.selects RX0 yX0_totalOf yX0_totalOf, Cond.code yX0_totalOf cX0_totalOf 6 (some .int), Cond.static yX3_put, Cond.code yX3_put cX3_put 3 none, Cond.methodLink RX0 58 yX0_isOpen, Cond.instanceMethod yX0_isOpen, Cond.selects RX0 yX0_isOpen yX0_isOpen, Cond.code yX0_isOpen cX0_isOpen 2 (some .boolean), Cond.methodLink RX3 100 yX0_countRuns, Cond.instanceMethod yX0_countRuns, Cond.selects RX0 yX0_countRuns yX0_countRuns, Cond.code yX0_countRuns cX0_countRuns 1 (some .int)]
def wsL_press : List Cond := .codeWith yL_press cL_press 3 (some .int) [(0, 8, 11, 29)] :: ((wsL_press_r1 ++ (wsL_press_r2 ++ wsL_press_r3)) ++ wsX30 ++ wsX00 ++ (vx_atS RX3 67 "java/lang/IllegalStateException" ["java/lang/RuntimeException", "java/lang/Exception"]).filter goodWord)
def wsL_firstOf_r1 : List Cond := [Cond.classLink RL 19 "java/lang/IndexOutOfBoundsException", Cond.methodLink RL 38 yX3_firstOf, Cond.instanceMethod yX3_firstOf, Cond.selects RX3 yX3_firstOf yX3_firstOf, Cond.initialized RX3, Cond.code yX3_firstOf cX3_firstOf 2 (some .int), Cond.fieldLink RX3 12 "Gridpuzzle" "board" "LGridpuzzle$Board;", Cond.methodLink RX3 75 yX3_needRun, Cond.instanceMethod yX3_needRun, Cond.selects RX3 yX3_needRun yX3_needRun, Cond.code yX3_needRun cX3_needRun 2 none, Cond.classLink RX3 156 "java/lang/IndexOutOfBoundsException", Cond.initialized "java/lang/IndexOutOfBoundsException", Cond.methodLink RX3 161 yX0_hasRun, Cond.instanceMethod yX0_hasRun, Cond.selects RX0 yX0_hasRun yX0_hasRun, Cond.initialized RX0, Cond.code yX0_hasRun cX0_hasRun 2 (some .boolean), Cond.fieldLink RX0 68 "Gridpuzzle$Board" "runCount" "I", Cond.methodLink RX3 106 yX0_firstAt, Cond.instanceMethod yX0_firstAt, Cond.selects RX0 yX0_firstAt yX0_firstAt, Cond.code yX0_firstAt cX0_firstAt 2 (some .int), Cond.fieldLink RX0 15 "Gridpuzzle$Board" "firsts" "[I"]
def wsL_firstOf_r2 : List Cond := [Cond.static yX3_at, Cond.code yX3_at cX3_at 2 (some .int)]
def wsL_firstOf : List Cond := .codeWith yL_firstOf cL_firstOf 4 (some .int) [(0, 9, 12, 19)] :: ((wsL_firstOf_r1 ++ wsL_firstOf_r2) ++ wsX30 ++ wsX00 ++ (vx_atS RX3 160 "java/lang/IndexOutOfBoundsException" ["java/lang/RuntimeException", "java/lang/Exception"]).filter goodWord)
def wsL_lengthOf_r1 : List Cond := [Cond.classLink RL 19 "java/lang/IndexOutOfBoundsException", Cond.methodLink RL 41 yX3_lengthOf, Cond.instanceMethod yX3_lengthOf, Cond.selects RX3 yX3_lengthOf yX3_lengthOf, Cond.initialized RX3, Cond.code yX3_lengthOf cX3_lengthOf 2 (some .int), Cond.fieldLink RX3 12 "Gridpuzzle" "board" "LGridpuzzle$Board;", Cond.methodLink RX3 75 yX3_needRun, Cond.instanceMethod yX3_needRun, Cond.selects RX3 yX3_needRun yX3_needRun, Cond.code yX3_needRun cX3_needRun 2 none, Cond.classLink RX3 156 "java/lang/IndexOutOfBoundsException", Cond.initialized "java/lang/IndexOutOfBoundsException", Cond.methodLink RX3 161 yX0_hasRun, Cond.instanceMethod yX0_hasRun, Cond.selects RX0 yX0_hasRun yX0_hasRun, Cond.initialized RX0, Cond.code yX0_hasRun cX0_hasRun 2 (some .boolean), Cond.fieldLink RX0 68 "Gridpuzzle$Board" "runCount" "I", Cond.methodLink RX3 109 yX0_lengthAt, Cond.instanceMethod yX0_lengthAt, Cond.selects RX0 yX0_lengthAt yX0_lengthAt, Cond.code yX0_lengthAt cX0_lengthAt 2 (some .int), Cond.fieldLink RX0 21 "Gridpuzzle$Board" "lengths" "[I"]
def wsL_lengthOf_r2 : List Cond := [Cond.static yX3_at, Cond.code yX3_at cX3_at 2 (some .int)]
def wsL_lengthOf : List Cond := .codeWith yL_lengthOf cL_lengthOf 4 (some .int) [(0, 9, 12, 19)] :: ((wsL_lengthOf_r1 ++ wsL_lengthOf_r2) ++ wsX30 ++ wsX00 ++ (vx_atS RX3 160 "java/lang/IndexOutOfBoundsException" ["java/lang/RuntimeException", "java/lang/Exception"]).filter goodWord)
def wsL_sumOf_r1 : List Cond := [Cond.classLink RL 19 "java/lang/IndexOutOfBoundsException", Cond.methodLink RL 44 yX3_sumOf, Cond.instanceMethod yX3_sumOf, Cond.selects RX3 yX3_sumOf yX3_sumOf, Cond.initialized RX3, Cond.code yX3_sumOf cX3_sumOf 2 (some .int), Cond.fieldLink RX3 12 "Gridpuzzle" "board" "LGridpuzzle$Board;", Cond.methodLink RX3 75 yX3_needRun, Cond.instanceMethod yX3_needRun, Cond.selects RX3 yX3_needRun yX3_needRun, Cond.code yX3_needRun cX3_needRun 2 none, Cond.classLink RX3 156 "java/lang/IndexOutOfBoundsException", Cond.initialized "java/lang/IndexOutOfBoundsException", Cond.methodLink RX3 161 yX0_hasRun, Cond.instanceMethod yX0_hasRun, Cond.selects RX0 yX0_hasRun yX0_hasRun, Cond.initialized RX0, Cond.code yX0_hasRun cX0_hasRun 2 (some .boolean), Cond.fieldLink RX0 68 "Gridpuzzle$Board" "runCount" "I", Cond.methodLink RX3 80 yX0_sumAt, Cond.instanceMethod yX0_sumAt, Cond.selects RX0 yX0_sumAt yX0_sumAt, Cond.code yX0_sumAt cX0_sumAt 2 (some .int), Cond.fieldLink RX0 24 "Gridpuzzle$Board" "sums" "[I"]
def wsL_sumOf_r2 : List Cond := [Cond.static yX3_at, Cond.code yX3_at cX3_at 2 (some .int)]
def wsL_sumOf : List Cond := .codeWith yL_sumOf cL_sumOf 4 (some .int) [(0, 9, 12, 19)] :: ((wsL_sumOf_r1 ++ wsL_sumOf_r2) ++ wsX30 ++ wsX00 ++ (vx_atS RX3 160 "java/lang/IndexOutOfBoundsException" ["java/lang/RuntimeException", "java/lang/Exception"]).filter goodWord)
def wsL_digit_r1 : List Cond := [Cond.classLink RL 19 "java/lang/IndexOutOfBoundsException", Cond.methodLink RL 47 yX3_digit, Cond.instanceMethod yX3_digit, Cond.selects RX3 yX3_digit yX3_digit, Cond.initialized RX3, Cond.code yX3_digit cX3_digit 2 (some .int), Cond.fieldLink RX3 12 "Gridpuzzle" "board" "LGridpuzzle$Board;", Cond.methodLink RX3 43 yX3_needCell, Cond.instanceMethod yX3_needCell, Cond.selects RX3 yX3_needCell yX3_needCell, Cond.code yX3_needCell cX3_needCell 2 none, Cond.classLink RX3 156 "java/lang/IndexOutOfBoundsException", Cond.initialized "java/lang/IndexOutOfBoundsException", Cond.methodLink RX3 153 yX0_hasCell, Cond.instanceMethod yX0_hasCell, Cond.selects RX0 yX0_hasCell yX0_hasCell, Cond.initialized RX0, Cond.code yX0_hasCell cX0_hasCell 2 (some .boolean), Cond.fieldLink RX0 33 "Gridpuzzle$Board" "size" "I", Cond.methodLink RX3 68 yX0_givenAt, Cond.instanceMethod yX0_givenAt, Cond.selects RX0 yX0_givenAt yX0_givenAt, Cond.code yX0_givenAt cX0_givenAt 2 (some .int), Cond.fieldLink RX0 9 "Gridpuzzle$Board" "givens" "[I"]
def wsL_digit_r2 : List Cond := [Cond.static yX3_at, Cond.code yX3_at cX3_at 2 (some .int)]
def wsL_digit : List Cond := .codeWith yL_digit cL_digit 4 (some .int) [(0, 9, 12, 19)] :: ((wsL_digit_r1 ++ wsL_digit_r2) ++ wsX30 ++ wsX00 ++ (vx_atS RX3 160 "java/lang/IndexOutOfBoundsException" ["java/lang/RuntimeException", "java/lang/Exception"]).filter goodWord)
def wsL_answers_r1 : List Cond := [Cond.classLink RL 13 "java/lang/IllegalArgumentException", Cond.methodLink RL 50 yX3_answers, Cond.instanceMethod yX3_answers, Cond.selects RX3 yX3_answers yX3_answers, Cond.initialized RX3, Cond.code yX3_answers cX3_answers 2 (some .int), Cond.classLink RX3 36 "java/lang/IllegalArgumentException", Cond.initialized "java/lang/IllegalArgumentException", Cond.fieldLink RX3 21 "Gridpuzzle" "trying" "LGridpuzzle$Trying;", Cond.methodLink RX3 114 yX2_find, Cond.instanceMethod yX2_find, Cond.selects RX2 yX2_find yX2_find, Cond.initialized RX2, Cond.code yX2_find cX2_find 6 (some .int), Cond.fieldLink RX2 31 "Gridpuzzle$Trying" "blankCount" "I", Cond.fieldLink RX2 24 "Gridpuzzle$Trying" "board" "LGridpuzzle$Board;", Cond.fieldLink RX2 18 "Gridpuzzle$Trying" "filling" "[I", Cond.fieldLink RX2 9 "Gridpuzzle$Trying" "blanks" "[I", Cond.methodLink RX2 28 yX2_start, Cond.instanceMethod yX2_start, Cond.selects RX2 yX2_start yX2_start, Cond.code yX2_start cX2_start 2 none, Cond.fieldLink RX2 15 "Gridpuzzle$Trying" "tried" "[I", Cond.static yX3_put]
def wsL_answers_r2 : List Cond := [Cond.code yX3_put cX3_put 3 none, Cond.methodLink RX2 64 yX0_isOpen, Cond.instanceMethod yX0_isOpen, Cond.selects RX0 yX0_isOpen yX0_isOpen, Cond.initialized RX0, Cond.code yX0_isOpen cX0_isOpen 2 (some .boolean), Cond.fieldLink RX0 9 "Gridpuzzle$Board" "givens" "[I", Cond.methodLink RX0 46 yX0_hasCell, Cond.instanceMethod yX0_hasCell, Cond.selects RX0 yX0_hasCell yX0_hasCell, Cond.code yX0_hasCell cX0_hasCell 2 (some .boolean), Cond.fieldLink RX0 33 "Gridpuzzle$Board" "size" "I", Cond.static yX3_at, Cond.code yX3_at cX3_at 2 (some .int), Cond.methodLink RX2 67 yX0_givenAt, Cond.instanceMethod yX0_givenAt, Cond.selects RX0 yX0_givenAt yX0_givenAt, Cond.code yX0_givenAt cX0_givenAt 2 (some .int), Cond.methodLink RX2 70 yX0_isBlank, Cond.instanceMethod yX0_isBlank, Cond.selects RX0 yX0_isBlank yX0_isBlank, Cond.code yX0_isBlank cX0_isBlank 2 (some .boolean), Cond.methodLink RX2 35 yX0_isAnswer, Cond.instanceMethod yX0_isAnswer]
def wsL_answers_r3 : List Cond := [Cond.selects RX0 yX0_isAnswer yX0_isAnswer, Cond.code yX0_isAnswer cX0_isAnswer 4 (some .boolean), Cond.fieldLink RX0 68 "Gridpuzzle$Board" "runCount" "I", Cond.methodLink RX0 90 yX0_sumAt, Cond.instanceMethod yX0_sumAt, Cond.selects RX0 yX0_sumAt yX0_sumAt, Cond.code yX0_sumAt cX0_sumAt 2 (some .int), Cond.fieldLink RX0 24 "Gridpuzzle$Board" "sums" "[I", Cond.methodLink RX0 82 yX0_hasTwice, Cond.instanceMethod yX0_hasTwice, Cond.selects RX0 yX0_hasTwice yX0_hasTwice, Cond.code yX0_hasTwice cX0_hasTwice 7 (some .boolean), Cond.methodLink RX0 94 yX0_lengthAt, Cond.instanceMethod yX0_lengthAt, Cond.selects RX0 yX0_lengthAt yX0_lengthAt, Cond.code yX0_lengthAt cX0_lengthAt 2 (some .int), Cond.fieldLink RX0 21 "Gridpuzzle$Board" "lengths" "[I", Cond.methodLink RX0 97 yX0_cellAt, Cond.instanceMethod yX0_cellAt, Cond.selects RX0 yX0_cellAt yX0_cellAt, Cond.code yX0_cellAt cX0_cellAt 3 (some .int), Cond.fieldLink RX0 15 "Gridpuzzle$Board" "firsts" "[I", Cond.fieldLink RX0 18 "Gridpuzzle$Board" "steps" "[I", Cond.methodLink RX0 86 yX0_totalOf]
def wsL_answers_r4 : List Cond := [Cond.instanceMethod yX0_totalOf, Cond.selects RX0 yX0_totalOf yX0_totalOf, Cond.code yX0_totalOf cX0_totalOf 6 (some .int), Cond.methodLink RX2 45 yX2_tryNext, Cond.instanceMethod yX2_tryNext, Cond.selects RX2 yX2_tryNext yX2_tryNext, Cond.code yX2_tryNext cX2_tryNext 3 (some .boolean), Cond.methodLink RX2 73 yX0_rowRunOf, Cond.instanceMethod yX0_rowRunOf, Cond.selects RX0 yX0_rowRunOf yX0_rowRunOf, Cond.code yX0_rowRunOf cX0_rowRunOf 2 (some .int), Cond.fieldLink RX0 27 "Gridpuzzle$Board" "rowRuns" "[I", Cond.methodLink RX2 76 yX2_suits, Cond.instanceMethod yX2_suits, Cond.selects RX2 yX2_suits yX2_suits, Cond.code yX2_suits cX2_suits 8 (some .boolean), Cond.methodLink RX2 83 yX0_lengthAt, Cond.methodLink RX2 86 yX0_cellAt, Cond.methodLink RX2 90 yX0_sumAt, Cond.methodLink RX2 80 yX0_columnRunOf, Cond.instanceMethod yX0_columnRunOf, Cond.selects RX0 yX0_columnRunOf yX0_columnRunOf, Cond.code yX0_columnRunOf cX0_columnRunOf 2 (some .int), Cond.fieldLink RX0 30 "Gridpuzzle$Board" "columnRuns" "[I"]
def wsL_answers_r5 : List Cond := [Cond.methodLink RX2 49 yX2_keepFirstAnswer, Cond.instanceMethod yX2_keepFirstAnswer, Cond.selects RX2 yX2_keepFirstAnswer yX2_keepFirstAnswer, Cond.code yX2_keepFirstAnswer cX2_keepFirstAnswer 2 none, Cond.fieldLink RX2 21 "Gridpuzzle$Trying" "firstAnswer" "[I", Cond.methodLink RX2 52 yX2_backFrom, Cond.instanceMethod yX2_backFrom, Cond.selects RX2 yX2_backFrom yX2_backFrom, Cond.code yX2_backFrom cX2_backFrom 3 (some .int)]
def wsL_answers : List Cond := .codeWith yL_answers cL_answers 4 (some .int) [(0, 9, 12, 13)] :: ((wsL_answers_r1 ++ (wsL_answers_r2 ++ (wsL_answers_r3 ++ (wsL_answers_r4 ++ wsL_answers_r5)))) ++ wsX30 ++ wsX20 ++ wsX00 ++ (vx_atS RX3 40 "java/lang/IllegalArgumentException" ["java/lang/RuntimeException", "java/lang/Exception"]).filter goodWord)
def wsL_answersByAll_r1 : List Cond := [Cond.classLink RL 29 "java/lang/IllegalStateException", Cond.methodLink RL 53 yX3_answersByAll, Cond.instanceMethod yX3_answersByAll, Cond.selects RX3 yX3_answersByAll yX3_answersByAll, Cond.initialized RX3, Cond.code yX3_answersByAll cX3_answersByAll 1 (some .int), Cond.classLink RX3 63 "java/lang/IllegalStateException", Cond.initialized "java/lang/IllegalStateException", Cond.fieldLink RX3 12 "Gridpuzzle" "board" "LGridpuzzle$Board;", Cond.fieldLink RX3 21 "Gridpuzzle" "trying" "LGridpuzzle$Trying;", Cond.methodLink RX3 117 yX0_countBlanks, Cond.instanceMethod yX0_countBlanks, Cond.selects RX0 yX0_countBlanks yX0_countBlanks, Cond.initialized RX0, Cond.code yX0_countBlanks cX0_countBlanks 3 (some .int), Cond.methodLink RX0 65 yX0_isBlank, Cond.instanceMethod yX0_isBlank, Cond.selects RX0 yX0_isBlank yX0_isBlank, Cond.code yX0_isBlank cX0_isBlank 2 (some .boolean), Cond.fieldLink RX0 9 "Gridpuzzle$Board" "givens" "[I", Cond.methodLink RX0 46 yX0_hasCell, Cond.instanceMethod yX0_hasCell, Cond.selects RX0 yX0_hasCell yX0_hasCell, Cond.code yX0_hasCell cX0_hasCell 2 (some .boolean)]
def wsL_answersByAll_r2 : List Cond := [Cond.fieldLink RX0 33 "Gridpuzzle$Board" "size" "I", Cond.static yX3_at, Cond.code yX3_at cX3_at 2 (some .int), Cond.methodLink RX3 122 yX2_countByAll, Cond.instanceMethod yX2_countByAll, Cond.selects RX2 yX2_countByAll yX2_countByAll, Cond.initialized RX2, Cond.code yX2_countByAll cX2_countByAll 4 (some .int), Cond.fieldLink RX2 31 "Gridpuzzle$Trying" "blankCount" "I", Cond.fieldLink RX2 24 "Gridpuzzle$Trying" "board" "LGridpuzzle$Board;", Cond.fieldLink RX2 18 "Gridpuzzle$Trying" "filling" "[I", Cond.methodLink RX2 28 yX2_start, Cond.instanceMethod yX2_start, Cond.selects RX2 yX2_start yX2_start, Cond.code yX2_start cX2_start 2 none, Cond.fieldLink RX2 15 "Gridpuzzle$Trying" "tried" "[I", Cond.fieldLink RX2 9 "Gridpuzzle$Trying" "blanks" "[I", Cond.static yX3_put, Cond.code yX3_put cX3_put 3 none, Cond.methodLink RX2 64 yX0_isOpen, Cond.instanceMethod yX0_isOpen, Cond.selects RX0 yX0_isOpen yX0_isOpen, Cond.code yX0_isOpen cX0_isOpen 2 (some .boolean), Cond.methodLink RX2 67 yX0_givenAt]
def wsL_answersByAll_r3 : List Cond := [Cond.instanceMethod yX0_givenAt, Cond.selects RX0 yX0_givenAt yX0_givenAt, Cond.code yX0_givenAt cX0_givenAt 2 (some .int), Cond.methodLink RX2 70 yX0_isBlank, Cond.methodLink RX2 56 yX2_fillBy, Cond.instanceMethod yX2_fillBy, Cond.selects RX2 yX2_fillBy yX2_fillBy, Cond.code yX2_fillBy cX2_fillBy 4 none, Cond.methodLink RX2 35 yX0_isAnswer, Cond.instanceMethod yX0_isAnswer, Cond.selects RX0 yX0_isAnswer yX0_isAnswer, Cond.code yX0_isAnswer cX0_isAnswer 4 (some .boolean), Cond.fieldLink RX0 68 "Gridpuzzle$Board" "runCount" "I", Cond.methodLink RX0 90 yX0_sumAt, Cond.instanceMethod yX0_sumAt, Cond.selects RX0 yX0_sumAt yX0_sumAt, Cond.code yX0_sumAt cX0_sumAt 2 (some .int), Cond.fieldLink RX0 24 "Gridpuzzle$Board" "sums" "[I", Cond.methodLink RX0 82 yX0_hasTwice, Cond.instanceMethod yX0_hasTwice, Cond.selects RX0 yX0_hasTwice yX0_hasTwice, Cond.code yX0_hasTwice cX0_hasTwice 7 (some .boolean), Cond.methodLink RX0 94 yX0_lengthAt, Cond.instanceMethod yX0_lengthAt]
def wsL_answersByAll_r4 : List Cond := [Cond.selects RX0 yX0_lengthAt yX0_lengthAt, Cond.code yX0_lengthAt cX0_lengthAt 2 (some .int), Cond.fieldLink RX0 21 "Gridpuzzle$Board" "lengths" "[I", Cond.methodLink RX0 97 yX0_cellAt, Cond.instanceMethod yX0_cellAt, Cond.selects RX0 yX0_cellAt yX0_cellAt, Cond.code yX0_cellAt cX0_cellAt 3 (some .int), Cond.fieldLink RX0 15 "Gridpuzzle$Board" "firsts" "[I", Cond.fieldLink RX0 18 "Gridpuzzle$Board" "steps" "[I", Cond.methodLink RX0 86 yX0_totalOf, Cond.instanceMethod yX0_totalOf, Cond.selects RX0 yX0_totalOf yX0_totalOf, Cond.code yX0_totalOf cX0_totalOf 6 (some .int)]
def wsL_answersByAll : List Cond := .codeWith yL_answersByAll cL_answersByAll 3 (some .int) [(0, 8, 11, 29)] :: ((wsL_answersByAll_r1 ++ (wsL_answersByAll_r2 ++ (wsL_answersByAll_r3 ++ wsL_answersByAll_r4))) ++ wsX30 ++ wsX00 ++ wsX20 ++ (vx_atS RX3 67 "java/lang/IllegalStateException" ["java/lang/RuntimeException", "java/lang/Exception"]).filter goodWord)
def wsL_mend_r1 : List Cond := [Cond.classLink RL 29 "java/lang/IllegalStateException", Cond.methodLink RL 56 yX3_mend, Cond.instanceMethod yX3_mend, Cond.selects RX3 yX3_mend yX3_mend, Cond.initialized RX3, Cond.code yX3_mend cX3_mend 3 (some .int), Cond.classLink RX3 63 "java/lang/IllegalStateException", Cond.initialized "java/lang/IllegalStateException", Cond.fieldLink RX3 21 "Gridpuzzle" "trying" "LGridpuzzle$Trying;", Cond.fieldLink RX3 12 "Gridpuzzle" "board" "LGridpuzzle$Board;", Cond.methodLink RX3 114 yX2_find, Cond.instanceMethod yX2_find, Cond.selects RX2 yX2_find yX2_find, Cond.initialized RX2, Cond.code yX2_find cX2_find 6 (some .int), Cond.fieldLink RX2 31 "Gridpuzzle$Trying" "blankCount" "I", Cond.fieldLink RX2 24 "Gridpuzzle$Trying" "board" "LGridpuzzle$Board;", Cond.fieldLink RX2 18 "Gridpuzzle$Trying" "filling" "[I", Cond.fieldLink RX2 9 "Gridpuzzle$Trying" "blanks" "[I", Cond.methodLink RX2 28 yX2_start, Cond.instanceMethod yX2_start, Cond.selects RX2 yX2_start yX2_start, Cond.code yX2_start cX2_start 2 none, Cond.fieldLink RX2 15 "Gridpuzzle$Trying" "tried" "[I"]
def wsL_mend_r2 : List Cond := [Cond.static yX3_put, Cond.code yX3_put cX3_put 3 none, Cond.methodLink RX2 64 yX0_isOpen, Cond.instanceMethod yX0_isOpen, Cond.selects RX0 yX0_isOpen yX0_isOpen, Cond.initialized RX0, Cond.code yX0_isOpen cX0_isOpen 2 (some .boolean), Cond.fieldLink RX0 9 "Gridpuzzle$Board" "givens" "[I", Cond.methodLink RX0 46 yX0_hasCell, Cond.instanceMethod yX0_hasCell, Cond.selects RX0 yX0_hasCell yX0_hasCell, Cond.code yX0_hasCell cX0_hasCell 2 (some .boolean), Cond.fieldLink RX0 33 "Gridpuzzle$Board" "size" "I", Cond.static yX3_at, Cond.code yX3_at cX3_at 2 (some .int), Cond.methodLink RX2 67 yX0_givenAt, Cond.instanceMethod yX0_givenAt, Cond.selects RX0 yX0_givenAt yX0_givenAt, Cond.code yX0_givenAt cX0_givenAt 2 (some .int), Cond.methodLink RX2 70 yX0_isBlank, Cond.instanceMethod yX0_isBlank, Cond.selects RX0 yX0_isBlank yX0_isBlank, Cond.code yX0_isBlank cX0_isBlank 2 (some .boolean), Cond.methodLink RX2 35 yX0_isAnswer]
def wsL_mend_r3 : List Cond := [Cond.instanceMethod yX0_isAnswer, Cond.selects RX0 yX0_isAnswer yX0_isAnswer, Cond.code yX0_isAnswer cX0_isAnswer 4 (some .boolean), Cond.fieldLink RX0 68 "Gridpuzzle$Board" "runCount" "I", Cond.methodLink RX0 90 yX0_sumAt, Cond.instanceMethod yX0_sumAt, Cond.selects RX0 yX0_sumAt yX0_sumAt, Cond.code yX0_sumAt cX0_sumAt 2 (some .int), Cond.fieldLink RX0 24 "Gridpuzzle$Board" "sums" "[I", Cond.methodLink RX0 82 yX0_hasTwice, Cond.instanceMethod yX0_hasTwice, Cond.selects RX0 yX0_hasTwice yX0_hasTwice, Cond.code yX0_hasTwice cX0_hasTwice 7 (some .boolean), Cond.methodLink RX0 94 yX0_lengthAt, Cond.instanceMethod yX0_lengthAt, Cond.selects RX0 yX0_lengthAt yX0_lengthAt, Cond.code yX0_lengthAt cX0_lengthAt 2 (some .int), Cond.fieldLink RX0 21 "Gridpuzzle$Board" "lengths" "[I", Cond.methodLink RX0 97 yX0_cellAt, Cond.instanceMethod yX0_cellAt, Cond.selects RX0 yX0_cellAt yX0_cellAt, Cond.code yX0_cellAt cX0_cellAt 3 (some .int), Cond.fieldLink RX0 15 "Gridpuzzle$Board" "firsts" "[I", Cond.fieldLink RX0 18 "Gridpuzzle$Board" "steps" "[I"]
def wsL_mend_r4 : List Cond := [Cond.methodLink RX0 86 yX0_totalOf, Cond.instanceMethod yX0_totalOf, Cond.selects RX0 yX0_totalOf yX0_totalOf, Cond.code yX0_totalOf cX0_totalOf 6 (some .int), Cond.methodLink RX2 45 yX2_tryNext, Cond.instanceMethod yX2_tryNext, Cond.selects RX2 yX2_tryNext yX2_tryNext, Cond.code yX2_tryNext cX2_tryNext 3 (some .boolean), Cond.methodLink RX2 73 yX0_rowRunOf, Cond.instanceMethod yX0_rowRunOf, Cond.selects RX0 yX0_rowRunOf yX0_rowRunOf, Cond.code yX0_rowRunOf cX0_rowRunOf 2 (some .int), Cond.fieldLink RX0 27 "Gridpuzzle$Board" "rowRuns" "[I", Cond.methodLink RX2 76 yX2_suits, Cond.instanceMethod yX2_suits, Cond.selects RX2 yX2_suits yX2_suits, Cond.code yX2_suits cX2_suits 8 (some .boolean), Cond.methodLink RX2 83 yX0_lengthAt, Cond.methodLink RX2 86 yX0_cellAt, Cond.methodLink RX2 90 yX0_sumAt, Cond.methodLink RX2 80 yX0_columnRunOf, Cond.instanceMethod yX0_columnRunOf, Cond.selects RX0 yX0_columnRunOf yX0_columnRunOf, Cond.code yX0_columnRunOf cX0_columnRunOf 2 (some .int)]
def wsL_mend_r5 : List Cond := [Cond.fieldLink RX0 30 "Gridpuzzle$Board" "columnRuns" "[I", Cond.methodLink RX2 49 yX2_keepFirstAnswer, Cond.instanceMethod yX2_keepFirstAnswer, Cond.selects RX2 yX2_keepFirstAnswer yX2_keepFirstAnswer, Cond.code yX2_keepFirstAnswer cX2_keepFirstAnswer 2 none, Cond.fieldLink RX2 21 "Gridpuzzle$Trying" "firstAnswer" "[I", Cond.methodLink RX2 52 yX2_backFrom, Cond.instanceMethod yX2_backFrom, Cond.selects RX2 yX2_backFrom yX2_backFrom, Cond.code yX2_backFrom cX2_backFrom 3 (some .int), Cond.methodLink RX3 127 yX2_firstUnlike, Cond.instanceMethod yX2_firstUnlike, Cond.selects RX2 yX2_firstUnlike yX2_firstUnlike, Cond.code yX2_firstUnlike cX2_firstUnlike 2 (some .int), Cond.methodLink RX3 130 yX2_firstAnswerAt, Cond.instanceMethod yX2_firstAnswerAt, Cond.selects RX2 yX2_firstAnswerAt yX2_firstAnswerAt, Cond.code yX2_firstAnswerAt cX2_firstAnswerAt 2 (some .int), Cond.methodLink RX3 71 yX0_putGiven, Cond.instanceMethod yX0_putGiven, Cond.selects RX0 yX0_putGiven yX0_putGiven, Cond.code yX0_putGiven cX0_putGiven 3 none]
def wsL_mend : List Cond := .codeWith yL_mend cL_mend 3 (some .int) [(0, 8, 11, 29)] :: ((wsL_mend_r1 ++ (wsL_mend_r2 ++ (wsL_mend_r3 ++ (wsL_mend_r4 ++ wsL_mend_r5)))) ++ wsX30 ++ wsX20 ++ wsX00 ++ (vx_atS RX3 67 "java/lang/IllegalStateException" ["java/lang/RuntimeException", "java/lang/Exception"]).filter goodWord)
def wsL_candidates_r1 : List Cond := [Cond.classLink RL 19 "java/lang/IndexOutOfBoundsException", Cond.classLink RL 13 "java/lang/IllegalArgumentException", Cond.methodLink RL 59 yX3_candidates, Cond.instanceMethod yX3_candidates, Cond.selects RX3 yX3_candidates yX3_candidates, Cond.initialized RX3, Cond.code yX3_candidates cX3_candidates 3 (some .int), Cond.classLink RX3 36 "java/lang/IllegalArgumentException", Cond.initialized "java/lang/IllegalArgumentException", Cond.fieldLink RX3 28 "Gridpuzzle" "solving" "LGridpuzzle$Solving;", Cond.methodLink RX3 43 yX3_needCell, Cond.instanceMethod yX3_needCell, Cond.selects RX3 yX3_needCell yX3_needCell, Cond.code yX3_needCell cX3_needCell 2 none, Cond.classLink RX3 156 "java/lang/IndexOutOfBoundsException", Cond.initialized "java/lang/IndexOutOfBoundsException", Cond.fieldLink RX3 12 "Gridpuzzle" "board" "LGridpuzzle$Board;", Cond.methodLink RX3 153 yX0_hasCell, Cond.instanceMethod yX0_hasCell, Cond.selects RX0 yX0_hasCell yX0_hasCell, Cond.initialized RX0, Cond.code yX0_hasCell cX0_hasCell 2 (some .boolean), Cond.fieldLink RX0 33 "Gridpuzzle$Board" "size" "I", Cond.methodLink RX3 133 yX1_solve]
def wsL_candidates_r2 : List Cond := [Cond.instanceMethod yX1_solve, Cond.selects RX1 yX1_solve yX1_solve, Cond.initialized RX1, Cond.code yX1_solve cX1_solve 4 none, Cond.fieldLink RX1 29 "Gridpuzzle$Solving" "tookAway" "Z", Cond.fieldLink RX1 33 "Gridpuzzle$Solving" "greatest" "I", Cond.methodLink RX1 37 Lib.Math.max.name, Cond.static Lib.Math.max.name, Cond.initialized "java/lang/Math", Cond.code Lib.Math.max.name Lib.Math.max.code 2 (some .int), Cond.methodLink RX1 22 yX1_start, Cond.instanceMethod yX1_start, Cond.selects RX1 yX1_start yX1_start, Cond.code yX1_start cX1_start 2 none, Cond.fieldLink RX1 9 "Gridpuzzle$Solving" "sets" "[I", Cond.methodLink RX1 70 yX1_firstSetOf, Cond.instanceMethod yX1_firstSetOf, Cond.selects RX1 yX1_firstSetOf yX1_firstSetOf, Cond.code yX1_firstSetOf cX1_firstSetOf 2 (some .int), Cond.fieldLink RX1 18 "Gridpuzzle$Solving" "board" "LGridpuzzle$Board;", Cond.methodLink RX1 58 yX0_isOpen, Cond.instanceMethod yX0_isOpen, Cond.selects RX0 yX0_isOpen yX0_isOpen, Cond.code yX0_isOpen cX0_isOpen 2 (some .boolean)]
def wsL_candidates_r3 : List Cond := [Cond.fieldLink RX0 9 "Gridpuzzle$Board" "givens" "[I", Cond.methodLink RX0 46 yX0_hasCell, Cond.static yX3_at, Cond.code yX3_at cX3_at 2 (some .int), Cond.methodLink RX1 67 yX0_isBlank, Cond.instanceMethod yX0_isBlank, Cond.selects RX0 yX0_isBlank yX0_isBlank, Cond.code yX0_isBlank cX0_isBlank 2 (some .boolean), Cond.methodLink RX1 78 yX0_givenAt, Cond.instanceMethod yX0_givenAt, Cond.selects RX0 yX0_givenAt yX0_givenAt, Cond.code yX0_givenAt cX0_givenAt 2 (some .int), Cond.static yX3_put, Cond.code yX3_put cX3_put 3 none, Cond.methodLink RX1 25 yX1_goThrough, Cond.instanceMethod yX1_goThrough, Cond.selects RX1 yX1_goThrough yX1_goThrough, Cond.code yX1_goThrough cX1_goThrough 4 none, Cond.methodLink RX1 81 yX0_countRuns, Cond.instanceMethod yX0_countRuns, Cond.selects RX0 yX0_countRuns yX0_countRuns, Cond.code yX0_countRuns cX0_countRuns 1 (some .int), Cond.fieldLink RX0 68 "Gridpuzzle$Board" "runCount" "I", Cond.methodLink RX1 84 yX1_takeSingles]
def wsL_candidates_r4 : List Cond := [Cond.instanceMethod yX1_takeSingles, Cond.selects RX1 yX1_takeSingles yX1_takeSingles, Cond.code yX1_takeSingles cX1_takeSingles 6 none, Cond.methodLink RX1 96 yX0_lengthAt, Cond.instanceMethod yX0_lengthAt, Cond.selects RX0 yX0_lengthAt yX0_lengthAt, Cond.code yX0_lengthAt cX0_lengthAt 2 (some .int), Cond.fieldLink RX0 21 "Gridpuzzle$Board" "lengths" "[I", Cond.methodLink RX1 99 yX0_cellAt, Cond.instanceMethod yX0_cellAt, Cond.selects RX0 yX0_cellAt yX0_cellAt, Cond.code yX0_cellAt cX0_cellAt 3 (some .int), Cond.fieldLink RX0 15 "Gridpuzzle$Board" "firsts" "[I", Cond.fieldLink RX0 18 "Gridpuzzle$Board" "steps" "[I", Cond.methodLink RX1 64 yX1_isSingle, Cond.static yX1_isSingle, Cond.code yX1_isSingle cX1_isSingle 1 (some .boolean), Cond.methodLink RX1 110 yJ6_bitCount_0f7a4, Cond.static yJ6_bitCount_0f7a4, Cond.initialized RJ6, Cond.code yJ6_bitCount_0f7a4 cJ6_bitCount_0f7a4 1 (some .int), Cond.constant RJ6 265 (1431655765), Cond.constant RJ6 266 (858993459), Cond.constant RJ6 267 (252645135)]
def wsL_candidates_r5 : List Cond := [Cond.methodLink RX1 102 yX1_take, Cond.instanceMethod yX1_take, Cond.selects RX1 yX1_take yX1_take, Cond.code yX1_take cX1_take 4 none, Cond.methodLink RX1 87 yX0_sumAt, Cond.instanceMethod yX0_sumAt, Cond.selects RX0 yX0_sumAt yX0_sumAt, Cond.code yX0_sumAt cX0_sumAt 2 (some .int), Cond.fieldLink RX0 24 "Gridpuzzle$Board" "sums" "[I", Cond.methodLink RX1 90 yX1_takeOutsideSets, Cond.instanceMethod yX1_takeOutsideSets, Cond.selects RX1 yX1_takeOutsideSets yX1_takeOutsideSets, Cond.code yX1_takeOutsideSets cX1_takeOutsideSets 6 none, Cond.methodLink RX1 106 yX1_digitsOfSets, Cond.static yX1_digitsOfSets, Cond.code yX1_digitsOfSets cX1_digitsOfSets 5 (some .int), Cond.methodLink RX1 115 yX1_sumOfSet, Cond.static yX1_sumOfSet, Cond.code yX1_sumOfSet cX1_sumOfSet 3 (some .int), Cond.methodLink RX1 93 yX1_takeUnfit, Cond.instanceMethod yX1_takeUnfit, Cond.selects RX1 yX1_takeUnfit yX1_takeUnfit, Cond.code yX1_takeUnfit cX1_takeUnfit 7 none, Cond.fieldLink RX1 15 "Gridpuzzle$Solving" "setsOfRun" "[I"]
def wsL_candidates_r6 : List Cond := [Cond.methodLink RX1 118 yX1_canMake, Cond.static yX1_canMake, Cond.code yX1_canMake cX1_canMake 7 (some .boolean), Cond.methodLink RX1 43 yX1_hasEmptyCell, Cond.instanceMethod yX1_hasEmptyCell, Cond.selects RX1 yX1_hasEmptyCell yX1_hasEmptyCell, Cond.code yX1_hasEmptyCell cX1_hasEmptyCell 2 (some .boolean), Cond.methodLink RX3 144 yX1_setAt, Cond.instanceMethod yX1_setAt, Cond.selects RX1 yX1_setAt yX1_setAt, Cond.code yX1_setAt cX1_setAt 2 (some .int)]
def wsL_candidates : List Cond := .codeWith yL_candidates cL_candidates 5 (some .int) [(0, 10, 13, 19), (0, 10, 17, 13)] :: ((wsL_candidates_r1 ++ (wsL_candidates_r2 ++ (wsL_candidates_r3 ++ (wsL_candidates_r4 ++ (wsL_candidates_r5 ++ wsL_candidates_r6))))) ++ wsX30 ++ wsX00 ++ wsX10 ++ (vx_atS RX3 40 "java/lang/IllegalArgumentException" ["java/lang/RuntimeException", "java/lang/Exception"]).filter goodWord ++ (vx_atS RX3 160 "java/lang/IndexOutOfBoundsException" ["java/lang/RuntimeException", "java/lang/Exception"]).filter goodWord)
def wsL_law0_r1 : List Cond := [Cond.classLink RL 8 RX3, Cond.instantiable RX3 3, Cond.initialized RX3, Cond.classLink RL 63 RX4, Cond.instantiable RX4 18, Cond.initialized RX4, Cond.arrayClass .long, Cond.methodLink RL 62 yX3_init, Cond.instanceMethod yX3_init, Cond.code yX3_init cX3_init 1 none, Cond.methodLink RX3 3 objectInit, Cond.instanceMethod objectInit, Cond.code objectInit ⟨#[0xb1]⟩ 1 none, Cond.classLink RX3 9 RX0, Cond.instantiable RX0 9, Cond.initialized RX0, Cond.fieldLink RX3 12 "Gridpuzzle" "board" "LGridpuzzle$Board;", Cond.classLink RX3 16 RX2, Cond.instantiable RX2 6, Cond.initialized RX2, Cond.fieldLink RX3 21 "Gridpuzzle" "trying" "LGridpuzzle$Trying;", Cond.classLink RX3 25 RX1, Cond.instantiable RX1 5, Cond.initialized RX1]
def wsL_law0_r2 : List Cond := [Cond.fieldLink RX3 28 "Gridpuzzle" "solving" "LGridpuzzle$Solving;", Cond.instanceMethod yX0_init, Cond.code yX0_init cX0_init 1 none, Cond.methodLink RX0 3 objectInit, Cond.arrayClass .int, Cond.fieldLink RX0 9 "Gridpuzzle$Board" "givens" "[I", Cond.fieldLink RX0 15 "Gridpuzzle$Board" "firsts" "[I", Cond.fieldLink RX0 18 "Gridpuzzle$Board" "steps" "[I", Cond.fieldLink RX0 21 "Gridpuzzle$Board" "lengths" "[I", Cond.fieldLink RX0 24 "Gridpuzzle$Board" "sums" "[I", Cond.fieldLink RX0 27 "Gridpuzzle$Board" "rowRuns" "[I", Cond.fieldLink RX0 30 "Gridpuzzle$Board" "columnRuns" "[I", Cond.methodLink RX3 18 yX2_init, Cond.instanceMethod yX2_init, Cond.code yX2_init cX2_init 2 none, Cond.methodLink RX2 3 objectInit, Cond.fieldLink RX2 9 "Gridpuzzle$Trying" "blanks" "[I", Cond.fieldLink RX2 15 "Gridpuzzle$Trying" "tried" "[I", Cond.fieldLink RX2 18 "Gridpuzzle$Trying" "filling" "[I", Cond.fieldLink RX2 21 "Gridpuzzle$Trying" "firstAnswer" "[I", Cond.fieldLink RX2 24 "Gridpuzzle$Trying" "board" "LGridpuzzle$Board;", Cond.methodLink RX3 27 yX1_init, Cond.instanceMethod yX1_init, Cond.code yX1_init cX1_init 2 none]
def wsL_law0_r3 : List Cond := [Cond.methodLink RX1 3 objectInit, Cond.fieldLink RX1 9 "Gridpuzzle$Solving" "sets" "[I", Cond.fieldLink RX1 15 "Gridpuzzle$Solving" "setsOfRun" "[I", Cond.fieldLink RX1 18 "Gridpuzzle$Solving" "board" "LGridpuzzle$Board;", Cond.methodLink RX3 32 yX0_clear, Cond.instanceMethod yX0_clear, Cond.selects RX0 yX0_clear yX0_clear, Cond.code yX0_clear cX0_clear 2 none, Cond.fieldLink RX0 33 "Gridpuzzle$Board" "size" "I", Cond.methodLink RX0 37 yJ7_fill_53178, Cond.static yJ7_fill_53178, Cond.initialized RJ7, Cond.code yJ7_fill_53178 cJ7_fill_53178 4 none, Cond.methodLink RX0 43 yX0_findRuns, Cond.instanceMethod yX0_findRuns, Cond.selects RX0 yX0_findRuns yX0_findRuns, Cond.code yX0_findRuns cX0_findRuns 2 none, Cond.fieldLink RX0 68 "Gridpuzzle$Board" "runCount" "I", Cond.methodLink RX0 71 yX0_findRunsOfLine, Cond.instanceMethod yX0_findRunsOfLine, Cond.selects RX0 yX0_findRunsOfLine yX0_findRunsOfLine, Cond.code yX0_findRunsOfLine cX0_findRunsOfLine 5 none, Cond.methodLink RX0 58 yX0_isOpen, Cond.instanceMethod yX0_isOpen]
def wsL_law0_r4 : List Cond := [Cond.selects RX0 yX0_isOpen yX0_isOpen, Cond.code yX0_isOpen cX0_isOpen 2 (some .boolean), Cond.methodLink RX0 46 yX0_hasCell, Cond.instanceMethod yX0_hasCell, Cond.selects RX0 yX0_hasCell yX0_hasCell, Cond.code yX0_hasCell cX0_hasCell 2 (some .boolean), Cond.static yX3_at, Cond.code yX3_at cX3_at 2 (some .int), Cond.methodLink RX0 75 yX0_addRun, Cond.instanceMethod yX0_addRun, Cond.selects RX0 yX0_addRun yX0_addRun, Cond.code yX0_addRun cX0_addRun 5 none, Cond.static yX3_put, Cond.code yX3_put cX3_put 3 none, Cond.methodLink RL 65 yX4_init, Cond.instanceMethod yX4_init, Cond.code yX4_init cX4_init 1 none, Cond.methodLink RX4 1 objectInit, Cond.fieldLink RX4 7 "GridpuzzleModel" "size" "I", Cond.arrayClass .boolean, Cond.fieldLink RX4 13 "GridpuzzleModel" "isBarred" "[Z", Cond.fieldLink RX4 17 "GridpuzzleModel" "given" "[I", Cond.fieldLink RX4 21 "GridpuzzleModel" "firsts" "[I", Cond.fieldLink RX4 24 "GridpuzzleModel" "lengths" "[I"]
def wsL_law0_r5 : List Cond := [Cond.fieldLink RX4 27 "GridpuzzleModel" "steps" "[I", Cond.fieldLink RX4 30 "GridpuzzleModel" "sums" "[I", Cond.fieldLink RX4 33 "GridpuzzleModel" "tried" "[I", Cond.fieldLink RX4 36 "GridpuzzleModel" "digits" "[I", Cond.fieldLink RX4 39 "GridpuzzleModel" "firstAnswer" "[I", Cond.fieldLink RX4 42 "GridpuzzleModel" "candidates" "[I", Cond.methodLink RX4 45 yX4_layRuns, Cond.instanceMethod yX4_layRuns, Cond.selects RX4 yX4_layRuns yX4_layRuns, Cond.code yX4_layRuns cX4_layRuns 7 none, Cond.fieldLink RX4 59 "GridpuzzleModel" "runs" "I", Cond.methodLink RL 66 yL_begin, Cond.static yL_begin, Cond.initialized RL, Cond.codeWith yL_begin cL_begin 3 (some .int) [(0, 5, 8, 13)], Cond.classLink RL 13 "java/lang/IllegalArgumentException", Cond.methodLink RL 7 yX3_begin, Cond.instanceMethod yX3_begin, Cond.selects RX3 yX3_begin yX3_begin, Cond.code yX3_begin cX3_begin 2 none, Cond.classLink RX3 36 "java/lang/IllegalArgumentException", Cond.initialized "java/lang/IllegalArgumentException", Cond.methodLink RL 71 yX4_begin, Cond.instanceMethod yX4_begin]
def wsL_law0_r6 : List Cond := [Cond.selects RX4 yX4_begin yX4_begin, Cond.code yX4_begin cX4_begin 3 none, Cond.methodLink RX4 51 yX4_in, Cond.static yX4_in, Cond.code yX4_in cX4_in 3 (some .boolean), Cond.methodLink RX4 62 yX4_goesWell, Cond.instanceMethod yX4_goesWell, Cond.selects RX4 yX4_goesWell yX4_goesWell, Cond.code yX4_goesWell cX4_goesWell 2 (some .boolean), Cond.fieldLink RX4 48 "GridpuzzleModel" "thrown" "I", Cond.methodLink RL 72 yX4_thrown, Cond.instanceMethod yX4_thrown, Cond.selects RX4 yX4_thrown yX4_thrown, Cond.code yX4_thrown cX4_thrown 1 (some .int), Cond.methodLink RL 75 yL_bar, Cond.static yL_bar, Cond.codeWith yL_bar cL_bar 4 (some .int) [(0, 16, 19, 19)], Cond.classLink RL 19 "java/lang/IndexOutOfBoundsException", Cond.methodLink RL 15 yX3_bar, Cond.instanceMethod yX3_bar, Cond.selects RX3 yX3_bar yX3_bar, Cond.code yX3_bar cX3_bar 2 (some .boolean), Cond.methodLink RX3 43 yX3_needCell, Cond.instanceMethod yX3_needCell]
def wsL_law0_r7 : List Cond := [Cond.selects RX3 yX3_needCell yX3_needCell, Cond.code yX3_needCell cX3_needCell 2 none, Cond.classLink RX3 156 "java/lang/IndexOutOfBoundsException", Cond.initialized "java/lang/IndexOutOfBoundsException", Cond.methodLink RX3 153 yX0_hasCell, Cond.methodLink RX3 46 yX0_turn, Cond.instanceMethod yX0_turn, Cond.selects RX0 yX0_turn yX0_turn, Cond.code yX0_turn cX0_turn 2 none, Cond.methodLink RX3 49 yX0_isOpen, Cond.methodLink RL 78 yX4_bar, Cond.instanceMethod yX4_bar, Cond.selects RX4 yX4_bar yX4_bar, Cond.code yX4_bar cX4_bar 2 (some .boolean), Cond.methodLink RX4 55 yX4_isCell, Cond.instanceMethod yX4_isCell, Cond.selects RX4 yX4_isCell yX4_isCell, Cond.code yX4_isCell cX4_isCell 2 (some .boolean), Cond.methodLink RX4 65 yX4_turn, Cond.instanceMethod yX4_turn, Cond.selects RX4 yX4_turn yX4_turn, Cond.code yX4_turn cX4_turn 2 none, Cond.methodLink RL 79 yL_barBoth, Cond.static yL_barBoth]
def wsL_law0_r8 : List Cond := [Cond.codeWith yL_barBoth cL_barBoth 4 (some .int) [(0, 9, 12, 19)], Cond.methodLink RL 21 yX3_barBoth, Cond.instanceMethod yX3_barBoth, Cond.selects RX3 yX3_barBoth yX3_barBoth, Cond.code yX3_barBoth cX3_barBoth 3 (some .int), Cond.methodLink RX3 53 yX0_oppositeOf, Cond.instanceMethod yX0_oppositeOf, Cond.selects RX0 yX0_oppositeOf yX0_oppositeOf, Cond.code yX0_oppositeOf cX0_oppositeOf 4 (some .int), Cond.methodLink RX3 57 yX0_countBarred, Cond.instanceMethod yX0_countBarred, Cond.selects RX0 yX0_countBarred yX0_countBarred, Cond.code yX0_countBarred cX0_countBarred 1 (some .int), Cond.methodLink RX0 61 yX0_countOpen, Cond.instanceMethod yX0_countOpen, Cond.selects RX0 yX0_countOpen yX0_countOpen, Cond.code yX0_countOpen cX0_countOpen 3 (some .int), Cond.methodLink RL 81 yX4_barBoth, Cond.instanceMethod yX4_barBoth, Cond.selects RX4 yX4_barBoth yX4_barBoth, Cond.code yX4_barBoth cX4_barBoth 3 (some .int), Cond.methodLink RX4 72 yX4_countOpen, Cond.instanceMethod yX4_countOpen, Cond.selects RX4 yX4_countOpen yX4_countOpen]
def wsL_law0_r9 : List Cond := [Cond.code yX4_countOpen cX4_countOpen 3 (some .int), Cond.methodLink RX4 69 yX4_isOpen, Cond.instanceMethod yX4_isOpen, Cond.selects RX4 yX4_isOpen yX4_isOpen, Cond.code yX4_isOpen cX4_isOpen 2 (some .boolean), Cond.methodLink RL 82 yL_give, Cond.static yL_give, Cond.codeWith yL_give cL_give 5 (some .int) [(0, 10, 13, 19), (0, 10, 17, 13), (0, 10, 21, 29)], Cond.classLink RL 29 "java/lang/IllegalStateException", Cond.methodLink RL 25 yX3_give, Cond.instanceMethod yX3_give, Cond.selects RX3 yX3_give yX3_give, Cond.code yX3_give cX3_give 4 (some .int), Cond.classLink RX3 63 "java/lang/IllegalStateException", Cond.initialized "java/lang/IllegalStateException", Cond.methodLink RX3 68 yX0_givenAt, Cond.instanceMethod yX0_givenAt, Cond.selects RX0 yX0_givenAt yX0_givenAt, Cond.code yX0_givenAt cX0_givenAt 2 (some .int), Cond.methodLink RX3 71 yX0_putGiven, Cond.instanceMethod yX0_putGiven, Cond.selects RX0 yX0_putGiven yX0_putGiven, Cond.code yX0_putGiven cX0_putGiven 3 none, Cond.methodLink RL 85 yX4_give]
def wsL_law0_r10 : List Cond := [Cond.instanceMethod yX4_give, Cond.selects RX4 yX4_give yX4_give, Cond.code yX4_give cX4_give 5 (some .int), Cond.methodLink RL 86 yL_setSum, Cond.static yL_setSum, Cond.codeWith yL_setSum cL_setSum 5 (some .int) [(0, 10, 13, 19), (0, 10, 17, 13)], Cond.methodLink RL 31 yX3_setSum, Cond.instanceMethod yX3_setSum, Cond.selects RX3 yX3_setSum yX3_setSum, Cond.code yX3_setSum cX3_setSum 4 (some .int), Cond.methodLink RX3 75 yX3_needRun, Cond.instanceMethod yX3_needRun, Cond.selects RX3 yX3_needRun yX3_needRun, Cond.code yX3_needRun cX3_needRun 2 none, Cond.methodLink RX3 161 yX0_hasRun, Cond.instanceMethod yX0_hasRun, Cond.selects RX0 yX0_hasRun yX0_hasRun, Cond.code yX0_hasRun cX0_hasRun 2 (some .boolean), Cond.methodLink RX3 80 yX0_sumAt, Cond.instanceMethod yX0_sumAt, Cond.selects RX0 yX0_sumAt yX0_sumAt, Cond.code yX0_sumAt cX0_sumAt 2 (some .int), Cond.methodLink RX3 83 yX0_putSum, Cond.instanceMethod yX0_putSum]
def wsL_law0_r11 : List Cond := [Cond.selects RX0 yX0_putSum yX0_putSum, Cond.code yX0_putSum cX0_putSum 3 none, Cond.methodLink RL 88 yX4_setSum, Cond.instanceMethod yX4_setSum, Cond.selects RX4 yX4_setSum yX4_setSum, Cond.code yX4_setSum cX4_setSum 4 (some .int), Cond.methodLink RX4 76 yX4_isRun, Cond.instanceMethod yX4_isRun, Cond.selects RX4 yX4_isRun yX4_isRun, Cond.code yX4_isRun cX4_isRun 2 (some .boolean), Cond.methodLink RL 89 yL_press, Cond.static yL_press, Cond.codeWith yL_press cL_press 3 (some .int) [(0, 8, 11, 29)], Cond.methodLink RL 34 yX3_press, Cond.instanceMethod yX3_press, Cond.selects RX3 yX3_press yX3_press, Cond.code yX3_press cX3_press 1 (some .int), Cond.methodLink RX3 86 yX0_isFilled, Cond.instanceMethod yX0_isFilled, Cond.selects RX0 yX0_isFilled yX0_isFilled, Cond.code yX0_isFilled cX0_isFilled 1 (some .boolean), Cond.methodLink RX0 79 yX0_countBlanks, Cond.instanceMethod yX0_countBlanks, Cond.selects RX0 yX0_countBlanks yX0_countBlanks]
def wsL_law0_r12 : List Cond := [Cond.code yX0_countBlanks cX0_countBlanks 3 (some .int), Cond.methodLink RX0 65 yX0_isBlank, Cond.instanceMethod yX0_isBlank, Cond.selects RX0 yX0_isBlank yX0_isBlank, Cond.code yX0_isBlank cX0_isBlank 2 (some .boolean), Cond.methodLink RX3 92 yX0_givesTwice, Cond.instanceMethod yX0_givesTwice, Cond.selects RX0 yX0_givesTwice yX0_givesTwice, Cond.code yX0_givesTwice cX0_givesTwice 2 (some .boolean), Cond.methodLink RX0 82 yX0_hasTwice, Cond.instanceMethod yX0_hasTwice, Cond.selects RX0 yX0_hasTwice yX0_hasTwice, Cond.code yX0_hasTwice cX0_hasTwice 7 (some .boolean), Cond.methodLink RX0 94 yX0_lengthAt, Cond.instanceMethod yX0_lengthAt, Cond.selects RX0 yX0_lengthAt yX0_lengthAt, Cond.code yX0_lengthAt cX0_lengthAt 2 (some .int), Cond.methodLink RX0 97 yX0_cellAt, Cond.instanceMethod yX0_cellAt, Cond.selects RX0 yX0_cellAt yX0_cellAt, Cond.code yX0_cellAt cX0_cellAt 3 (some .int), Cond.methodLink RX3 97 yX0_sumAndEmpty, Cond.instanceMethod yX0_sumAndEmpty, Cond.selects RX0 yX0_sumAndEmpty yX0_sumAndEmpty]
def wsL_law0_r13 : List Cond := [Cond.code yX0_sumAndEmpty cX0_sumAndEmpty 2 none, Cond.methodLink RX0 86 yX0_totalOf, Cond.instanceMethod yX0_totalOf, Cond.selects RX0 yX0_totalOf yX0_totalOf, Cond.code yX0_totalOf cX0_totalOf 6 (some .int), Cond.methodLink RX3 100 yX0_countRuns, Cond.instanceMethod yX0_countRuns, Cond.selects RX0 yX0_countRuns yX0_countRuns, Cond.code yX0_countRuns cX0_countRuns 1 (some .int), Cond.methodLink RL 92 yX4_press, Cond.instanceMethod yX4_press, Cond.selects RX4 yX4_press yX4_press, Cond.code yX4_press cX4_press 3 (some .int), Cond.methodLink RX4 90 yX4_copyGiven, Cond.instanceMethod yX4_copyGiven, Cond.selects RX4 yX4_copyGiven yX4_copyGiven, Cond.code yX4_copyGiven cX4_copyGiven 2 none, Cond.methodLink RX4 83 yX4_isUnlike, Cond.instanceMethod yX4_isUnlike, Cond.selects RX4 yX4_isUnlike yX4_isUnlike, Cond.code yX4_isUnlike cX4_isUnlike 6 (some .boolean), Cond.methodLink RX4 79 yX4_cellOf, Cond.instanceMethod yX4_cellOf, Cond.selects RX4 yX4_cellOf yX4_cellOf]
def wsL_law0_r14 : List Cond := [Cond.code yX4_cellOf cX4_cellOf 3 (some .int), Cond.methodLink RX4 86 yX4_sumUp, Cond.instanceMethod yX4_sumUp, Cond.selects RX4 yX4_sumUp yX4_sumUp, Cond.code yX4_sumUp cX4_sumUp 4 (some .int), Cond.methodLink RL 93 yX3_open, Cond.instanceMethod yX3_open, Cond.selects RX3 yX3_open yX3_open, Cond.code yX3_open cX3_open 1 (some .int), Cond.methodLink RX3 103 yX0_countOpen, Cond.methodLink RL 96 yX4_open, Cond.instanceMethod yX4_open, Cond.selects RX4 yX4_open yX4_open, Cond.code yX4_open cX4_open 1 (some .int), Cond.methodLink RL 97 yX3_runs, Cond.instanceMethod yX3_runs, Cond.selects RX3 yX3_runs yX3_runs, Cond.code yX3_runs cX3_runs 1 (some .int), Cond.methodLink RL 100 yX4_runs, Cond.instanceMethod yX4_runs, Cond.selects RX4 yX4_runs yX4_runs, Cond.code yX4_runs cX4_runs 1 (some .int), Cond.methodLink RL 101 yL_firstOf, Cond.static yL_firstOf]
def wsL_law0_r15 : List Cond := [Cond.codeWith yL_firstOf cL_firstOf 4 (some .int) [(0, 9, 12, 19)], Cond.methodLink RL 38 yX3_firstOf, Cond.instanceMethod yX3_firstOf, Cond.selects RX3 yX3_firstOf yX3_firstOf, Cond.code yX3_firstOf cX3_firstOf 2 (some .int), Cond.methodLink RX3 106 yX0_firstAt, Cond.instanceMethod yX0_firstAt, Cond.selects RX0 yX0_firstAt yX0_firstAt, Cond.code yX0_firstAt cX0_firstAt 2 (some .int), Cond.methodLink RL 103 yX4_firstOf, Cond.instanceMethod yX4_firstOf, Cond.selects RX4 yX4_firstOf yX4_firstOf, Cond.code yX4_firstOf cX4_firstOf 2 (some .int), Cond.methodLink RL 104 yL_lengthOf, Cond.static yL_lengthOf, Cond.codeWith yL_lengthOf cL_lengthOf 4 (some .int) [(0, 9, 12, 19)], Cond.methodLink RL 41 yX3_lengthOf, Cond.instanceMethod yX3_lengthOf, Cond.selects RX3 yX3_lengthOf yX3_lengthOf, Cond.code yX3_lengthOf cX3_lengthOf 2 (some .int), Cond.methodLink RX3 109 yX0_lengthAt, Cond.methodLink RL 106 yX4_lengthOf, Cond.instanceMethod yX4_lengthOf, Cond.selects RX4 yX4_lengthOf yX4_lengthOf]
def wsL_law0_r16 : List Cond := [Cond.code yX4_lengthOf cX4_lengthOf 2 (some .int), Cond.methodLink RL 107 yL_sumOf, Cond.static yL_sumOf, Cond.codeWith yL_sumOf cL_sumOf 4 (some .int) [(0, 9, 12, 19)], Cond.methodLink RL 44 yX3_sumOf, Cond.instanceMethod yX3_sumOf, Cond.selects RX3 yX3_sumOf yX3_sumOf, Cond.code yX3_sumOf cX3_sumOf 2 (some .int), Cond.methodLink RL 109 yX4_sumOf, Cond.instanceMethod yX4_sumOf, Cond.selects RX4 yX4_sumOf yX4_sumOf, Cond.code yX4_sumOf cX4_sumOf 2 (some .int), Cond.methodLink RL 110 yL_digit, Cond.static yL_digit, Cond.codeWith yL_digit cL_digit 4 (some .int) [(0, 9, 12, 19)], Cond.methodLink RL 47 yX3_digit, Cond.instanceMethod yX3_digit, Cond.selects RX3 yX3_digit yX3_digit, Cond.code yX3_digit cX3_digit 2 (some .int), Cond.methodLink RL 112 yX4_digit, Cond.instanceMethod yX4_digit, Cond.selects RX4 yX4_digit yX4_digit, Cond.code yX4_digit cX4_digit 2 (some .int), Cond.methodLink RL 113 yL_answers]
def wsL_law0_r17 : List Cond := [Cond.static yL_answers, Cond.codeWith yL_answers cL_answers 4 (some .int) [(0, 9, 12, 13)], Cond.methodLink RL 50 yX3_answers, Cond.instanceMethod yX3_answers, Cond.selects RX3 yX3_answers yX3_answers, Cond.code yX3_answers cX3_answers 2 (some .int), Cond.methodLink RX3 114 yX2_find, Cond.instanceMethod yX2_find, Cond.selects RX2 yX2_find yX2_find, Cond.code yX2_find cX2_find 6 (some .int), Cond.fieldLink RX2 31 "Gridpuzzle$Trying" "blankCount" "I", Cond.methodLink RX2 28 yX2_start, Cond.instanceMethod yX2_start, Cond.selects RX2 yX2_start yX2_start, Cond.code yX2_start cX2_start 2 none, Cond.methodLink RX2 64 yX0_isOpen, Cond.methodLink RX2 67 yX0_givenAt, Cond.methodLink RX2 70 yX0_isBlank, Cond.methodLink RX2 35 yX0_isAnswer, Cond.instanceMethod yX0_isAnswer, Cond.selects RX0 yX0_isAnswer yX0_isAnswer, Cond.code yX0_isAnswer cX0_isAnswer 4 (some .boolean), Cond.methodLink RX0 90 yX0_sumAt, Cond.methodLink RX2 45 yX2_tryNext]
def wsL_law0_r18 : List Cond := [Cond.instanceMethod yX2_tryNext, Cond.selects RX2 yX2_tryNext yX2_tryNext, Cond.code yX2_tryNext cX2_tryNext 3 (some .boolean), Cond.methodLink RX2 73 yX0_rowRunOf, Cond.instanceMethod yX0_rowRunOf, Cond.selects RX0 yX0_rowRunOf yX0_rowRunOf, Cond.code yX0_rowRunOf cX0_rowRunOf 2 (some .int), Cond.methodLink RX2 76 yX2_suits, Cond.instanceMethod yX2_suits, Cond.selects RX2 yX2_suits yX2_suits, Cond.code yX2_suits cX2_suits 8 (some .boolean), Cond.methodLink RX2 83 yX0_lengthAt, Cond.methodLink RX2 86 yX0_cellAt, Cond.methodLink RX2 90 yX0_sumAt, Cond.methodLink RX2 80 yX0_columnRunOf, Cond.instanceMethod yX0_columnRunOf, Cond.selects RX0 yX0_columnRunOf yX0_columnRunOf, Cond.code yX0_columnRunOf cX0_columnRunOf 2 (some .int), Cond.methodLink RX2 49 yX2_keepFirstAnswer, Cond.instanceMethod yX2_keepFirstAnswer, Cond.selects RX2 yX2_keepFirstAnswer yX2_keepFirstAnswer, Cond.code yX2_keepFirstAnswer cX2_keepFirstAnswer 2 none, Cond.methodLink RX2 52 yX2_backFrom, Cond.instanceMethod yX2_backFrom]
def wsL_law0_r19 : List Cond := [Cond.selects RX2 yX2_backFrom yX2_backFrom, Cond.code yX2_backFrom cX2_backFrom 3 (some .int), Cond.methodLink RL 115 yX4_answers, Cond.instanceMethod yX4_answers, Cond.selects RX4 yX4_answers yX4_answers, Cond.code yX4_answers cX4_answers 2 (some .int), Cond.methodLink RX4 120 yX4_attempt, Cond.instanceMethod yX4_attempt, Cond.selects RX4 yX4_attempt yX4_attempt, Cond.code yX4_attempt cX4_attempt 7 (some .int), Cond.fieldLink RX4 106 "GridpuzzleModel" "isGivenUp" "Z", Cond.fieldLink RX4 100 "GridpuzzleModel" "differing" "I", Cond.fieldLink RX4 97 "GridpuzzleModel" "many" "I", Cond.methodLink RX4 103 yX4_layTried, Cond.instanceMethod yX4_layTried, Cond.selects RX4 yX4_layTried yX4_layTried, Cond.code yX4_layTried cX4_layTried 2 none, Cond.methodLink RX4 110 yX4_isAnswer, Cond.instanceMethod yX4_isAnswer, Cond.selects RX4 yX4_isAnswer yX4_isAnswer, Cond.code yX4_isAnswer cX4_isAnswer 3 (some .boolean), Cond.methodLink RX4 114 yX4_isGood, Cond.instanceMethod yX4_isGood, Cond.selects RX4 yX4_isGood yX4_isGood]
def wsL_law0_r20 : List Cond := [Cond.code yX4_isGood cX4_isGood 8 (some .boolean), Cond.methodLink RX4 93 yX4_has, Cond.instanceMethod yX4_has, Cond.selects RX4 yX4_has yX4_has, Cond.code yX4_has cX4_has 4 (some .boolean), Cond.methodLink RX4 117 yX4_keep, Cond.instanceMethod yX4_keep, Cond.selects RX4 yX4_keep yX4_keep, Cond.code yX4_keep cX4_keep 3 none, Cond.methodLink RL 116 yL_answersByAll, Cond.static yL_answersByAll, Cond.codeWith yL_answersByAll cL_answersByAll 3 (some .int) [(0, 8, 11, 29)], Cond.methodLink RL 53 yX3_answersByAll, Cond.instanceMethod yX3_answersByAll, Cond.selects RX3 yX3_answersByAll yX3_answersByAll, Cond.code yX3_answersByAll cX3_answersByAll 1 (some .int), Cond.methodLink RX3 117 yX0_countBlanks, Cond.methodLink RX3 122 yX2_countByAll, Cond.instanceMethod yX2_countByAll, Cond.selects RX2 yX2_countByAll yX2_countByAll, Cond.code yX2_countByAll cX2_countByAll 4 (some .int), Cond.methodLink RX2 56 yX2_fillBy, Cond.instanceMethod yX2_fillBy, Cond.selects RX2 yX2_fillBy yX2_fillBy]
def wsL_law0_r21 : List Cond := [Cond.code yX2_fillBy cX2_fillBy 4 none, Cond.methodLink RL 118 yX4_answersByAll, Cond.instanceMethod yX4_answersByAll, Cond.selects RX4 yX4_answersByAll yX4_answersByAll, Cond.code yX4_answersByAll cX4_answersByAll 6 (some .int), Cond.methodLink RL 119 yL_mend, Cond.static yL_mend, Cond.codeWith yL_mend cL_mend 3 (some .int) [(0, 8, 11, 29)], Cond.methodLink RL 56 yX3_mend, Cond.instanceMethod yX3_mend, Cond.selects RX3 yX3_mend yX3_mend, Cond.code yX3_mend cX3_mend 3 (some .int), Cond.methodLink RX3 127 yX2_firstUnlike, Cond.instanceMethod yX2_firstUnlike, Cond.selects RX2 yX2_firstUnlike yX2_firstUnlike, Cond.code yX2_firstUnlike cX2_firstUnlike 2 (some .int), Cond.methodLink RX3 130 yX2_firstAnswerAt, Cond.instanceMethod yX2_firstAnswerAt, Cond.selects RX2 yX2_firstAnswerAt yX2_firstAnswerAt, Cond.code yX2_firstAnswerAt cX2_firstAnswerAt 2 (some .int), Cond.methodLink RL 121 yX4_mend, Cond.instanceMethod yX4_mend, Cond.selects RX4 yX4_mend yX4_mend, Cond.code yX4_mend cX4_mend 2 (some .int)]
def wsL_law0_r22 : List Cond := [Cond.methodLink RL 122 yX3_level, Cond.instanceMethod yX3_level, Cond.selects RX3 yX3_level yX3_level, Cond.code yX3_level cX3_level 1 (some .int), Cond.methodLink RX3 133 yX1_solve, Cond.instanceMethod yX1_solve, Cond.selects RX1 yX1_solve yX1_solve, Cond.code yX1_solve cX1_solve 4 none, Cond.fieldLink RX1 29 "Gridpuzzle$Solving" "tookAway" "Z", Cond.fieldLink RX1 33 "Gridpuzzle$Solving" "greatest" "I", Cond.methodLink RX1 37 Lib.Math.max.name, Cond.static Lib.Math.max.name, Cond.initialized "java/lang/Math", Cond.code Lib.Math.max.name Lib.Math.max.code 2 (some .int), Cond.methodLink RX1 22 yX1_start, Cond.instanceMethod yX1_start, Cond.selects RX1 yX1_start yX1_start, Cond.code yX1_start cX1_start 2 none, Cond.methodLink RX1 70 yX1_firstSetOf, Cond.instanceMethod yX1_firstSetOf, Cond.selects RX1 yX1_firstSetOf yX1_firstSetOf, Cond.code yX1_firstSetOf cX1_firstSetOf 2 (some .int), Cond.methodLink RX1 58 yX0_isOpen, Cond.methodLink RX1 67 yX0_isBlank]
def wsL_law0_r23 : List Cond := [Cond.methodLink RX1 78 yX0_givenAt, Cond.methodLink RX1 25 yX1_goThrough, Cond.instanceMethod yX1_goThrough, Cond.selects RX1 yX1_goThrough yX1_goThrough, Cond.code yX1_goThrough cX1_goThrough 4 none, Cond.methodLink RX1 81 yX0_countRuns, Cond.methodLink RX1 84 yX1_takeSingles, Cond.instanceMethod yX1_takeSingles, Cond.selects RX1 yX1_takeSingles yX1_takeSingles, Cond.code yX1_takeSingles cX1_takeSingles 6 none, Cond.methodLink RX1 96 yX0_lengthAt, Cond.methodLink RX1 99 yX0_cellAt, Cond.methodLink RX1 64 yX1_isSingle, Cond.static yX1_isSingle, Cond.code yX1_isSingle cX1_isSingle 1 (some .boolean), Cond.methodLink RX1 110 yJ6_bitCount_0f7a4, Cond.static yJ6_bitCount_0f7a4, Cond.initialized RJ6, Cond.code yJ6_bitCount_0f7a4 cJ6_bitCount_0f7a4 1 (some .int), Cond.constant RJ6 265 (1431655765), Cond.constant RJ6 266 (858993459), Cond.constant RJ6 267 (252645135), Cond.methodLink RX1 102 yX1_take, Cond.instanceMethod yX1_take]
def wsL_law0_r24 : List Cond := [Cond.selects RX1 yX1_take yX1_take, Cond.code yX1_take cX1_take 4 none, Cond.methodLink RX1 87 yX0_sumAt, Cond.methodLink RX1 90 yX1_takeOutsideSets, Cond.instanceMethod yX1_takeOutsideSets, Cond.selects RX1 yX1_takeOutsideSets yX1_takeOutsideSets, Cond.code yX1_takeOutsideSets cX1_takeOutsideSets 6 none, Cond.methodLink RX1 106 yX1_digitsOfSets, Cond.static yX1_digitsOfSets, Cond.code yX1_digitsOfSets cX1_digitsOfSets 5 (some .int), Cond.methodLink RX1 115 yX1_sumOfSet, Cond.static yX1_sumOfSet, Cond.code yX1_sumOfSet cX1_sumOfSet 3 (some .int), Cond.methodLink RX1 93 yX1_takeUnfit, Cond.instanceMethod yX1_takeUnfit, Cond.selects RX1 yX1_takeUnfit yX1_takeUnfit, Cond.code yX1_takeUnfit cX1_takeUnfit 7 none, Cond.methodLink RX1 118 yX1_canMake, Cond.static yX1_canMake, Cond.code yX1_canMake cX1_canMake 7 (some .boolean), Cond.methodLink RX1 43 yX1_hasEmptyCell, Cond.instanceMethod yX1_hasEmptyCell, Cond.selects RX1 yX1_hasEmptyCell yX1_hasEmptyCell, Cond.code yX1_hasEmptyCell cX1_hasEmptyCell 2 (some .boolean)]
def wsL_law0_r25 : List Cond := [Cond.methodLink RX3 136 yX1_isSolved, Cond.instanceMethod yX1_isSolved, Cond.selects RX1 yX1_isSolved yX1_isSolved, Cond.code yX1_isSolved cX1_isSolved 2 (some .boolean), Cond.methodLink RX3 139 yX1_greatestRule, Cond.instanceMethod yX1_greatestRule, Cond.selects RX1 yX1_greatestRule yX1_greatestRule, Cond.code yX1_greatestRule cX1_greatestRule 1 (some .int), Cond.methodLink RL 125 yX4_level, Cond.instanceMethod yX4_level, Cond.selects RX4 yX4_level yX4_level, Cond.code yX4_level cX4_level 2 (some .int), Cond.fieldLink RX4 142 "GridpuzzleModel" "level" "I", Cond.methodLink RX4 157 yX4_solve, Cond.instanceMethod yX4_solve, Cond.selects RX4 yX4_solve yX4_solve, Cond.code yX4_solve cX4_solve 3 none, Cond.fieldLink RX4 123 "GridpuzzleModel" "hasTaken" "Z", Cond.methodLink RX4 145 yX4_goThroughSingles, Cond.instanceMethod yX4_goThroughSingles, Cond.selects RX4 yX4_goThroughSingles yX4_goThroughSingles, Cond.code yX4_goThroughSingles cX4_goThroughSingles 5 none, Cond.methodLink RX4 126 yX4_isSingle, Cond.static yX4_isSingle]
def wsL_law0_r26 : List Cond := [Cond.code yX4_isSingle cX4_isSingle 1 (some .boolean), Cond.methodLink RX4 129 yX4_take, Cond.instanceMethod yX4_take, Cond.selects RX4 yX4_take yX4_take, Cond.code yX4_take cX4_take 3 none, Cond.methodLink RX4 148 yX4_goThroughSets, Cond.instanceMethod yX4_goThroughSets, Cond.selects RX4 yX4_goThroughSets yX4_goThroughSets, Cond.code yX4_goThroughSets cX4_goThroughSets 6 none, Cond.methodLink RX4 133 yX4_bits, Cond.static yX4_bits, Cond.code yX4_bits cX4_bits 3 (some .int), Cond.methodLink RX4 136 yX4_sumOfSet, Cond.static yX4_sumOfSet, Cond.code yX4_sumOfSet cX4_sumOfSet 3 (some .int), Cond.methodLink RX4 151 yX4_goThroughRows, Cond.instanceMethod yX4_goThroughRows, Cond.selects RX4 yX4_goThroughRows yX4_goThroughRows, Cond.code yX4_goThroughRows cX4_goThroughRows 5 none, Cond.methodLink RX4 139 yX4_canBe, Cond.instanceMethod yX4_canBe, Cond.selects RX4 yX4_canBe yX4_canBe, Cond.code yX4_canBe cX4_canBe 11 (some .boolean), Cond.methodLink RX4 154 yX4_isDead]
def wsL_law0_r27 : List Cond := [Cond.instanceMethod yX4_isDead, Cond.selects RX4 yX4_isDead yX4_isDead, Cond.code yX4_isDead cX4_isDead 3 (some .boolean), Cond.methodLink RL 126 yL_candidates, Cond.static yL_candidates, Cond.codeWith yL_candidates cL_candidates 5 (some .int) [(0, 10, 13, 19), (0, 10, 17, 13)], Cond.methodLink RL 59 yX3_candidates, Cond.instanceMethod yX3_candidates, Cond.selects RX3 yX3_candidates yX3_candidates, Cond.code yX3_candidates cX3_candidates 3 (some .int), Cond.methodLink RX3 144 yX1_setAt, Cond.instanceMethod yX1_setAt, Cond.selects RX1 yX1_setAt yX1_setAt, Cond.code yX1_setAt cX1_setAt 2 (some .int), Cond.methodLink RL 128 yX4_candidates, Cond.instanceMethod yX4_candidates, Cond.selects RX4 yX4_candidates yX4_candidates, Cond.code yX4_candidates cX4_candidates 3 (some .int), Cond.methodLink RL 129 yX3_hint, Cond.instanceMethod yX3_hint, Cond.selects RX3 yX3_hint yX3_hint, Cond.code yX3_hint cX3_hint 1 (some .int), Cond.methodLink RX3 147 yX1_solveToHint, Cond.instanceMethod yX1_solveToHint]
def wsL_law0_r28 : List Cond := [Cond.selects RX1 yX1_solveToHint yX1_solveToHint, Cond.code yX1_solveToHint cX1_solveToHint 2 (some .int), Cond.methodLink RX1 47 yX1_solve, Cond.methodLink RX1 50 yX1_firstFound, Cond.instanceMethod yX1_firstFound, Cond.selects RX1 yX1_firstFound yX1_firstFound, Cond.code yX1_firstFound cX1_firstFound 2 (some .int), Cond.methodLink RX3 150 yX1_firstFound, Cond.methodLink RL 132 yX4_hint, Cond.instanceMethod yX4_hint, Cond.selects RX4 yX4_hint yX4_hint, Cond.code yX4_hint cX4_hint 3 (some .int), Cond.methodLink RX4 160 yX4_find, Cond.instanceMethod yX4_find, Cond.selects RX4 yX4_find yX4_find, Cond.code yX4_find cX4_find 3 (some .int), Cond.methodLink RL 133 yX3_hintRules, Cond.instanceMethod yX3_hintRules, Cond.selects RX3 yX3_hintRules yX3_hintRules, Cond.code yX3_hintRules cX3_hintRules 1 (some .int), Cond.methodLink RL 136 yX4_hintRules, Cond.instanceMethod yX4_hintRules, Cond.selects RX4 yX4_hintRules yX4_hintRules, Cond.code yX4_hintRules cX4_hintRules 2 (some .int)]
def wsL_law0 : List Cond := (wsL_law0_r1 ++ (wsL_law0_r2 ++ (wsL_law0_r3 ++ (wsL_law0_r4 ++ (wsL_law0_r5 ++ (wsL_law0_r6 ++ (wsL_law0_r7 ++ (wsL_law0_r8 ++ (wsL_law0_r9 ++ (wsL_law0_r10 ++ (wsL_law0_r11 ++ (wsL_law0_r12 ++ (wsL_law0_r13 ++ (wsL_law0_r14 ++ (wsL_law0_r15 ++ (wsL_law0_r16 ++ (wsL_law0_r17 ++ (wsL_law0_r18 ++ (wsL_law0_r19 ++ (wsL_law0_r20 ++ (wsL_law0_r21 ++ (wsL_law0_r22 ++ (wsL_law0_r23 ++ (wsL_law0_r24 ++ (wsL_law0_r25 ++ (wsL_law0_r26 ++ (wsL_law0_r27 ++ wsL_law0_r28))))))))))))))))))))))))))) ++ wsX30 ++ wsX40 ++ wsX00 ++ wsX20 ++ wsX10 ++ ([] : List Cond)
def wsL_law : List Cond := wsL_law0 ++ (vx_atS RX3 40 "java/lang/IllegalArgumentException" ["java/lang/RuntimeException", "java/lang/Exception"]).filter goodWord ++ (vx_atS RX3 160 "java/lang/IndexOutOfBoundsException" ["java/lang/RuntimeException", "java/lang/Exception"]).filter goodWord ++ (vx_atS RX3 67 "java/lang/IllegalStateException" ["java/lang/RuntimeException", "java/lang/Exception"]).filter goodWord
abbrev vwCl : List vw_C := [(RX0, TX0, 9), (RX1, TX1, 5), (RX2, TX2, 6), (RX3, TX3, 3), (RX4, TX4, 18)]
end
section
theorem dX0_init_0 : decode cX0_init 0 = .ok (.aload_n 0, 1) := by decide +kernel
theorem dX0_init_1 : decode cX0_init 1 = .ok (.invokespecial 3, 3) := by decide +kernel
theorem dX0_init_4 : decode cX0_init 4 = .ok (.aload_n 0, 1) := by decide +kernel
theorem dX0_init_5 : decode cX0_init 5 = .ok (.bipush 16, 2) := by decide +kernel
theorem dX0_init_7 : decode cX0_init 7 = .ok (.newarray .int, 2) := by decide +kernel
theorem dX0_init_9 : decode cX0_init 9 = .ok (.putfield 9, 3) := by decide +kernel
theorem dX0_init_12 : decode cX0_init 12 = .ok (.aload_n 0, 1) := by decide +kernel
theorem dX0_init_13 : decode cX0_init 13 = .ok (.bipush 8, 2) := by decide +kernel
theorem dX0_init_15 : decode cX0_init 15 = .ok (.newarray .int, 2) := by decide +kernel
theorem dX0_init_17 : decode cX0_init 17 = .ok (.putfield 15, 3) := by decide +kernel
theorem dX0_init_20 : decode cX0_init 20 = .ok (.aload_n 0, 1) := by decide +kernel
theorem dX0_init_21 : decode cX0_init 21 = .ok (.bipush 8, 2) := by decide +kernel
theorem dX0_init_23 : decode cX0_init 23 = .ok (.newarray .int, 2) := by decide +kernel
theorem dX0_init_25 : decode cX0_init 25 = .ok (.putfield 18, 3) := by decide +kernel
theorem dX0_init_28 : decode cX0_init 28 = .ok (.aload_n 0, 1) := by decide +kernel
theorem dX0_init_29 : decode cX0_init 29 = .ok (.bipush 8, 2) := by decide +kernel
theorem dX0_init_31 : decode cX0_init 31 = .ok (.newarray .int, 2) := by decide +kernel
theorem dX0_init_33 : decode cX0_init 33 = .ok (.putfield 21, 3) := by decide +kernel
theorem dX0_init_36 : decode cX0_init 36 = .ok (.aload_n 0, 1) := by decide +kernel
theorem dX0_init_37 : decode cX0_init 37 = .ok (.bipush 8, 2) := by decide +kernel
theorem dX0_init_39 : decode cX0_init 39 = .ok (.newarray .int, 2) := by decide +kernel
theorem dX0_init_41 : decode cX0_init 41 = .ok (.putfield 24, 3) := by decide +kernel
theorem dX0_init_44 : decode cX0_init 44 = .ok (.aload_n 0, 1) := by decide +kernel
theorem dX0_init_45 : decode cX0_init 45 = .ok (.bipush 16, 2) := by decide +kernel
theorem dX0_init_47 : decode cX0_init 47 = .ok (.newarray .int, 2) := by decide +kernel
theorem dX0_init_49 : decode cX0_init 49 = .ok (.putfield 27, 3) := by decide +kernel
theorem dX0_init_52 : decode cX0_init 52 = .ok (.aload_n 0, 1) := by decide +kernel
theorem dX0_init_53 : decode cX0_init 53 = .ok (.bipush 16, 2) := by decide +kernel
theorem dX0_init_55 : decode cX0_init 55 = .ok (.newarray .int, 2) := by decide +kernel
theorem dX0_init_57 : decode cX0_init 57 = .ok (.putfield 30, 3) := by decide +kernel
theorem dX0_init_60 : decode cX0_init 60 = .ok (.return_, 1) := by decide +kernel
set_option maxRecDepth 20000 in
theorem ggX0_clear_J7_fill_53178 : GoodIn wsX0_clear wsJ7_fill_53178 := goodIn_r _ [6] (by decide +kernel) (by decide +kernel)
set_option maxRecDepth 20000 in
theorem gX0_clear_J7_fill_53178 : GoodIn wsX0_clear (va_wsS RX0 37 yJ7_fill_53178 wsJ7_fill_53178) := goodIn_app (goodIn_of _ (by decide +kernel)) ggX0_clear_J7_fill_53178
set_option maxRecDepth 20000 in
theorem ggX0_clear_X0_findRuns : GoodIn wsX0_clear wsX0_findRuns := goodIn_r _ [11, 12, 13, 14, 15, 1, 3, 4, 5, 6, 16, 17, 18, 10, 19, 20, 21, 22, 23, 2, 24, 25, 26, 27, 28, 29, 30, 31, 32, 33, 34, 35, 36, 37, 38, 39, 40, 41, 42, 43, 44, 45, 46, 47, 48] (by decide +kernel) (by decide +kernel)
set_option maxRecDepth 20000 in
theorem gX0_clear_X0_findRuns : GoodIn wsX0_clear (wsV RX0 43 RX0 yX0_findRuns wsX0_findRuns) := goodIn_app (goodIn_of _ (by decide +kernel)) ggX0_clear_X0_findRuns
theorem dX0_clear_0 : decode cX0_clear 0 = .ok (.aload_n 0, 1) := by decide +kernel
theorem dX0_clear_1 : decode cX0_clear 1 = .ok (.iload_n 1, 1) := by decide +kernel
theorem dX0_clear_2 : decode cX0_clear 2 = .ok (.putfield 33, 3) := by decide +kernel
theorem dX0_clear_5 : decode cX0_clear 5 = .ok (.aload_n 0, 1) := by decide +kernel
theorem dX0_clear_6 : decode cX0_clear 6 = .ok (.getfield 9, 3) := by decide +kernel
theorem dX0_clear_9 : decode cX0_clear 9 = .ok (.iconst 0, 1) := by decide +kernel
theorem dX0_clear_10 : decode cX0_clear 10 = .ok (.invokestatic 37, 3) := by decide +kernel
theorem dX0_clear_13 : decode cX0_clear 13 = .ok (.aload_n 0, 1) := by decide +kernel
theorem dX0_clear_14 : decode cX0_clear 14 = .ok (.invokevirtual 43, 3) := by decide +kernel
theorem dX0_clear_17 : decode cX0_clear 17 = .ok (.return_, 1) := by decide +kernel
theorem dX0_hasCell_0 : decode cX0_hasCell 0 = .ok (.iload_n 1, 1) := by decide +kernel
theorem dX0_hasCell_1 : decode cX0_hasCell 1 = .ok (.ifCond .lt 33, 3) := by decide +kernel
theorem dX0_hasCell_4 : decode cX0_hasCell 4 = .ok (.iload_n 1, 1) := by decide +kernel
theorem dX0_hasCell_5 : decode cX0_hasCell 5 = .ok (.bipush 16, 2) := by decide +kernel
theorem dX0_hasCell_7 : decode cX0_hasCell 7 = .ok (.if_icmp .ge 27, 3) := by decide +kernel
theorem dX0_hasCell_10 : decode cX0_hasCell 10 = .ok (.iload_n 1, 1) := by decide +kernel
theorem dX0_hasCell_11 : decode cX0_hasCell 11 = .ok (.iconst 4, 1) := by decide +kernel
theorem dX0_hasCell_12 : decode cX0_hasCell 12 = .ok (.idiv, 1) := by decide +kernel
theorem dX0_hasCell_13 : decode cX0_hasCell 13 = .ok (.aload_n 0, 1) := by decide +kernel
theorem dX0_hasCell_14 : decode cX0_hasCell 14 = .ok (.getfield 33, 3) := by decide +kernel
theorem dX0_hasCell_17 : decode cX0_hasCell 17 = .ok (.if_icmp .ge 17, 3) := by decide +kernel
theorem dX0_hasCell_20 : decode cX0_hasCell 20 = .ok (.iload_n 1, 1) := by decide +kernel
theorem dX0_hasCell_21 : decode cX0_hasCell 21 = .ok (.iconst 4, 1) := by decide +kernel
theorem dX0_hasCell_22 : decode cX0_hasCell 22 = .ok (.irem, 1) := by decide +kernel
theorem dX0_hasCell_23 : decode cX0_hasCell 23 = .ok (.aload_n 0, 1) := by decide +kernel
theorem dX0_hasCell_24 : decode cX0_hasCell 24 = .ok (.getfield 33, 3) := by decide +kernel
theorem dX0_hasCell_27 : decode cX0_hasCell 27 = .ok (.if_icmp .ge 7, 3) := by decide +kernel
theorem dX0_hasCell_30 : decode cX0_hasCell 30 = .ok (.iconst 1, 1) := by decide +kernel
theorem dX0_hasCell_31 : decode cX0_hasCell 31 = .ok (.goto 4, 3) := by decide +kernel
theorem dX0_hasCell_34 : decode cX0_hasCell 34 = .ok (.iconst 0, 1) := by decide +kernel
theorem dX0_hasCell_35 : decode cX0_hasCell 35 = .ok (.ireturn, 1) := by decide +kernel
set_option maxRecDepth 20000 in
theorem ggX0_isOpen_X0_hasCell : GoodIn wsX0_isOpen wsX0_hasCell := goodIn_r _ [6, 7, 11, 12, 13, 14, 15, 16, 17, 18, 19] (by decide +kernel) (by decide +kernel)
set_option maxRecDepth 20000 in
theorem gX0_isOpen_X0_hasCell : GoodIn wsX0_isOpen (wsV RX0 46 RX0 yX0_hasCell wsX0_hasCell) := goodIn_app (goodIn_of _ (by decide +kernel)) ggX0_isOpen_X0_hasCell
set_option maxRecDepth 20000 in
theorem ggX0_isOpen_X3_at : GoodIn wsX0_isOpen wsX3_at := goodIn_r _ [10] (by decide +kernel) (by decide +kernel)
set_option maxRecDepth 20000 in
theorem gX0_isOpen_X3_at_n50 : GoodIn wsX0_isOpen (wsX3_at) := ggX0_isOpen_X3_at
theorem dX0_isOpen_0 : decode cX0_isOpen 0 = .ok (.aload_n 0, 1) := by decide +kernel
theorem dX0_isOpen_1 : decode cX0_isOpen 1 = .ok (.iload_n 1, 1) := by decide +kernel
theorem dX0_isOpen_2 : decode cX0_isOpen 2 = .ok (.invokevirtual 46, 3) := by decide +kernel
theorem dX0_isOpen_5 : decode cX0_isOpen 5 = .ok (.ifCond .eq 19, 3) := by decide +kernel
theorem dX0_isOpen_8 : decode cX0_isOpen 8 = .ok (.aload_n 0, 1) := by decide +kernel
theorem dX0_isOpen_9 : decode cX0_isOpen 9 = .ok (.getfield 9, 3) := by decide +kernel
theorem dX0_isOpen_12 : decode cX0_isOpen 12 = .ok (.iload_n 1, 1) := by decide +kernel
theorem dX0_isOpen_13 : decode cX0_isOpen 13 = .ok (.invokestatic 50, 3) := by decide +kernel
theorem dX0_isOpen_16 : decode cX0_isOpen 16 = .ok (.iconst (-1), 1) := by decide +kernel
theorem dX0_isOpen_17 : decode cX0_isOpen 17 = .ok (.if_icmp .eq 7, 3) := by decide +kernel
theorem dX0_isOpen_20 : decode cX0_isOpen 20 = .ok (.iconst 1, 1) := by decide +kernel
theorem dX0_isOpen_21 : decode cX0_isOpen 21 = .ok (.goto 4, 3) := by decide +kernel
theorem dX0_isOpen_24 : decode cX0_isOpen 24 = .ok (.iconst 0, 1) := by decide +kernel
theorem dX0_isOpen_25 : decode cX0_isOpen 25 = .ok (.ireturn, 1) := by decide +kernel
set_option maxRecDepth 20000 in
theorem ggX0_givenAt_X3_at : GoodIn wsX0_givenAt wsX3_at := goodIn_r _ [4] (by decide +kernel) (by decide +kernel)
set_option maxRecDepth 20000 in
theorem gX0_givenAt_X3_at_n50 : GoodIn wsX0_givenAt (wsX3_at) := ggX0_givenAt_X3_at
theorem dX0_givenAt_0 : decode cX0_givenAt 0 = .ok (.aload_n 0, 1) := by decide +kernel
theorem dX0_givenAt_1 : decode cX0_givenAt 1 = .ok (.getfield 9, 3) := by decide +kernel
theorem dX0_givenAt_4 : decode cX0_givenAt 4 = .ok (.iload_n 1, 1) := by decide +kernel
theorem dX0_givenAt_5 : decode cX0_givenAt 5 = .ok (.invokestatic 50, 3) := by decide +kernel
theorem dX0_givenAt_8 : decode cX0_givenAt 8 = .ok (.ireturn, 1) := by decide +kernel
set_option maxRecDepth 20000 in
theorem ggX0_putGiven_X3_put : GoodIn wsX0_putGiven wsX3_put := goodIn_r _ [4] (by decide +kernel) (by decide +kernel)
set_option maxRecDepth 20000 in
theorem gX0_putGiven_X3_put_n54 : GoodIn wsX0_putGiven (wsX3_put) := ggX0_putGiven_X3_put
theorem dX0_putGiven_0 : decode cX0_putGiven 0 = .ok (.aload_n 0, 1) := by decide +kernel
theorem dX0_putGiven_1 : decode cX0_putGiven 1 = .ok (.getfield 9, 3) := by decide +kernel
theorem dX0_putGiven_4 : decode cX0_putGiven 4 = .ok (.iload_n 1, 1) := by decide +kernel
theorem dX0_putGiven_5 : decode cX0_putGiven 5 = .ok (.iload_n 2, 1) := by decide +kernel
theorem dX0_putGiven_6 : decode cX0_putGiven 6 = .ok (.invokestatic 54, 3) := by decide +kernel
theorem dX0_putGiven_9 : decode cX0_putGiven 9 = .ok (.return_, 1) := by decide +kernel
set_option maxRecDepth 20000 in
theorem ggX0_turn_X0_isOpen : GoodIn wsX0_turn wsX0_isOpen := goodIn_r _ [6, 1, 7, 8, 9, 5, 10, 11, 12, 13, 14, 40, 41, 42, 43, 44, 45, 46, 47, 48] (by decide +kernel) (by decide +kernel)
set_option maxRecDepth 20000 in
theorem gX0_turn_X0_isOpen : GoodIn wsX0_turn (wsV RX0 58 RX0 yX0_isOpen wsX0_isOpen) := goodIn_app (goodIn_of _ (by decide +kernel)) ggX0_turn_X0_isOpen
set_option maxRecDepth 20000 in
theorem ggX0_turn_X3_put : GoodIn wsX0_turn wsX3_put := goodIn_r _ [16] (by decide +kernel) (by decide +kernel)
set_option maxRecDepth 20000 in
theorem gX0_turn_X3_put_n54 : GoodIn wsX0_turn (wsX3_put) := ggX0_turn_X3_put
set_option maxRecDepth 20000 in
theorem ggX0_turn_X0_findRuns : GoodIn wsX0_turn wsX0_findRuns := goodIn_r _ [20, 21, 22, 23, 24, 11, 25, 26, 27, 28, 29, 30, 31, 5, 32, 2, 3, 4, 6, 1, 7, 8, 9, 10, 12, 13, 14, 33, 34, 35, 36, 37, 38, 39, 15, 16, 40, 41, 42, 43, 44, 45, 46, 47, 48] (by decide +kernel) (by decide +kernel)
set_option maxRecDepth 20000 in
theorem gX0_turn_X0_findRuns : GoodIn wsX0_turn (wsV RX0 43 RX0 yX0_findRuns wsX0_findRuns) := goodIn_app (goodIn_of _ (by decide +kernel)) ggX0_turn_X0_findRuns
theorem dX0_turn_0 : decode cX0_turn 0 = .ok (.aload_n 0, 1) := by decide +kernel
theorem dX0_turn_1 : decode cX0_turn 1 = .ok (.getfield 9, 3) := by decide +kernel
theorem dX0_turn_4 : decode cX0_turn 4 = .ok (.iload_n 1, 1) := by decide +kernel
theorem dX0_turn_5 : decode cX0_turn 5 = .ok (.aload_n 0, 1) := by decide +kernel
theorem dX0_turn_6 : decode cX0_turn 6 = .ok (.iload_n 1, 1) := by decide +kernel
theorem dX0_turn_7 : decode cX0_turn 7 = .ok (.invokevirtual 58, 3) := by decide +kernel
theorem dX0_turn_10 : decode cX0_turn 10 = .ok (.ifCond .eq 7, 3) := by decide +kernel
theorem dX0_turn_13 : decode cX0_turn 13 = .ok (.iconst (-1), 1) := by decide +kernel
theorem dX0_turn_14 : decode cX0_turn 14 = .ok (.goto 4, 3) := by decide +kernel
theorem dX0_turn_17 : decode cX0_turn 17 = .ok (.iconst 0, 1) := by decide +kernel
theorem dX0_turn_18 : decode cX0_turn 18 = .ok (.invokestatic 54, 3) := by decide +kernel
theorem dX0_turn_21 : decode cX0_turn 21 = .ok (.aload_n 0, 1) := by decide +kernel
theorem dX0_turn_22 : decode cX0_turn 22 = .ok (.invokevirtual 43, 3) := by decide +kernel
theorem dX0_turn_25 : decode cX0_turn 25 = .ok (.return_, 1) := by decide +kernel
theorem dX0_oppositeOf_0 : decode cX0_oppositeOf 0 = .ok (.aload_n 0, 1) := by decide +kernel
theorem dX0_oppositeOf_1 : decode cX0_oppositeOf 1 = .ok (.getfield 33, 3) := by decide +kernel
theorem dX0_oppositeOf_4 : decode cX0_oppositeOf 4 = .ok (.iconst 1, 1) := by decide +kernel
theorem dX0_oppositeOf_5 : decode cX0_oppositeOf 5 = .ok (.isub, 1) := by decide +kernel
theorem dX0_oppositeOf_6 : decode cX0_oppositeOf 6 = .ok (.iload_n 1, 1) := by decide +kernel
theorem dX0_oppositeOf_7 : decode cX0_oppositeOf 7 = .ok (.iconst 4, 1) := by decide +kernel
theorem dX0_oppositeOf_8 : decode cX0_oppositeOf 8 = .ok (.idiv, 1) := by decide +kernel
theorem dX0_oppositeOf_9 : decode cX0_oppositeOf 9 = .ok (.isub, 1) := by decide +kernel
theorem dX0_oppositeOf_10 : decode cX0_oppositeOf 10 = .ok (.istore_n 2, 1) := by decide +kernel
theorem dX0_oppositeOf_11 : decode cX0_oppositeOf 11 = .ok (.aload_n 0, 1) := by decide +kernel
theorem dX0_oppositeOf_12 : decode cX0_oppositeOf 12 = .ok (.getfield 33, 3) := by decide +kernel
theorem dX0_oppositeOf_15 : decode cX0_oppositeOf 15 = .ok (.iconst 1, 1) := by decide +kernel
theorem dX0_oppositeOf_16 : decode cX0_oppositeOf 16 = .ok (.isub, 1) := by decide +kernel
theorem dX0_oppositeOf_17 : decode cX0_oppositeOf 17 = .ok (.iload_n 1, 1) := by decide +kernel
theorem dX0_oppositeOf_18 : decode cX0_oppositeOf 18 = .ok (.iconst 4, 1) := by decide +kernel
theorem dX0_oppositeOf_19 : decode cX0_oppositeOf 19 = .ok (.irem, 1) := by decide +kernel
theorem dX0_oppositeOf_20 : decode cX0_oppositeOf 20 = .ok (.isub, 1) := by decide +kernel
theorem dX0_oppositeOf_21 : decode cX0_oppositeOf 21 = .ok (.istore_n 3, 1) := by decide +kernel
theorem dX0_oppositeOf_22 : decode cX0_oppositeOf 22 = .ok (.iload_n 2, 1) := by decide +kernel
theorem dX0_oppositeOf_23 : decode cX0_oppositeOf 23 = .ok (.iconst 4, 1) := by decide +kernel
theorem dX0_oppositeOf_24 : decode cX0_oppositeOf 24 = .ok (.imul, 1) := by decide +kernel
theorem dX0_oppositeOf_25 : decode cX0_oppositeOf 25 = .ok (.iload_n 3, 1) := by decide +kernel
theorem dX0_oppositeOf_26 : decode cX0_oppositeOf 26 = .ok (.iadd, 1) := by decide +kernel
theorem dX0_oppositeOf_27 : decode cX0_oppositeOf 27 = .ok (.ireturn, 1) := by decide +kernel
set_option maxRecDepth 20000 in
theorem ggX0_countOpen_X0_isOpen : GoodIn wsX0_countOpen wsX0_isOpen := goodIn_r _ [5, 6, 7, 8, 9, 4, 10, 11, 12, 13, 14, 15, 16, 17, 18, 19, 20, 21, 22, 23] (by decide +kernel) (by decide +kernel)
set_option maxRecDepth 20000 in
theorem gX0_countOpen_X0_isOpen : GoodIn wsX0_countOpen (wsV RX0 58 RX0 yX0_isOpen wsX0_isOpen) := goodIn_app (goodIn_of _ (by decide +kernel)) ggX0_countOpen_X0_isOpen
theorem dX0_countOpen_0 : decode cX0_countOpen 0 = .ok (.iconst 0, 1) := by decide +kernel
theorem dX0_countOpen_1 : decode cX0_countOpen 1 = .ok (.istore_n 1, 1) := by decide +kernel
theorem dX0_countOpen_2 : decode cX0_countOpen 2 = .ok (.iconst 0, 1) := by decide +kernel
theorem dX0_countOpen_3 : decode cX0_countOpen 3 = .ok (.istore_n 2, 1) := by decide +kernel
theorem dX0_countOpen_4 : decode cX0_countOpen 4 = .ok (.iload_n 2, 1) := by decide +kernel
theorem dX0_countOpen_5 : decode cX0_countOpen 5 = .ok (.bipush 16, 2) := by decide +kernel
theorem dX0_countOpen_7 : decode cX0_countOpen 7 = .ok (.if_icmp .ge 20, 3) := by decide +kernel
theorem dX0_countOpen_10 : decode cX0_countOpen 10 = .ok (.aload_n 0, 1) := by decide +kernel
theorem dX0_countOpen_11 : decode cX0_countOpen 11 = .ok (.iload_n 2, 1) := by decide +kernel
theorem dX0_countOpen_12 : decode cX0_countOpen 12 = .ok (.invokevirtual 58, 3) := by decide +kernel
theorem dX0_countOpen_15 : decode cX0_countOpen 15 = .ok (.ifCond .eq 6, 3) := by decide +kernel
theorem dX0_countOpen_18 : decode cX0_countOpen 18 = .ok (.iinc 1 1, 3) := by decide +kernel
theorem dX0_countOpen_21 : decode cX0_countOpen 21 = .ok (.iinc 2 1, 3) := by decide +kernel
theorem dX0_countOpen_24 : decode cX0_countOpen 24 = .ok (.goto (-20), 3) := by decide +kernel
theorem dX0_countOpen_27 : decode cX0_countOpen 27 = .ok (.iload_n 1, 1) := by decide +kernel
theorem dX0_countOpen_28 : decode cX0_countOpen 28 = .ok (.ireturn, 1) := by decide +kernel
set_option maxRecDepth 20000 in
theorem ggX0_countBarred_X0_countOpen : GoodIn wsX0_countBarred wsX0_countOpen := goodIn_r _ [6, 7, 8, 9, 5, 10, 11, 12, 13, 14, 15, 1, 16, 17, 18, 19, 20, 21, 22, 23, 24, 25, 26, 27] (by decide +kernel) (by decide +kernel)
set_option maxRecDepth 20000 in
theorem gX0_countBarred_X0_countOpen : GoodIn wsX0_countBarred (wsV RX0 61 RX0 yX0_countOpen wsX0_countOpen) := goodIn_app (goodIn_of _ (by decide +kernel)) ggX0_countBarred_X0_countOpen
theorem dX0_countBarred_0 : decode cX0_countBarred 0 = .ok (.aload_n 0, 1) := by decide +kernel
theorem dX0_countBarred_1 : decode cX0_countBarred 1 = .ok (.getfield 33, 3) := by decide +kernel
theorem dX0_countBarred_4 : decode cX0_countBarred 4 = .ok (.aload_n 0, 1) := by decide +kernel
theorem dX0_countBarred_5 : decode cX0_countBarred 5 = .ok (.getfield 33, 3) := by decide +kernel
theorem dX0_countBarred_8 : decode cX0_countBarred 8 = .ok (.imul, 1) := by decide +kernel
theorem dX0_countBarred_9 : decode cX0_countBarred 9 = .ok (.aload_n 0, 1) := by decide +kernel
theorem dX0_countBarred_10 : decode cX0_countBarred 10 = .ok (.invokevirtual 61, 3) := by decide +kernel
theorem dX0_countBarred_13 : decode cX0_countBarred 13 = .ok (.isub, 1) := by decide +kernel
theorem dX0_countBarred_14 : decode cX0_countBarred 14 = .ok (.ireturn, 1) := by decide +kernel
set_option maxRecDepth 20000 in
theorem ggX0_isBlank_X0_hasCell : GoodIn wsX0_isBlank wsX0_hasCell := goodIn_r _ [6, 7, 11, 12, 13, 14, 15, 16, 17, 18, 19] (by decide +kernel) (by decide +kernel)
set_option maxRecDepth 20000 in
theorem gX0_isBlank_X0_hasCell : GoodIn wsX0_isBlank (wsV RX0 46 RX0 yX0_hasCell wsX0_hasCell) := goodIn_app (goodIn_of _ (by decide +kernel)) ggX0_isBlank_X0_hasCell
set_option maxRecDepth 20000 in
theorem ggX0_isBlank_X3_at : GoodIn wsX0_isBlank wsX3_at := goodIn_r _ [10] (by decide +kernel) (by decide +kernel)
set_option maxRecDepth 20000 in
theorem gX0_isBlank_X3_at_n50 : GoodIn wsX0_isBlank (wsX3_at) := ggX0_isBlank_X3_at
theorem dX0_isBlank_0 : decode cX0_isBlank 0 = .ok (.aload_n 0, 1) := by decide +kernel
theorem dX0_isBlank_1 : decode cX0_isBlank 1 = .ok (.iload_n 1, 1) := by decide +kernel
theorem dX0_isBlank_2 : decode cX0_isBlank 2 = .ok (.invokevirtual 46, 3) := by decide +kernel
theorem dX0_isBlank_5 : decode cX0_isBlank 5 = .ok (.ifCond .eq 18, 3) := by decide +kernel
theorem dX0_isBlank_8 : decode cX0_isBlank 8 = .ok (.aload_n 0, 1) := by decide +kernel
theorem dX0_isBlank_9 : decode cX0_isBlank 9 = .ok (.getfield 9, 3) := by decide +kernel
theorem dX0_isBlank_12 : decode cX0_isBlank 12 = .ok (.iload_n 1, 1) := by decide +kernel
theorem dX0_isBlank_13 : decode cX0_isBlank 13 = .ok (.invokestatic 50, 3) := by decide +kernel
theorem dX0_isBlank_16 : decode cX0_isBlank 16 = .ok (.ifCond .ne 7, 3) := by decide +kernel
theorem dX0_isBlank_19 : decode cX0_isBlank 19 = .ok (.iconst 1, 1) := by decide +kernel
theorem dX0_isBlank_20 : decode cX0_isBlank 20 = .ok (.goto 4, 3) := by decide +kernel
theorem dX0_isBlank_23 : decode cX0_isBlank 23 = .ok (.iconst 0, 1) := by decide +kernel
theorem dX0_isBlank_24 : decode cX0_isBlank 24 = .ok (.ireturn, 1) := by decide +kernel
set_option maxRecDepth 20000 in
theorem ggX0_countBlanks_X0_isBlank : GoodIn wsX0_countBlanks wsX0_isBlank := goodIn_r _ [5, 6, 7, 8, 9, 4, 10, 11, 12, 13, 14, 15, 16, 17, 18, 19, 20, 21, 22, 23] (by decide +kernel) (by decide +kernel)
set_option maxRecDepth 20000 in
theorem gX0_countBlanks_X0_isBlank : GoodIn wsX0_countBlanks (wsV RX0 65 RX0 yX0_isBlank wsX0_isBlank) := goodIn_app (goodIn_of _ (by decide +kernel)) ggX0_countBlanks_X0_isBlank
theorem dX0_countBlanks_0 : decode cX0_countBlanks 0 = .ok (.iconst 0, 1) := by decide +kernel
theorem dX0_countBlanks_1 : decode cX0_countBlanks 1 = .ok (.istore_n 1, 1) := by decide +kernel
theorem dX0_countBlanks_2 : decode cX0_countBlanks 2 = .ok (.iconst 0, 1) := by decide +kernel
theorem dX0_countBlanks_3 : decode cX0_countBlanks 3 = .ok (.istore_n 2, 1) := by decide +kernel
theorem dX0_countBlanks_4 : decode cX0_countBlanks 4 = .ok (.iload_n 2, 1) := by decide +kernel
theorem dX0_countBlanks_5 : decode cX0_countBlanks 5 = .ok (.bipush 16, 2) := by decide +kernel
theorem dX0_countBlanks_7 : decode cX0_countBlanks 7 = .ok (.if_icmp .ge 20, 3) := by decide +kernel
theorem dX0_countBlanks_10 : decode cX0_countBlanks 10 = .ok (.aload_n 0, 1) := by decide +kernel
theorem dX0_countBlanks_11 : decode cX0_countBlanks 11 = .ok (.iload_n 2, 1) := by decide +kernel
theorem dX0_countBlanks_12 : decode cX0_countBlanks 12 = .ok (.invokevirtual 65, 3) := by decide +kernel
theorem dX0_countBlanks_15 : decode cX0_countBlanks 15 = .ok (.ifCond .eq 6, 3) := by decide +kernel
theorem dX0_countBlanks_18 : decode cX0_countBlanks 18 = .ok (.iinc 1 1, 3) := by decide +kernel
theorem dX0_countBlanks_21 : decode cX0_countBlanks 21 = .ok (.iinc 2 1, 3) := by decide +kernel
theorem dX0_countBlanks_24 : decode cX0_countBlanks 24 = .ok (.goto (-20), 3) := by decide +kernel
theorem dX0_countBlanks_27 : decode cX0_countBlanks 27 = .ok (.iload_n 1, 1) := by decide +kernel
theorem dX0_countBlanks_28 : decode cX0_countBlanks 28 = .ok (.ireturn, 1) := by decide +kernel
theorem dX0_countRuns_0 : decode cX0_countRuns 0 = .ok (.aload_n 0, 1) := by decide +kernel
theorem dX0_countRuns_1 : decode cX0_countRuns 1 = .ok (.getfield 68, 3) := by decide +kernel
theorem dX0_countRuns_4 : decode cX0_countRuns 4 = .ok (.ireturn, 1) := by decide +kernel
theorem dX0_hasRun_0 : decode cX0_hasRun 0 = .ok (.iload_n 1, 1) := by decide +kernel
theorem dX0_hasRun_1 : decode cX0_hasRun 1 = .ok (.ifCond .lt 15, 3) := by decide +kernel
theorem dX0_hasRun_4 : decode cX0_hasRun 4 = .ok (.iload_n 1, 1) := by decide +kernel
theorem dX0_hasRun_5 : decode cX0_hasRun 5 = .ok (.aload_n 0, 1) := by decide +kernel
theorem dX0_hasRun_6 : decode cX0_hasRun 6 = .ok (.getfield 68, 3) := by decide +kernel
theorem dX0_hasRun_9 : decode cX0_hasRun 9 = .ok (.if_icmp .ge 7, 3) := by decide +kernel
theorem dX0_hasRun_12 : decode cX0_hasRun 12 = .ok (.iconst 1, 1) := by decide +kernel
theorem dX0_hasRun_13 : decode cX0_hasRun 13 = .ok (.goto 4, 3) := by decide +kernel
theorem dX0_hasRun_16 : decode cX0_hasRun 16 = .ok (.iconst 0, 1) := by decide +kernel
theorem dX0_hasRun_17 : decode cX0_hasRun 17 = .ok (.ireturn, 1) := by decide +kernel
set_option maxRecDepth 20000 in
theorem ggX0_firstAt_X3_at : GoodIn wsX0_firstAt wsX3_at := goodIn_r _ [4] (by decide +kernel) (by decide +kernel)
set_option maxRecDepth 20000 in
theorem gX0_firstAt_X3_at_n50 : GoodIn wsX0_firstAt (wsX3_at) := ggX0_firstAt_X3_at
theorem dX0_firstAt_0 : decode cX0_firstAt 0 = .ok (.aload_n 0, 1) := by decide +kernel
theorem dX0_firstAt_1 : decode cX0_firstAt 1 = .ok (.getfield 15, 3) := by decide +kernel
theorem dX0_firstAt_4 : decode cX0_firstAt 4 = .ok (.iload_n 1, 1) := by decide +kernel
theorem dX0_firstAt_5 : decode cX0_firstAt 5 = .ok (.invokestatic 50, 3) := by decide +kernel
theorem dX0_firstAt_8 : decode cX0_firstAt 8 = .ok (.ireturn, 1) := by decide +kernel
set_option maxRecDepth 20000 in
theorem ggX0_lengthAt_X3_at : GoodIn wsX0_lengthAt wsX3_at := goodIn_r _ [4] (by decide +kernel) (by decide +kernel)
set_option maxRecDepth 20000 in
theorem gX0_lengthAt_X3_at_n50 : GoodIn wsX0_lengthAt (wsX3_at) := ggX0_lengthAt_X3_at
theorem dX0_lengthAt_0 : decode cX0_lengthAt 0 = .ok (.aload_n 0, 1) := by decide +kernel
theorem dX0_lengthAt_1 : decode cX0_lengthAt 1 = .ok (.getfield 21, 3) := by decide +kernel
theorem dX0_lengthAt_4 : decode cX0_lengthAt 4 = .ok (.iload_n 1, 1) := by decide +kernel
theorem dX0_lengthAt_5 : decode cX0_lengthAt 5 = .ok (.invokestatic 50, 3) := by decide +kernel
theorem dX0_lengthAt_8 : decode cX0_lengthAt 8 = .ok (.ireturn, 1) := by decide +kernel
set_option maxRecDepth 20000 in
theorem ggX0_sumAt_X3_at : GoodIn wsX0_sumAt wsX3_at := goodIn_r _ [4] (by decide +kernel) (by decide +kernel)
set_option maxRecDepth 20000 in
theorem gX0_sumAt_X3_at_n50 : GoodIn wsX0_sumAt (wsX3_at) := ggX0_sumAt_X3_at
theorem dX0_sumAt_0 : decode cX0_sumAt 0 = .ok (.aload_n 0, 1) := by decide +kernel
theorem dX0_sumAt_1 : decode cX0_sumAt 1 = .ok (.getfield 24, 3) := by decide +kernel
theorem dX0_sumAt_4 : decode cX0_sumAt 4 = .ok (.iload_n 1, 1) := by decide +kernel
theorem dX0_sumAt_5 : decode cX0_sumAt 5 = .ok (.invokestatic 50, 3) := by decide +kernel
theorem dX0_sumAt_8 : decode cX0_sumAt 8 = .ok (.ireturn, 1) := by decide +kernel
set_option maxRecDepth 20000 in
theorem ggX0_putSum_X3_put : GoodIn wsX0_putSum wsX3_put := goodIn_r _ [4] (by decide +kernel) (by decide +kernel)
set_option maxRecDepth 20000 in
theorem gX0_putSum_X3_put_n54 : GoodIn wsX0_putSum (wsX3_put) := ggX0_putSum_X3_put
theorem dX0_putSum_0 : decode cX0_putSum 0 = .ok (.aload_n 0, 1) := by decide +kernel
theorem dX0_putSum_1 : decode cX0_putSum 1 = .ok (.getfield 24, 3) := by decide +kernel
theorem dX0_putSum_4 : decode cX0_putSum 4 = .ok (.iload_n 1, 1) := by decide +kernel
theorem dX0_putSum_5 : decode cX0_putSum 5 = .ok (.iload_n 2, 1) := by decide +kernel
theorem dX0_putSum_6 : decode cX0_putSum 6 = .ok (.invokestatic 54, 3) := by decide +kernel
theorem dX0_putSum_9 : decode cX0_putSum 9 = .ok (.return_, 1) := by decide +kernel
set_option maxRecDepth 20000 in
theorem ggX0_cellAt_X3_at : GoodIn wsX0_cellAt wsX3_at := goodIn_r _ [5] (by decide +kernel) (by decide +kernel)
set_option maxRecDepth 20000 in
theorem gX0_cellAt_X3_at_n50 : GoodIn wsX0_cellAt (wsX3_at) := ggX0_cellAt_X3_at
theorem dX0_cellAt_0 : decode cX0_cellAt 0 = .ok (.aload_n 0, 1) := by decide +kernel
theorem dX0_cellAt_1 : decode cX0_cellAt 1 = .ok (.getfield 15, 3) := by decide +kernel
theorem dX0_cellAt_4 : decode cX0_cellAt 4 = .ok (.iload_n 1, 1) := by decide +kernel
theorem dX0_cellAt_5 : decode cX0_cellAt 5 = .ok (.invokestatic 50, 3) := by decide +kernel
theorem dX0_cellAt_8 : decode cX0_cellAt 8 = .ok (.iload_n 2, 1) := by decide +kernel
theorem dX0_cellAt_9 : decode cX0_cellAt 9 = .ok (.aload_n 0, 1) := by decide +kernel
theorem dX0_cellAt_10 : decode cX0_cellAt 10 = .ok (.getfield 18, 3) := by decide +kernel
theorem dX0_cellAt_13 : decode cX0_cellAt 13 = .ok (.iload_n 1, 1) := by decide +kernel
theorem dX0_cellAt_14 : decode cX0_cellAt 14 = .ok (.invokestatic 50, 3) := by decide +kernel
theorem dX0_cellAt_17 : decode cX0_cellAt 17 = .ok (.imul, 1) := by decide +kernel
theorem dX0_cellAt_18 : decode cX0_cellAt 18 = .ok (.iadd, 1) := by decide +kernel
theorem dX0_cellAt_19 : decode cX0_cellAt 19 = .ok (.ireturn, 1) := by decide +kernel
set_option maxRecDepth 20000 in
theorem ggX0_rowRunOf_X3_at : GoodIn wsX0_rowRunOf wsX3_at := goodIn_r _ [4] (by decide +kernel) (by decide +kernel)
set_option maxRecDepth 20000 in
theorem gX0_rowRunOf_X3_at_n50 : GoodIn wsX0_rowRunOf (wsX3_at) := ggX0_rowRunOf_X3_at
theorem dX0_rowRunOf_0 : decode cX0_rowRunOf 0 = .ok (.aload_n 0, 1) := by decide +kernel
theorem dX0_rowRunOf_1 : decode cX0_rowRunOf 1 = .ok (.getfield 27, 3) := by decide +kernel
theorem dX0_rowRunOf_4 : decode cX0_rowRunOf 4 = .ok (.iload_n 1, 1) := by decide +kernel
theorem dX0_rowRunOf_5 : decode cX0_rowRunOf 5 = .ok (.invokestatic 50, 3) := by decide +kernel
theorem dX0_rowRunOf_8 : decode cX0_rowRunOf 8 = .ok (.ireturn, 1) := by decide +kernel
set_option maxRecDepth 20000 in
theorem ggX0_columnRunOf_X3_at : GoodIn wsX0_columnRunOf wsX3_at := goodIn_r _ [4] (by decide +kernel) (by decide +kernel)
set_option maxRecDepth 20000 in
theorem gX0_columnRunOf_X3_at_n50 : GoodIn wsX0_columnRunOf (wsX3_at) := ggX0_columnRunOf_X3_at
theorem dX0_columnRunOf_0 : decode cX0_columnRunOf 0 = .ok (.aload_n 0, 1) := by decide +kernel
theorem dX0_columnRunOf_1 : decode cX0_columnRunOf 1 = .ok (.getfield 30, 3) := by decide +kernel
theorem dX0_columnRunOf_4 : decode cX0_columnRunOf 4 = .ok (.iload_n 1, 1) := by decide +kernel
theorem dX0_columnRunOf_5 : decode cX0_columnRunOf 5 = .ok (.invokestatic 50, 3) := by decide +kernel
theorem dX0_columnRunOf_8 : decode cX0_columnRunOf 8 = .ok (.ireturn, 1) := by decide +kernel
set_option maxRecDepth 20000 in
theorem ggX0_findRuns_J7_fill_53178 : GoodIn wsX0_findRuns wsJ7_fill_53178 := goodIn_r _ [9] (by decide +kernel) (by decide +kernel)
set_option maxRecDepth 20000 in
theorem gX0_findRuns_J7_fill_53178 : GoodIn wsX0_findRuns (va_wsS RX0 37 yJ7_fill_53178 wsJ7_fill_53178) := goodIn_app (goodIn_of _ (by decide +kernel)) ggX0_findRuns_J7_fill_53178
set_option maxRecDepth 20000 in
theorem ggX0_findRuns_X0_findRunsOfLine : GoodIn wsX0_findRuns wsX0_findRunsOfLine := goodIn_r _ [14, 5, 15, 16, 17, 13, 18, 19, 20, 21, 22, 23, 24, 25, 26, 27, 28, 29, 30, 31, 1, 32, 33, 3, 4, 34, 35, 36, 37, 38, 39, 40, 41, 42, 43, 44] (by decide +kernel) (by decide +kernel)
set_option maxRecDepth 20000 in
theorem gX0_findRuns_X0_findRunsOfLine : GoodIn wsX0_findRuns (wsV RX0 71 RX0 yX0_findRunsOfLine wsX0_findRunsOfLine) := goodIn_app (goodIn_of _ (by decide +kernel)) ggX0_findRuns_X0_findRunsOfLine
theorem dX0_findRuns_0 : decode cX0_findRuns 0 = .ok (.aload_n 0, 1) := by decide +kernel
theorem dX0_findRuns_1 : decode cX0_findRuns 1 = .ok (.iconst 0, 1) := by decide +kernel
theorem dX0_findRuns_2 : decode cX0_findRuns 2 = .ok (.putfield 68, 3) := by decide +kernel
theorem dX0_findRuns_5 : decode cX0_findRuns 5 = .ok (.aload_n 0, 1) := by decide +kernel
theorem dX0_findRuns_6 : decode cX0_findRuns 6 = .ok (.getfield 24, 3) := by decide +kernel
theorem dX0_findRuns_9 : decode cX0_findRuns 9 = .ok (.iconst 0, 1) := by decide +kernel
theorem dX0_findRuns_10 : decode cX0_findRuns 10 = .ok (.invokestatic 37, 3) := by decide +kernel
theorem dX0_findRuns_13 : decode cX0_findRuns 13 = .ok (.aload_n 0, 1) := by decide +kernel
theorem dX0_findRuns_14 : decode cX0_findRuns 14 = .ok (.getfield 27, 3) := by decide +kernel
theorem dX0_findRuns_17 : decode cX0_findRuns 17 = .ok (.iconst (-1), 1) := by decide +kernel
theorem dX0_findRuns_18 : decode cX0_findRuns 18 = .ok (.invokestatic 37, 3) := by decide +kernel
theorem dX0_findRuns_21 : decode cX0_findRuns 21 = .ok (.aload_n 0, 1) := by decide +kernel
theorem dX0_findRuns_22 : decode cX0_findRuns 22 = .ok (.getfield 30, 3) := by decide +kernel
theorem dX0_findRuns_25 : decode cX0_findRuns 25 = .ok (.iconst (-1), 1) := by decide +kernel
theorem dX0_findRuns_26 : decode cX0_findRuns 26 = .ok (.invokestatic 37, 3) := by decide +kernel
theorem dX0_findRuns_29 : decode cX0_findRuns 29 = .ok (.iconst 0, 1) := by decide +kernel
theorem dX0_findRuns_30 : decode cX0_findRuns 30 = .ok (.istore_n 1, 1) := by decide +kernel
theorem dX0_findRuns_31 : decode cX0_findRuns 31 = .ok (.iload_n 1, 1) := by decide +kernel
theorem dX0_findRuns_32 : decode cX0_findRuns 32 = .ok (.aload_n 0, 1) := by decide +kernel
theorem dX0_findRuns_33 : decode cX0_findRuns 33 = .ok (.getfield 33, 3) := by decide +kernel
theorem dX0_findRuns_36 : decode cX0_findRuns 36 = .ok (.if_icmp .ge 17, 3) := by decide +kernel
theorem dX0_findRuns_39 : decode cX0_findRuns 39 = .ok (.aload_n 0, 1) := by decide +kernel
theorem dX0_findRuns_40 : decode cX0_findRuns 40 = .ok (.iload_n 1, 1) := by decide +kernel
theorem dX0_findRuns_41 : decode cX0_findRuns 41 = .ok (.iconst 4, 1) := by decide +kernel
theorem dX0_findRuns_42 : decode cX0_findRuns 42 = .ok (.imul, 1) := by decide +kernel
theorem dX0_findRuns_43 : decode cX0_findRuns 43 = .ok (.iconst 1, 1) := by decide +kernel
theorem dX0_findRuns_44 : decode cX0_findRuns 44 = .ok (.invokevirtual 71, 3) := by decide +kernel
theorem dX0_findRuns_47 : decode cX0_findRuns 47 = .ok (.iinc 1 1, 3) := by decide +kernel
theorem dX0_findRuns_50 : decode cX0_findRuns 50 = .ok (.goto (-19), 3) := by decide +kernel
theorem dX0_findRuns_53 : decode cX0_findRuns 53 = .ok (.iconst 0, 1) := by decide +kernel
theorem dX0_findRuns_54 : decode cX0_findRuns 54 = .ok (.istore_n 1, 1) := by decide +kernel
theorem dX0_findRuns_55 : decode cX0_findRuns 55 = .ok (.iload_n 1, 1) := by decide +kernel
theorem dX0_findRuns_56 : decode cX0_findRuns 56 = .ok (.aload_n 0, 1) := by decide +kernel
theorem dX0_findRuns_57 : decode cX0_findRuns 57 = .ok (.getfield 33, 3) := by decide +kernel
theorem dX0_findRuns_60 : decode cX0_findRuns 60 = .ok (.if_icmp .ge 15, 3) := by decide +kernel
theorem dX0_findRuns_63 : decode cX0_findRuns 63 = .ok (.aload_n 0, 1) := by decide +kernel
theorem dX0_findRuns_64 : decode cX0_findRuns 64 = .ok (.iload_n 1, 1) := by decide +kernel
theorem dX0_findRuns_65 : decode cX0_findRuns 65 = .ok (.iconst 4, 1) := by decide +kernel
theorem dX0_findRuns_66 : decode cX0_findRuns 66 = .ok (.invokevirtual 71, 3) := by decide +kernel
theorem dX0_findRuns_69 : decode cX0_findRuns 69 = .ok (.iinc 1 1, 3) := by decide +kernel
theorem dX0_findRuns_72 : decode cX0_findRuns 72 = .ok (.goto (-17), 3) := by decide +kernel
theorem dX0_findRuns_75 : decode cX0_findRuns 75 = .ok (.return_, 1) := by decide +kernel
set_option maxRecDepth 20000 in
theorem ggX0_findRunsOfLine_X0_isOpen : GoodIn wsX0_findRunsOfLine wsX0_isOpen := goodIn_r _ [6, 7, 8, 9, 10, 5, 11, 1, 12, 13, 14, 27, 28, 29, 30, 31, 32, 33, 34, 35] (by decide +kernel) (by decide +kernel)
set_option maxRecDepth 20000 in
theorem gX0_findRunsOfLine_X0_isOpen : GoodIn wsX0_findRunsOfLine (wsV RX0 58 RX0 yX0_isOpen wsX0_isOpen) := goodIn_app (goodIn_of _ (by decide +kernel)) ggX0_findRunsOfLine_X0_isOpen
set_option maxRecDepth 20000 in
theorem ggX0_findRunsOfLine_X0_addRun : GoodIn wsX0_findRunsOfLine wsX0_addRun := goodIn_r _ [18, 19, 20, 21, 22, 23, 24, 25, 13, 26, 27, 28, 29, 30, 31, 32, 33, 34, 35] (by decide +kernel) (by decide +kernel)
set_option maxRecDepth 20000 in
theorem gX0_findRunsOfLine_X0_addRun : GoodIn wsX0_findRunsOfLine (wsV RX0 75 RX0 yX0_addRun wsX0_addRun) := goodIn_app (goodIn_of _ (by decide +kernel)) ggX0_findRunsOfLine_X0_addRun
theorem dX0_findRunsOfLine_0 : decode cX0_findRunsOfLine 0 = .ok (.iconst 0, 1) := by decide +kernel
theorem dX0_findRunsOfLine_1 : decode cX0_findRunsOfLine 1 = .ok (.istore_n 3, 1) := by decide +kernel
theorem dX0_findRunsOfLine_2 : decode cX0_findRunsOfLine 2 = .ok (.iconst 0, 1) := by decide +kernel
theorem dX0_findRunsOfLine_3 : decode cX0_findRunsOfLine 3 = .ok (.istore 4, 2) := by decide +kernel
theorem dX0_findRunsOfLine_5 : decode cX0_findRunsOfLine 5 = .ok (.iload 4, 2) := by decide +kernel
theorem dX0_findRunsOfLine_7 : decode cX0_findRunsOfLine 7 = .ok (.aload_n 0, 1) := by decide +kernel
theorem dX0_findRunsOfLine_8 : decode cX0_findRunsOfLine 8 = .ok (.getfield 33, 3) := by decide +kernel
theorem dX0_findRunsOfLine_11 : decode cX0_findRunsOfLine 11 = .ok (.if_icmp .gt 53, 3) := by decide +kernel
theorem dX0_findRunsOfLine_14 : decode cX0_findRunsOfLine 14 = .ok (.iload 4, 2) := by decide +kernel
theorem dX0_findRunsOfLine_16 : decode cX0_findRunsOfLine 16 = .ok (.aload_n 0, 1) := by decide +kernel
theorem dX0_findRunsOfLine_17 : decode cX0_findRunsOfLine 17 = .ok (.getfield 33, 3) := by decide +kernel
theorem dX0_findRunsOfLine_20 : decode cX0_findRunsOfLine 20 = .ok (.if_icmp .ge 22, 3) := by decide +kernel
theorem dX0_findRunsOfLine_23 : decode cX0_findRunsOfLine 23 = .ok (.aload_n 0, 1) := by decide +kernel
theorem dX0_findRunsOfLine_24 : decode cX0_findRunsOfLine 24 = .ok (.iload_n 1, 1) := by decide +kernel
theorem dX0_findRunsOfLine_25 : decode cX0_findRunsOfLine 25 = .ok (.iload 4, 2) := by decide +kernel
theorem dX0_findRunsOfLine_27 : decode cX0_findRunsOfLine 27 = .ok (.iload_n 2, 1) := by decide +kernel
theorem dX0_findRunsOfLine_28 : decode cX0_findRunsOfLine 28 = .ok (.imul, 1) := by decide +kernel
theorem dX0_findRunsOfLine_29 : decode cX0_findRunsOfLine 29 = .ok (.iadd, 1) := by decide +kernel
theorem dX0_findRunsOfLine_30 : decode cX0_findRunsOfLine 30 = .ok (.invokevirtual 58, 3) := by decide +kernel
theorem dX0_findRunsOfLine_33 : decode cX0_findRunsOfLine 33 = .ok (.ifCond .eq 9, 3) := by decide +kernel
theorem dX0_findRunsOfLine_36 : decode cX0_findRunsOfLine 36 = .ok (.iinc 3 1, 3) := by decide +kernel
theorem dX0_findRunsOfLine_39 : decode cX0_findRunsOfLine 39 = .ok (.goto 19, 3) := by decide +kernel
theorem dX0_findRunsOfLine_42 : decode cX0_findRunsOfLine 42 = .ok (.aload_n 0, 1) := by decide +kernel
theorem dX0_findRunsOfLine_43 : decode cX0_findRunsOfLine 43 = .ok (.iload_n 1, 1) := by decide +kernel
theorem dX0_findRunsOfLine_44 : decode cX0_findRunsOfLine 44 = .ok (.iload 4, 2) := by decide +kernel
theorem dX0_findRunsOfLine_46 : decode cX0_findRunsOfLine 46 = .ok (.iload_n 3, 1) := by decide +kernel
theorem dX0_findRunsOfLine_47 : decode cX0_findRunsOfLine 47 = .ok (.isub, 1) := by decide +kernel
theorem dX0_findRunsOfLine_48 : decode cX0_findRunsOfLine 48 = .ok (.iload_n 2, 1) := by decide +kernel
theorem dX0_findRunsOfLine_49 : decode cX0_findRunsOfLine 49 = .ok (.imul, 1) := by decide +kernel
theorem dX0_findRunsOfLine_50 : decode cX0_findRunsOfLine 50 = .ok (.iadd, 1) := by decide +kernel
theorem dX0_findRunsOfLine_51 : decode cX0_findRunsOfLine 51 = .ok (.iload_n 2, 1) := by decide +kernel
theorem dX0_findRunsOfLine_52 : decode cX0_findRunsOfLine 52 = .ok (.iload_n 3, 1) := by decide +kernel
theorem dX0_findRunsOfLine_53 : decode cX0_findRunsOfLine 53 = .ok (.invokevirtual 75, 3) := by decide +kernel
theorem dX0_findRunsOfLine_56 : decode cX0_findRunsOfLine 56 = .ok (.iconst 0, 1) := by decide +kernel
theorem dX0_findRunsOfLine_57 : decode cX0_findRunsOfLine 57 = .ok (.istore_n 3, 1) := by decide +kernel
theorem dX0_findRunsOfLine_58 : decode cX0_findRunsOfLine 58 = .ok (.iinc 4 1, 3) := by decide +kernel
theorem dX0_findRunsOfLine_61 : decode cX0_findRunsOfLine 61 = .ok (.goto (-56), 3) := by decide +kernel
theorem dX0_findRunsOfLine_64 : decode cX0_findRunsOfLine 64 = .ok (.return_, 1) := by decide +kernel
set_option maxRecDepth 20000 in
theorem ggX0_addRun_X3_put : GoodIn wsX0_addRun wsX3_put := goodIn_r _ [9] (by decide +kernel) (by decide +kernel)
set_option maxRecDepth 20000 in
theorem gX0_addRun_X3_put_n54 : GoodIn wsX0_addRun (wsX3_put) := ggX0_addRun_X3_put
theorem dX0_addRun_0 : decode cX0_addRun 0 = .ok (.iload_n 3, 1) := by decide +kernel
theorem dX0_addRun_1 : decode cX0_addRun 1 = .ok (.iconst 2, 1) := by decide +kernel
theorem dX0_addRun_2 : decode cX0_addRun 2 = .ok (.if_icmp .ge 4, 3) := by decide +kernel
theorem dX0_addRun_5 : decode cX0_addRun 5 = .ok (.return_, 1) := by decide +kernel
theorem dX0_addRun_6 : decode cX0_addRun 6 = .ok (.aload_n 0, 1) := by decide +kernel
theorem dX0_addRun_7 : decode cX0_addRun 7 = .ok (.getfield 15, 3) := by decide +kernel
theorem dX0_addRun_10 : decode cX0_addRun 10 = .ok (.aload_n 0, 1) := by decide +kernel
theorem dX0_addRun_11 : decode cX0_addRun 11 = .ok (.getfield 68, 3) := by decide +kernel
theorem dX0_addRun_14 : decode cX0_addRun 14 = .ok (.iload_n 1, 1) := by decide +kernel
theorem dX0_addRun_15 : decode cX0_addRun 15 = .ok (.invokestatic 54, 3) := by decide +kernel
theorem dX0_addRun_18 : decode cX0_addRun 18 = .ok (.aload_n 0, 1) := by decide +kernel
theorem dX0_addRun_19 : decode cX0_addRun 19 = .ok (.getfield 18, 3) := by decide +kernel
theorem dX0_addRun_22 : decode cX0_addRun 22 = .ok (.aload_n 0, 1) := by decide +kernel
theorem dX0_addRun_23 : decode cX0_addRun 23 = .ok (.getfield 68, 3) := by decide +kernel
theorem dX0_addRun_26 : decode cX0_addRun 26 = .ok (.iload_n 2, 1) := by decide +kernel
theorem dX0_addRun_27 : decode cX0_addRun 27 = .ok (.invokestatic 54, 3) := by decide +kernel
theorem dX0_addRun_30 : decode cX0_addRun 30 = .ok (.aload_n 0, 1) := by decide +kernel
theorem dX0_addRun_31 : decode cX0_addRun 31 = .ok (.getfield 21, 3) := by decide +kernel
theorem dX0_addRun_34 : decode cX0_addRun 34 = .ok (.aload_n 0, 1) := by decide +kernel
theorem dX0_addRun_35 : decode cX0_addRun 35 = .ok (.getfield 68, 3) := by decide +kernel
theorem dX0_addRun_38 : decode cX0_addRun 38 = .ok (.iload_n 3, 1) := by decide +kernel
theorem dX0_addRun_39 : decode cX0_addRun 39 = .ok (.invokestatic 54, 3) := by decide +kernel
theorem dX0_addRun_42 : decode cX0_addRun 42 = .ok (.iconst 0, 1) := by decide +kernel
theorem dX0_addRun_43 : decode cX0_addRun 43 = .ok (.istore 4, 2) := by decide +kernel
theorem dX0_addRun_45 : decode cX0_addRun 45 = .ok (.iload 4, 2) := by decide +kernel
theorem dX0_addRun_47 : decode cX0_addRun 47 = .ok (.iload_n 3, 1) := by decide +kernel
theorem dX0_addRun_48 : decode cX0_addRun 48 = .ok (.if_icmp .ge 38, 3) := by decide +kernel
theorem dX0_addRun_51 : decode cX0_addRun 51 = .ok (.iload_n 2, 1) := by decide +kernel
theorem dX0_addRun_52 : decode cX0_addRun 52 = .ok (.iconst 1, 1) := by decide +kernel
theorem dX0_addRun_53 : decode cX0_addRun 53 = .ok (.if_icmp .ne 10, 3) := by decide +kernel
theorem dX0_addRun_56 : decode cX0_addRun 56 = .ok (.aload_n 0, 1) := by decide +kernel
theorem dX0_addRun_57 : decode cX0_addRun 57 = .ok (.getfield 27, 3) := by decide +kernel
theorem dX0_addRun_60 : decode cX0_addRun 60 = .ok (.goto 7, 3) := by decide +kernel
theorem dX0_addRun_63 : decode cX0_addRun 63 = .ok (.aload_n 0, 1) := by decide +kernel
theorem dX0_addRun_64 : decode cX0_addRun 64 = .ok (.getfield 30, 3) := by decide +kernel
theorem dX0_addRun_67 : decode cX0_addRun 67 = .ok (.iload_n 1, 1) := by decide +kernel
theorem dX0_addRun_68 : decode cX0_addRun 68 = .ok (.iload 4, 2) := by decide +kernel
theorem dX0_addRun_70 : decode cX0_addRun 70 = .ok (.iload_n 2, 1) := by decide +kernel
theorem dX0_addRun_71 : decode cX0_addRun 71 = .ok (.imul, 1) := by decide +kernel
theorem dX0_addRun_72 : decode cX0_addRun 72 = .ok (.iadd, 1) := by decide +kernel
theorem dX0_addRun_73 : decode cX0_addRun 73 = .ok (.aload_n 0, 1) := by decide +kernel
theorem dX0_addRun_74 : decode cX0_addRun 74 = .ok (.getfield 68, 3) := by decide +kernel
theorem dX0_addRun_77 : decode cX0_addRun 77 = .ok (.invokestatic 54, 3) := by decide +kernel
theorem dX0_addRun_80 : decode cX0_addRun 80 = .ok (.iinc 4 1, 3) := by decide +kernel
theorem dX0_addRun_83 : decode cX0_addRun 83 = .ok (.goto (-38), 3) := by decide +kernel
theorem dX0_addRun_86 : decode cX0_addRun 86 = .ok (.aload_n 0, 1) := by decide +kernel
theorem dX0_addRun_87 : decode cX0_addRun 87 = .ok (.dup, 1) := by decide +kernel
theorem dX0_addRun_88 : decode cX0_addRun 88 = .ok (.getfield 68, 3) := by decide +kernel
theorem dX0_addRun_91 : decode cX0_addRun 91 = .ok (.iconst 1, 1) := by decide +kernel
theorem dX0_addRun_92 : decode cX0_addRun 92 = .ok (.iadd, 1) := by decide +kernel
theorem dX0_addRun_93 : decode cX0_addRun 93 = .ok (.putfield 68, 3) := by decide +kernel
theorem dX0_addRun_96 : decode cX0_addRun 96 = .ok (.return_, 1) := by decide +kernel
set_option maxRecDepth 20000 in
theorem ggX0_isFilled_X0_countBlanks : GoodIn wsX0_isFilled wsX0_countBlanks := goodIn_r _ [5, 6, 7, 8, 4, 9, 10, 11, 12, 13, 14, 15, 16, 17, 18, 19, 20, 21, 22, 23, 24, 25, 26, 27] (by decide +kernel) (by decide +kernel)
set_option maxRecDepth 20000 in
theorem gX0_isFilled_X0_countBlanks : GoodIn wsX0_isFilled (wsV RX0 79 RX0 yX0_countBlanks wsX0_countBlanks) := goodIn_app (goodIn_of _ (by decide +kernel)) ggX0_isFilled_X0_countBlanks
theorem dX0_isFilled_0 : decode cX0_isFilled 0 = .ok (.aload_n 0, 1) := by decide +kernel
theorem dX0_isFilled_1 : decode cX0_isFilled 1 = .ok (.invokevirtual 79, 3) := by decide +kernel
theorem dX0_isFilled_4 : decode cX0_isFilled 4 = .ok (.ifCond .ne 7, 3) := by decide +kernel
theorem dX0_isFilled_7 : decode cX0_isFilled 7 = .ok (.iconst 1, 1) := by decide +kernel
theorem dX0_isFilled_8 : decode cX0_isFilled 8 = .ok (.goto 4, 3) := by decide +kernel
theorem dX0_isFilled_11 : decode cX0_isFilled 11 = .ok (.iconst 0, 1) := by decide +kernel
theorem dX0_isFilled_12 : decode cX0_isFilled 12 = .ok (.ireturn, 1) := by decide +kernel
set_option maxRecDepth 20000 in
theorem ggX0_givesTwice_X0_hasTwice : GoodIn wsX0_givesTwice wsX0_hasTwice := goodIn_r _ [7, 8, 9, 10, 6, 11, 12, 13, 14, 15, 16, 17, 18, 19, 20, 21, 22, 23, 24, 25, 26, 27, 28, 29, 30] (by decide +kernel) (by decide +kernel)
set_option maxRecDepth 20000 in
theorem gX0_givesTwice_X0_hasTwice : GoodIn wsX0_givesTwice (wsV RX0 82 RX0 yX0_hasTwice wsX0_hasTwice) := goodIn_app (goodIn_of _ (by decide +kernel)) ggX0_givesTwice_X0_hasTwice
theorem dX0_givesTwice_0 : decode cX0_givesTwice 0 = .ok (.iconst 0, 1) := by decide +kernel
theorem dX0_givesTwice_1 : decode cX0_givesTwice 1 = .ok (.istore_n 1, 1) := by decide +kernel
theorem dX0_givesTwice_2 : decode cX0_givesTwice 2 = .ok (.iload_n 1, 1) := by decide +kernel
theorem dX0_givesTwice_3 : decode cX0_givesTwice 3 = .ok (.aload_n 0, 1) := by decide +kernel
theorem dX0_givesTwice_4 : decode cX0_givesTwice 4 = .ok (.getfield 68, 3) := by decide +kernel
theorem dX0_givesTwice_7 : decode cX0_givesTwice 7 = .ok (.if_icmp .ge 23, 3) := by decide +kernel
theorem dX0_givesTwice_10 : decode cX0_givesTwice 10 = .ok (.aload_n 0, 1) := by decide +kernel
theorem dX0_givesTwice_11 : decode cX0_givesTwice 11 = .ok (.iload_n 1, 1) := by decide +kernel
theorem dX0_givesTwice_12 : decode cX0_givesTwice 12 = .ok (.aload_n 0, 1) := by decide +kernel
theorem dX0_givesTwice_13 : decode cX0_givesTwice 13 = .ok (.getfield 9, 3) := by decide +kernel
theorem dX0_givesTwice_16 : decode cX0_givesTwice 16 = .ok (.invokevirtual 82, 3) := by decide +kernel
theorem dX0_givesTwice_19 : decode cX0_givesTwice 19 = .ok (.ifCond .eq 5, 3) := by decide +kernel
theorem dX0_givesTwice_22 : decode cX0_givesTwice 22 = .ok (.iconst 1, 1) := by decide +kernel
theorem dX0_givesTwice_23 : decode cX0_givesTwice 23 = .ok (.ireturn, 1) := by decide +kernel
theorem dX0_givesTwice_24 : decode cX0_givesTwice 24 = .ok (.iinc 1 1, 3) := by decide +kernel
theorem dX0_givesTwice_27 : decode cX0_givesTwice 27 = .ok (.goto (-25), 3) := by decide +kernel
theorem dX0_givesTwice_30 : decode cX0_givesTwice 30 = .ok (.iconst 0, 1) := by decide +kernel
theorem dX0_givesTwice_31 : decode cX0_givesTwice 31 = .ok (.ireturn, 1) := by decide +kernel
set_option maxRecDepth 20000 in
theorem ggX0_sumAndEmpty_X0_totalOf : GoodIn wsX0_sumAndEmpty wsX0_totalOf := goodIn_r _ [8, 9, 10, 11, 7, 12, 13, 14, 15, 16, 17, 18, 19, 20, 21, 22, 34, 35, 36, 37, 38, 39, 40, 41, 42] (by decide +kernel) (by decide +kernel)
set_option maxRecDepth 20000 in
theorem gX0_sumAndEmpty_X0_totalOf : GoodIn wsX0_sumAndEmpty (wsV RX0 86 RX0 yX0_totalOf wsX0_totalOf) := goodIn_app (goodIn_of _ (by decide +kernel)) ggX0_sumAndEmpty_X0_totalOf
set_option maxRecDepth 20000 in
theorem ggX0_sumAndEmpty_X3_put : GoodIn wsX0_sumAndEmpty wsX3_put := goodIn_r _ [24] (by decide +kernel) (by decide +kernel)
set_option maxRecDepth 20000 in
theorem gX0_sumAndEmpty_X3_put_n54 : GoodIn wsX0_sumAndEmpty (wsX3_put) := ggX0_sumAndEmpty_X3_put
set_option maxRecDepth 20000 in
theorem ggX0_sumAndEmpty_X0_isOpen : GoodIn wsX0_sumAndEmpty wsX0_isOpen := goodIn_r _ [28, 3, 29, 30, 31, 7, 32, 33, 14, 15, 16, 34, 35, 36, 37, 38, 39, 40, 41, 42] (by decide +kernel) (by decide +kernel)
set_option maxRecDepth 20000 in
theorem gX0_sumAndEmpty_X0_isOpen : GoodIn wsX0_sumAndEmpty (wsV RX0 58 RX0 yX0_isOpen wsX0_isOpen) := goodIn_app (goodIn_of _ (by decide +kernel)) ggX0_sumAndEmpty_X0_isOpen
theorem dX0_sumAndEmpty_0 : decode cX0_sumAndEmpty 0 = .ok (.iconst 0, 1) := by decide +kernel
theorem dX0_sumAndEmpty_1 : decode cX0_sumAndEmpty 1 = .ok (.istore_n 1, 1) := by decide +kernel
theorem dX0_sumAndEmpty_2 : decode cX0_sumAndEmpty 2 = .ok (.iload_n 1, 1) := by decide +kernel
theorem dX0_sumAndEmpty_3 : decode cX0_sumAndEmpty 3 = .ok (.aload_n 0, 1) := by decide +kernel
theorem dX0_sumAndEmpty_4 : decode cX0_sumAndEmpty 4 = .ok (.getfield 68, 3) := by decide +kernel
theorem dX0_sumAndEmpty_7 : decode cX0_sumAndEmpty 7 = .ok (.if_icmp .ge 26, 3) := by decide +kernel
theorem dX0_sumAndEmpty_10 : decode cX0_sumAndEmpty 10 = .ok (.aload_n 0, 1) := by decide +kernel
theorem dX0_sumAndEmpty_11 : decode cX0_sumAndEmpty 11 = .ok (.getfield 24, 3) := by decide +kernel
theorem dX0_sumAndEmpty_14 : decode cX0_sumAndEmpty 14 = .ok (.iload_n 1, 1) := by decide +kernel
theorem dX0_sumAndEmpty_15 : decode cX0_sumAndEmpty 15 = .ok (.aload_n 0, 1) := by decide +kernel
theorem dX0_sumAndEmpty_16 : decode cX0_sumAndEmpty 16 = .ok (.iload_n 1, 1) := by decide +kernel
theorem dX0_sumAndEmpty_17 : decode cX0_sumAndEmpty 17 = .ok (.aload_n 0, 1) := by decide +kernel
theorem dX0_sumAndEmpty_18 : decode cX0_sumAndEmpty 18 = .ok (.getfield 9, 3) := by decide +kernel
theorem dX0_sumAndEmpty_21 : decode cX0_sumAndEmpty 21 = .ok (.invokevirtual 86, 3) := by decide +kernel
theorem dX0_sumAndEmpty_24 : decode cX0_sumAndEmpty 24 = .ok (.invokestatic 54, 3) := by decide +kernel
theorem dX0_sumAndEmpty_27 : decode cX0_sumAndEmpty 27 = .ok (.iinc 1 1, 3) := by decide +kernel
theorem dX0_sumAndEmpty_30 : decode cX0_sumAndEmpty 30 = .ok (.goto (-28), 3) := by decide +kernel
theorem dX0_sumAndEmpty_33 : decode cX0_sumAndEmpty 33 = .ok (.iconst 0, 1) := by decide +kernel
theorem dX0_sumAndEmpty_34 : decode cX0_sumAndEmpty 34 = .ok (.istore_n 1, 1) := by decide +kernel
theorem dX0_sumAndEmpty_35 : decode cX0_sumAndEmpty 35 = .ok (.iload_n 1, 1) := by decide +kernel
theorem dX0_sumAndEmpty_36 : decode cX0_sumAndEmpty 36 = .ok (.bipush 16, 2) := by decide +kernel
theorem dX0_sumAndEmpty_38 : decode cX0_sumAndEmpty 38 = .ok (.if_icmp .ge 26, 3) := by decide +kernel
theorem dX0_sumAndEmpty_41 : decode cX0_sumAndEmpty 41 = .ok (.aload_n 0, 1) := by decide +kernel
theorem dX0_sumAndEmpty_42 : decode cX0_sumAndEmpty 42 = .ok (.iload_n 1, 1) := by decide +kernel
theorem dX0_sumAndEmpty_43 : decode cX0_sumAndEmpty 43 = .ok (.invokevirtual 58, 3) := by decide +kernel
theorem dX0_sumAndEmpty_46 : decode cX0_sumAndEmpty 46 = .ok (.ifCond .eq 12, 3) := by decide +kernel
theorem dX0_sumAndEmpty_49 : decode cX0_sumAndEmpty 49 = .ok (.aload_n 0, 1) := by decide +kernel
theorem dX0_sumAndEmpty_50 : decode cX0_sumAndEmpty 50 = .ok (.getfield 9, 3) := by decide +kernel
theorem dX0_sumAndEmpty_53 : decode cX0_sumAndEmpty 53 = .ok (.iload_n 1, 1) := by decide +kernel
theorem dX0_sumAndEmpty_54 : decode cX0_sumAndEmpty 54 = .ok (.iconst 0, 1) := by decide +kernel
theorem dX0_sumAndEmpty_55 : decode cX0_sumAndEmpty 55 = .ok (.invokestatic 54, 3) := by decide +kernel
theorem dX0_sumAndEmpty_58 : decode cX0_sumAndEmpty 58 = .ok (.iinc 1 1, 3) := by decide +kernel
theorem dX0_sumAndEmpty_61 : decode cX0_sumAndEmpty 61 = .ok (.goto (-26), 3) := by decide +kernel
theorem dX0_sumAndEmpty_64 : decode cX0_sumAndEmpty 64 = .ok (.return_, 1) := by decide +kernel
set_option maxRecDepth 20000 in
theorem ggX0_isAnswer_X0_sumAt : GoodIn wsX0_isAnswer wsX0_sumAt := goodIn_r _ [6, 7, 8, 9, 10, 30, 31, 32, 33, 34, 35, 36, 37, 38] (by decide +kernel) (by decide +kernel)
set_option maxRecDepth 20000 in
theorem gX0_isAnswer_X0_sumAt : GoodIn wsX0_isAnswer (wsV RX0 90 RX0 yX0_sumAt wsX0_sumAt) := goodIn_app (goodIn_of _ (by decide +kernel)) ggX0_isAnswer_X0_sumAt
set_option maxRecDepth 20000 in
theorem ggX0_isAnswer_X0_hasTwice : GoodIn wsX0_isAnswer wsX0_hasTwice := goodIn_r _ [14, 15, 16, 17, 5, 18, 19, 8, 9, 10, 20, 21, 22, 23, 24, 25, 30, 31, 32, 33, 34, 35, 36, 37, 38] (by decide +kernel) (by decide +kernel)
set_option maxRecDepth 20000 in
theorem gX0_isAnswer_X0_hasTwice : GoodIn wsX0_isAnswer (wsV RX0 82 RX0 yX0_hasTwice wsX0_hasTwice) := goodIn_app (goodIn_of _ (by decide +kernel)) ggX0_isAnswer_X0_hasTwice
set_option maxRecDepth 20000 in
theorem ggX0_isAnswer_X0_totalOf : GoodIn wsX0_isAnswer wsX0_totalOf := goodIn_r _ [29, 15, 16, 17, 5, 18, 19, 8, 9, 10, 20, 21, 22, 23, 24, 25, 30, 31, 32, 33, 34, 35, 36, 37, 38] (by decide +kernel) (by decide +kernel)
set_option maxRecDepth 20000 in
theorem gX0_isAnswer_X0_totalOf : GoodIn wsX0_isAnswer (wsV RX0 86 RX0 yX0_totalOf wsX0_totalOf) := goodIn_app (goodIn_of _ (by decide +kernel)) ggX0_isAnswer_X0_totalOf
theorem dX0_isAnswer_0 : decode cX0_isAnswer 0 = .ok (.iconst 0, 1) := by decide +kernel
theorem dX0_isAnswer_1 : decode cX0_isAnswer 1 = .ok (.istore_n 2, 1) := by decide +kernel
theorem dX0_isAnswer_2 : decode cX0_isAnswer 2 = .ok (.iload_n 2, 1) := by decide +kernel
theorem dX0_isAnswer_3 : decode cX0_isAnswer 3 = .ok (.aload_n 0, 1) := by decide +kernel
theorem dX0_isAnswer_4 : decode cX0_isAnswer 4 = .ok (.getfield 68, 3) := by decide +kernel
theorem dX0_isAnswer_7 : decode cX0_isAnswer 7 = .ok (.if_icmp .ge 40, 3) := by decide +kernel
theorem dX0_isAnswer_10 : decode cX0_isAnswer 10 = .ok (.aload_n 0, 1) := by decide +kernel
theorem dX0_isAnswer_11 : decode cX0_isAnswer 11 = .ok (.iload_n 2, 1) := by decide +kernel
theorem dX0_isAnswer_12 : decode cX0_isAnswer 12 = .ok (.invokevirtual 90, 3) := by decide +kernel
theorem dX0_isAnswer_15 : decode cX0_isAnswer 15 = .ok (.istore_n 3, 1) := by decide +kernel
theorem dX0_isAnswer_16 : decode cX0_isAnswer 16 = .ok (.aload_n 0, 1) := by decide +kernel
theorem dX0_isAnswer_17 : decode cX0_isAnswer 17 = .ok (.iload_n 2, 1) := by decide +kernel
theorem dX0_isAnswer_18 : decode cX0_isAnswer 18 = .ok (.aload_n 1, 1) := by decide +kernel
theorem dX0_isAnswer_19 : decode cX0_isAnswer 19 = .ok (.invokevirtual 82, 3) := by decide +kernel
theorem dX0_isAnswer_22 : decode cX0_isAnswer 22 = .ok (.ifCond .ne 17, 3) := by decide +kernel
theorem dX0_isAnswer_25 : decode cX0_isAnswer 25 = .ok (.iload_n 3, 1) := by decide +kernel
theorem dX0_isAnswer_26 : decode cX0_isAnswer 26 = .ok (.ifCond .eq 15, 3) := by decide +kernel
theorem dX0_isAnswer_29 : decode cX0_isAnswer 29 = .ok (.aload_n 0, 1) := by decide +kernel
theorem dX0_isAnswer_30 : decode cX0_isAnswer 30 = .ok (.iload_n 2, 1) := by decide +kernel
theorem dX0_isAnswer_31 : decode cX0_isAnswer 31 = .ok (.aload_n 1, 1) := by decide +kernel
theorem dX0_isAnswer_32 : decode cX0_isAnswer 32 = .ok (.invokevirtual 86, 3) := by decide +kernel
theorem dX0_isAnswer_35 : decode cX0_isAnswer 35 = .ok (.iload_n 3, 1) := by decide +kernel
theorem dX0_isAnswer_36 : decode cX0_isAnswer 36 = .ok (.if_icmp .eq 5, 3) := by decide +kernel
theorem dX0_isAnswer_39 : decode cX0_isAnswer 39 = .ok (.iconst 0, 1) := by decide +kernel
theorem dX0_isAnswer_40 : decode cX0_isAnswer 40 = .ok (.ireturn, 1) := by decide +kernel
theorem dX0_isAnswer_41 : decode cX0_isAnswer 41 = .ok (.iinc 2 1, 3) := by decide +kernel
theorem dX0_isAnswer_44 : decode cX0_isAnswer 44 = .ok (.goto (-42), 3) := by decide +kernel
theorem dX0_isAnswer_47 : decode cX0_isAnswer 47 = .ok (.iconst 1, 1) := by decide +kernel
theorem dX0_isAnswer_48 : decode cX0_isAnswer 48 = .ok (.ireturn, 1) := by decide +kernel
set_option maxRecDepth 20000 in
theorem ggX0_hasTwice_X0_lengthAt : GoodIn wsX0_hasTwice wsX0_lengthAt := goodIn_r _ [5, 6, 7, 8, 9, 16, 17, 18, 19, 20, 21, 22, 23, 24] (by decide +kernel) (by decide +kernel)
set_option maxRecDepth 20000 in
theorem gX0_hasTwice_X0_lengthAt : GoodIn wsX0_hasTwice (wsV RX0 94 RX0 yX0_lengthAt wsX0_lengthAt) := goodIn_app (goodIn_of _ (by decide +kernel)) ggX0_hasTwice_X0_lengthAt
set_option maxRecDepth 20000 in
theorem ggX0_hasTwice_X0_cellAt : GoodIn wsX0_hasTwice wsX0_cellAt := goodIn_r _ [13, 14, 15, 7, 8, 9, 16, 17, 18, 19, 20, 21, 22, 23, 24] (by decide +kernel) (by decide +kernel)
set_option maxRecDepth 20000 in
theorem gX0_hasTwice_X0_cellAt : GoodIn wsX0_hasTwice (wsV RX0 97 RX0 yX0_cellAt wsX0_cellAt) := goodIn_app (goodIn_of _ (by decide +kernel)) ggX0_hasTwice_X0_cellAt
set_option maxRecDepth 20000 in
theorem ggX0_hasTwice_X3_at : GoodIn wsX0_hasTwice wsX3_at := goodIn_r _ [9] (by decide +kernel) (by decide +kernel)
set_option maxRecDepth 20000 in
theorem gX0_hasTwice_X3_at_n50 : GoodIn wsX0_hasTwice (wsX3_at) := ggX0_hasTwice_X3_at
theorem dX0_hasTwice_0 : decode cX0_hasTwice 0 = .ok (.iconst 0, 1) := by decide +kernel
theorem dX0_hasTwice_1 : decode cX0_hasTwice 1 = .ok (.istore_n 3, 1) := by decide +kernel
theorem dX0_hasTwice_2 : decode cX0_hasTwice 2 = .ok (.aload_n 0, 1) := by decide +kernel
theorem dX0_hasTwice_3 : decode cX0_hasTwice 3 = .ok (.iload_n 1, 1) := by decide +kernel
theorem dX0_hasTwice_4 : decode cX0_hasTwice 4 = .ok (.invokevirtual 94, 3) := by decide +kernel
theorem dX0_hasTwice_7 : decode cX0_hasTwice 7 = .ok (.istore 4, 2) := by decide +kernel
theorem dX0_hasTwice_9 : decode cX0_hasTwice 9 = .ok (.iconst 0, 1) := by decide +kernel
theorem dX0_hasTwice_10 : decode cX0_hasTwice 10 = .ok (.istore 5, 2) := by decide +kernel
theorem dX0_hasTwice_12 : decode cX0_hasTwice 12 = .ok (.iload 5, 2) := by decide +kernel
theorem dX0_hasTwice_14 : decode cX0_hasTwice 14 = .ok (.iload 4, 2) := by decide +kernel
theorem dX0_hasTwice_16 : decode cX0_hasTwice 16 = .ok (.if_icmp .ge 38, 3) := by decide +kernel
theorem dX0_hasTwice_19 : decode cX0_hasTwice 19 = .ok (.iconst 1, 1) := by decide +kernel
theorem dX0_hasTwice_20 : decode cX0_hasTwice 20 = .ok (.aload_n 2, 1) := by decide +kernel
theorem dX0_hasTwice_21 : decode cX0_hasTwice 21 = .ok (.aload_n 0, 1) := by decide +kernel
theorem dX0_hasTwice_22 : decode cX0_hasTwice 22 = .ok (.iload_n 1, 1) := by decide +kernel
theorem dX0_hasTwice_23 : decode cX0_hasTwice 23 = .ok (.iload 5, 2) := by decide +kernel
theorem dX0_hasTwice_25 : decode cX0_hasTwice 25 = .ok (.invokevirtual 97, 3) := by decide +kernel
theorem dX0_hasTwice_28 : decode cX0_hasTwice 28 = .ok (.invokestatic 50, 3) := by decide +kernel
theorem dX0_hasTwice_31 : decode cX0_hasTwice 31 = .ok (.ishl, 1) := by decide +kernel
theorem dX0_hasTwice_32 : decode cX0_hasTwice 32 = .ok (.istore 6, 2) := by decide +kernel
theorem dX0_hasTwice_34 : decode cX0_hasTwice 34 = .ok (.iload_n 3, 1) := by decide +kernel
theorem dX0_hasTwice_35 : decode cX0_hasTwice 35 = .ok (.iload 6, 2) := by decide +kernel
theorem dX0_hasTwice_37 : decode cX0_hasTwice 37 = .ok (.iand, 1) := by decide +kernel
theorem dX0_hasTwice_38 : decode cX0_hasTwice 38 = .ok (.ifCond .eq 5, 3) := by decide +kernel
theorem dX0_hasTwice_41 : decode cX0_hasTwice 41 = .ok (.iconst 1, 1) := by decide +kernel
theorem dX0_hasTwice_42 : decode cX0_hasTwice 42 = .ok (.ireturn, 1) := by decide +kernel
theorem dX0_hasTwice_43 : decode cX0_hasTwice 43 = .ok (.iload_n 3, 1) := by decide +kernel
theorem dX0_hasTwice_44 : decode cX0_hasTwice 44 = .ok (.iload 6, 2) := by decide +kernel
theorem dX0_hasTwice_46 : decode cX0_hasTwice 46 = .ok (.ior, 1) := by decide +kernel
theorem dX0_hasTwice_47 : decode cX0_hasTwice 47 = .ok (.istore_n 3, 1) := by decide +kernel
theorem dX0_hasTwice_48 : decode cX0_hasTwice 48 = .ok (.iinc 5 1, 3) := by decide +kernel
theorem dX0_hasTwice_51 : decode cX0_hasTwice 51 = .ok (.goto (-39), 3) := by decide +kernel
theorem dX0_hasTwice_54 : decode cX0_hasTwice 54 = .ok (.iconst 0, 1) := by decide +kernel
theorem dX0_hasTwice_55 : decode cX0_hasTwice 55 = .ok (.ireturn, 1) := by decide +kernel
set_option maxRecDepth 20000 in
theorem ggX0_totalOf_X0_lengthAt : GoodIn wsX0_totalOf wsX0_lengthAt := goodIn_r _ [5, 6, 7, 8, 9, 16, 17, 18, 19, 20, 21, 22, 23, 24] (by decide +kernel) (by decide +kernel)
set_option maxRecDepth 20000 in
theorem gX0_totalOf_X0_lengthAt : GoodIn wsX0_totalOf (wsV RX0 94 RX0 yX0_lengthAt wsX0_lengthAt) := goodIn_app (goodIn_of _ (by decide +kernel)) ggX0_totalOf_X0_lengthAt
set_option maxRecDepth 20000 in
theorem ggX0_totalOf_X0_cellAt : GoodIn wsX0_totalOf wsX0_cellAt := goodIn_r _ [13, 14, 15, 7, 8, 9, 16, 17, 18, 19, 20, 21, 22, 23, 24] (by decide +kernel) (by decide +kernel)
set_option maxRecDepth 20000 in
theorem gX0_totalOf_X0_cellAt : GoodIn wsX0_totalOf (wsV RX0 97 RX0 yX0_cellAt wsX0_cellAt) := goodIn_app (goodIn_of _ (by decide +kernel)) ggX0_totalOf_X0_cellAt
set_option maxRecDepth 20000 in
theorem ggX0_totalOf_X3_at : GoodIn wsX0_totalOf wsX3_at := goodIn_r _ [9] (by decide +kernel) (by decide +kernel)
set_option maxRecDepth 20000 in
theorem gX0_totalOf_X3_at_n50 : GoodIn wsX0_totalOf (wsX3_at) := ggX0_totalOf_X3_at
theorem dX0_totalOf_0 : decode cX0_totalOf 0 = .ok (.iconst 0, 1) := by decide +kernel
theorem dX0_totalOf_1 : decode cX0_totalOf 1 = .ok (.istore_n 3, 1) := by decide +kernel
theorem dX0_totalOf_2 : decode cX0_totalOf 2 = .ok (.aload_n 0, 1) := by decide +kernel
theorem dX0_totalOf_3 : decode cX0_totalOf 3 = .ok (.iload_n 1, 1) := by decide +kernel
theorem dX0_totalOf_4 : decode cX0_totalOf 4 = .ok (.invokevirtual 94, 3) := by decide +kernel
theorem dX0_totalOf_7 : decode cX0_totalOf 7 = .ok (.istore 4, 2) := by decide +kernel
theorem dX0_totalOf_9 : decode cX0_totalOf 9 = .ok (.iconst 0, 1) := by decide +kernel
theorem dX0_totalOf_10 : decode cX0_totalOf 10 = .ok (.istore 5, 2) := by decide +kernel
theorem dX0_totalOf_12 : decode cX0_totalOf 12 = .ok (.iload 5, 2) := by decide +kernel
theorem dX0_totalOf_14 : decode cX0_totalOf 14 = .ok (.iload 4, 2) := by decide +kernel
theorem dX0_totalOf_16 : decode cX0_totalOf 16 = .ok (.if_icmp .ge 23, 3) := by decide +kernel
theorem dX0_totalOf_19 : decode cX0_totalOf 19 = .ok (.iload_n 3, 1) := by decide +kernel
theorem dX0_totalOf_20 : decode cX0_totalOf 20 = .ok (.aload_n 2, 1) := by decide +kernel
theorem dX0_totalOf_21 : decode cX0_totalOf 21 = .ok (.aload_n 0, 1) := by decide +kernel
theorem dX0_totalOf_22 : decode cX0_totalOf 22 = .ok (.iload_n 1, 1) := by decide +kernel
theorem dX0_totalOf_23 : decode cX0_totalOf 23 = .ok (.iload 5, 2) := by decide +kernel
theorem dX0_totalOf_25 : decode cX0_totalOf 25 = .ok (.invokevirtual 97, 3) := by decide +kernel
theorem dX0_totalOf_28 : decode cX0_totalOf 28 = .ok (.invokestatic 50, 3) := by decide +kernel
theorem dX0_totalOf_31 : decode cX0_totalOf 31 = .ok (.iadd, 1) := by decide +kernel
theorem dX0_totalOf_32 : decode cX0_totalOf 32 = .ok (.istore_n 3, 1) := by decide +kernel
theorem dX0_totalOf_33 : decode cX0_totalOf 33 = .ok (.iinc 5 1, 3) := by decide +kernel
theorem dX0_totalOf_36 : decode cX0_totalOf 36 = .ok (.goto (-24), 3) := by decide +kernel
theorem dX0_totalOf_39 : decode cX0_totalOf 39 = .ok (.iload_n 3, 1) := by decide +kernel
theorem dX0_totalOf_40 : decode cX0_totalOf 40 = .ok (.ireturn, 1) := by decide +kernel
theorem dX1_init_0 : decode cX1_init 0 = .ok (.aload_n 0, 1) := by decide +kernel
theorem dX1_init_1 : decode cX1_init 1 = .ok (.invokespecial 3, 3) := by decide +kernel
theorem dX1_init_4 : decode cX1_init 4 = .ok (.aload_n 0, 1) := by decide +kernel
theorem dX1_init_5 : decode cX1_init 5 = .ok (.bipush 16, 2) := by decide +kernel
theorem dX1_init_7 : decode cX1_init 7 = .ok (.newarray .int, 2) := by decide +kernel
theorem dX1_init_9 : decode cX1_init 9 = .ok (.putfield 9, 3) := by decide +kernel
theorem dX1_init_12 : decode cX1_init 12 = .ok (.aload_n 0, 1) := by decide +kernel
theorem dX1_init_13 : decode cX1_init 13 = .ok (.iconst 4, 1) := by decide +kernel
theorem dX1_init_14 : decode cX1_init 14 = .ok (.newarray .int, 2) := by decide +kernel
theorem dX1_init_16 : decode cX1_init 16 = .ok (.putfield 15, 3) := by decide +kernel
theorem dX1_init_19 : decode cX1_init 19 = .ok (.aload_n 0, 1) := by decide +kernel
theorem dX1_init_20 : decode cX1_init 20 = .ok (.aload_n 1, 1) := by decide +kernel
theorem dX1_init_21 : decode cX1_init 21 = .ok (.putfield 18, 3) := by decide +kernel
theorem dX1_init_24 : decode cX1_init 24 = .ok (.return_, 1) := by decide +kernel
set_option maxRecDepth 20000 in
theorem ggX1_solve_X1_start : GoodIn wsX1_solve wsX1_start := goodIn_r _ [11, 2, 12, 13, 14, 15, 10, 16, 17, 18, 19, 20, 21, 22, 23, 24, 25, 26, 27, 28, 29, 30, 31, 32, 33, 34, 35, 36, 37, 38, 39, 40, 41, 107, 108, 109, 110, 111, 112, 113, 114, 115, 116, 117, 118, 119, 120] (by decide +kernel) (by decide +kernel)
set_option maxRecDepth 20000 in
theorem gX1_solve_X1_start : GoodIn wsX1_solve (wsV RX1 22 RX1 yX1_start wsX1_start) := goodIn_app (goodIn_of _ (by decide +kernel)) ggX1_solve_X1_start
set_option maxRecDepth 20000 in
theorem ggX1_solve_X1_goThrough : GoodIn wsX1_solve wsX1_goThrough := goodIn_r _ [45, 1, 17, 46, 47, 48, 21, 49, 50, 51, 52, 53, 10, 54, 12, 55, 56, 57, 58, 59, 29, 30, 31, 60, 61, 62, 63, 64, 65, 66, 67, 68, 69, 70, 71, 72, 73, 74, 75, 76, 77, 78, 79, 40, 41, 80, 81, 82, 83, 84, 85, 86, 87, 88, 89, 90, 91, 92, 93, 94, 95, 96, 97, 98, 99, 100, 101, 102, 107, 108, 109, 110, 111, 112, 113, 114, 115, 116, 117, 118, 119, 120] (by decide +kernel) (by decide +kernel)
set_option maxRecDepth 20000 in
theorem gX1_solve_X1_goThrough : GoodIn wsX1_solve (wsV RX1 25 RX1 yX1_goThrough wsX1_goThrough) := goodIn_app (goodIn_of _ (by decide +kernel)) ggX1_solve_X1_goThrough
set_option maxRecDepth 20000 in
theorem ggX1_solve_X1_hasEmptyCell : GoodIn wsX1_solve wsX1_hasEmptyCell := goodIn_r _ [106, 17, 12, 18, 19, 20, 21, 22, 23, 24, 25, 26, 27, 28, 29, 30, 31, 107, 108, 109, 110, 111, 112, 113, 114, 115, 116, 117, 118, 119, 120] (by decide +kernel) (by decide +kernel)
set_option maxRecDepth 20000 in
theorem gX1_solve_X1_hasEmptyCell : GoodIn wsX1_solve (wsV RX1 43 RX1 yX1_hasEmptyCell wsX1_hasEmptyCell) := goodIn_app (goodIn_of _ (by decide +kernel)) ggX1_solve_X1_hasEmptyCell
theorem dX1_solve_0 : decode cX1_solve 0 = .ok (.aload_n 0, 1) := by decide +kernel
theorem dX1_solve_1 : decode cX1_solve 1 = .ok (.invokevirtual 22, 3) := by decide +kernel
theorem dX1_solve_4 : decode cX1_solve 4 = .ok (.iconst 1, 1) := by decide +kernel
theorem dX1_solve_5 : decode cX1_solve 5 = .ok (.istore_n 2, 1) := by decide +kernel
theorem dX1_solve_6 : decode cX1_solve 6 = .ok (.iconst 0, 1) := by decide +kernel
theorem dX1_solve_7 : decode cX1_solve 7 = .ok (.istore_n 3, 1) := by decide +kernel
theorem dX1_solve_8 : decode cX1_solve 8 = .ok (.iload_n 3, 1) := by decide +kernel
theorem dX1_solve_9 : decode cX1_solve 9 = .ok (.sipush 1000, 3) := by decide +kernel
theorem dX1_solve_12 : decode cX1_solve 12 = .ok (.if_icmp .ge 61, 3) := by decide +kernel
theorem dX1_solve_15 : decode cX1_solve 15 = .ok (.iload_n 2, 1) := by decide +kernel
theorem dX1_solve_16 : decode cX1_solve 16 = .ok (.iload_n 1, 1) := by decide +kernel
theorem dX1_solve_17 : decode cX1_solve 17 = .ok (.if_icmp .gt 56, 3) := by decide +kernel
theorem dX1_solve_20 : decode cX1_solve 20 = .ok (.aload_n 0, 1) := by decide +kernel
theorem dX1_solve_21 : decode cX1_solve 21 = .ok (.iload_n 2, 1) := by decide +kernel
theorem dX1_solve_22 : decode cX1_solve 22 = .ok (.invokevirtual 25, 3) := by decide +kernel
theorem dX1_solve_25 : decode cX1_solve 25 = .ok (.aload_n 0, 1) := by decide +kernel
theorem dX1_solve_26 : decode cX1_solve 26 = .ok (.getfield 29, 3) := by decide +kernel
theorem dX1_solve_29 : decode cX1_solve 29 = .ok (.ifCond .eq 15, 3) := by decide +kernel
theorem dX1_solve_32 : decode cX1_solve 32 = .ok (.aload_n 0, 1) := by decide +kernel
theorem dX1_solve_33 : decode cX1_solve 33 = .ok (.aload_n 0, 1) := by decide +kernel
theorem dX1_solve_34 : decode cX1_solve 34 = .ok (.getfield 33, 3) := by decide +kernel
theorem dX1_solve_37 : decode cX1_solve 37 = .ok (.iload_n 2, 1) := by decide +kernel
theorem dX1_solve_38 : decode cX1_solve 38 = .ok (.invokestatic 37, 3) := by decide +kernel
theorem dX1_solve_41 : decode cX1_solve 41 = .ok (.putfield 33, 3) := by decide +kernel
theorem dX1_solve_44 : decode cX1_solve 44 = .ok (.aload_n 0, 1) := by decide +kernel
theorem dX1_solve_45 : decode cX1_solve 45 = .ok (.invokevirtual 43, 3) := by decide +kernel
theorem dX1_solve_48 : decode cX1_solve 48 = .ok (.ifCond .eq 4, 3) := by decide +kernel
theorem dX1_solve_51 : decode cX1_solve 51 = .ok (.return_, 1) := by decide +kernel
theorem dX1_solve_52 : decode cX1_solve 52 = .ok (.aload_n 0, 1) := by decide +kernel
theorem dX1_solve_53 : decode cX1_solve 53 = .ok (.getfield 29, 3) := by decide +kernel
theorem dX1_solve_56 : decode cX1_solve 56 = .ok (.ifCond .eq 7, 3) := by decide +kernel
theorem dX1_solve_59 : decode cX1_solve 59 = .ok (.iconst 1, 1) := by decide +kernel
theorem dX1_solve_60 : decode cX1_solve 60 = .ok (.goto 6, 3) := by decide +kernel
theorem dX1_solve_63 : decode cX1_solve 63 = .ok (.iload_n 2, 1) := by decide +kernel
theorem dX1_solve_64 : decode cX1_solve 64 = .ok (.iconst 1, 1) := by decide +kernel
theorem dX1_solve_65 : decode cX1_solve 65 = .ok (.iadd, 1) := by decide +kernel
theorem dX1_solve_66 : decode cX1_solve 66 = .ok (.istore_n 2, 1) := by decide +kernel
theorem dX1_solve_67 : decode cX1_solve 67 = .ok (.iinc 3 1, 3) := by decide +kernel
theorem dX1_solve_70 : decode cX1_solve 70 = .ok (.goto (-62), 3) := by decide +kernel
theorem dX1_solve_73 : decode cX1_solve 73 = .ok (.return_, 1) := by decide +kernel
set_option maxRecDepth 20000 in
theorem ggX1_solveToHint_X1_solve : GoodIn wsX1_solveToHint wsX1_solve := goodIn_r _ [5, 6, 7, 8, 9, 10, 11, 12, 13, 14, 4, 15, 16, 17, 18, 19, 20, 21, 22, 23, 24, 25, 26, 27, 28, 29, 30, 31, 32, 33, 34, 35, 36, 37, 38, 39, 40, 41, 42, 43, 44, 45, 46, 47, 48, 49, 50, 51, 52, 53, 54, 55, 56, 57, 58, 59, 60, 61, 62, 63, 64, 65, 66, 67, 68, 69, 70, 71, 72, 73, 74, 75, 76, 77, 78, 79, 80, 81, 82, 83, 84, 85, 86, 87, 88, 89, 90, 91, 92, 93, 94, 95, 96, 97, 98, 99, 100, 101, 102, 103, 104, 105, 106, 107, 108, 109, 110, 115, 116, 117, 118, 119, 120, 121, 122, 123, 124, 125, 126, 127, 128] (by decide +kernel) (by decide +kernel)
set_option maxRecDepth 20000 in
theorem gX1_solveToHint_X1_solve : GoodIn wsX1_solveToHint (wsV RX1 47 RX1 yX1_solve wsX1_solve) := goodIn_app (goodIn_of _ (by decide +kernel)) ggX1_solveToHint_X1_solve
set_option maxRecDepth 20000 in
theorem ggX1_solveToHint_X1_firstFound : GoodIn wsX1_solveToHint wsX1_firstFound := goodIn_r _ [114, 21, 16, 36, 37, 38, 25, 39, 27, 28, 29, 30, 31, 32, 33, 34, 35, 70, 71, 4, 72, 73, 74, 75, 76, 77, 78, 79, 115, 116, 117, 118, 119, 120, 121, 122, 123, 124, 125, 126, 127, 128] (by decide +kernel) (by decide +kernel)
set_option maxRecDepth 20000 in
theorem gX1_solveToHint_X1_firstFound : GoodIn wsX1_solveToHint (wsV RX1 50 RX1 yX1_firstFound wsX1_firstFound) := goodIn_app (goodIn_of _ (by decide +kernel)) ggX1_solveToHint_X1_firstFound
theorem dX1_solveToHint_0 : decode cX1_solveToHint 0 = .ok (.iconst 1, 1) := by decide +kernel
theorem dX1_solveToHint_1 : decode cX1_solveToHint 1 = .ok (.istore_n 1, 1) := by decide +kernel
theorem dX1_solveToHint_2 : decode cX1_solveToHint 2 = .ok (.iload_n 1, 1) := by decide +kernel
theorem dX1_solveToHint_3 : decode cX1_solveToHint 3 = .ok (.iconst 3, 1) := by decide +kernel
theorem dX1_solveToHint_4 : decode cX1_solveToHint 4 = .ok (.if_icmp .gt 24, 3) := by decide +kernel
theorem dX1_solveToHint_7 : decode cX1_solveToHint 7 = .ok (.aload_n 0, 1) := by decide +kernel
theorem dX1_solveToHint_8 : decode cX1_solveToHint 8 = .ok (.iload_n 1, 1) := by decide +kernel
theorem dX1_solveToHint_9 : decode cX1_solveToHint 9 = .ok (.invokevirtual 47, 3) := by decide +kernel
theorem dX1_solveToHint_12 : decode cX1_solveToHint 12 = .ok (.aload_n 0, 1) := by decide +kernel
theorem dX1_solveToHint_13 : decode cX1_solveToHint 13 = .ok (.invokevirtual 50, 3) := by decide +kernel
theorem dX1_solveToHint_16 : decode cX1_solveToHint 16 = .ok (.iconst (-1), 1) := by decide +kernel
theorem dX1_solveToHint_17 : decode cX1_solveToHint 17 = .ok (.if_icmp .eq 5, 3) := by decide +kernel
theorem dX1_solveToHint_20 : decode cX1_solveToHint 20 = .ok (.iload_n 1, 1) := by decide +kernel
theorem dX1_solveToHint_21 : decode cX1_solveToHint 21 = .ok (.ireturn, 1) := by decide +kernel
theorem dX1_solveToHint_22 : decode cX1_solveToHint 22 = .ok (.iinc 1 1, 3) := by decide +kernel
theorem dX1_solveToHint_25 : decode cX1_solveToHint 25 = .ok (.goto (-23), 3) := by decide +kernel
theorem dX1_solveToHint_28 : decode cX1_solveToHint 28 = .ok (.iconst (-1), 1) := by decide +kernel
theorem dX1_solveToHint_29 : decode cX1_solveToHint 29 = .ok (.ireturn, 1) := by decide +kernel
theorem dX1_greatestRule_0 : decode cX1_greatestRule 0 = .ok (.aload_n 0, 1) := by decide +kernel
theorem dX1_greatestRule_1 : decode cX1_greatestRule 1 = .ok (.getfield 33, 3) := by decide +kernel
theorem dX1_greatestRule_4 : decode cX1_greatestRule 4 = .ok (.ireturn, 1) := by decide +kernel
set_option maxRecDepth 20000 in
theorem ggX1_setAt_X3_at : GoodIn wsX1_setAt wsX3_at := goodIn_r _ [4] (by decide +kernel) (by decide +kernel)
set_option maxRecDepth 20000 in
theorem gX1_setAt_X3_at_n54 : GoodIn wsX1_setAt (wsX3_at) := ggX1_setAt_X3_at
theorem dX1_setAt_0 : decode cX1_setAt 0 = .ok (.aload_n 0, 1) := by decide +kernel
theorem dX1_setAt_1 : decode cX1_setAt 1 = .ok (.getfield 9, 3) := by decide +kernel
theorem dX1_setAt_4 : decode cX1_setAt 4 = .ok (.iload_n 1, 1) := by decide +kernel
theorem dX1_setAt_5 : decode cX1_setAt 5 = .ok (.invokestatic 54, 3) := by decide +kernel
theorem dX1_setAt_8 : decode cX1_setAt 8 = .ok (.ireturn, 1) := by decide +kernel
set_option maxRecDepth 20000 in
theorem ggX1_isSolved_X0_isOpen : GoodIn wsX1_isSolved wsX0_isOpen := goodIn_r _ [7, 8, 9, 10, 11, 6, 12, 13, 14, 15, 16, 33, 34, 35, 36, 37, 38, 39, 40, 41] (by decide +kernel) (by decide +kernel)
set_option maxRecDepth 20000 in
theorem gX1_isSolved_X0_isOpen : GoodIn wsX1_isSolved (wsV RX1 58 RX0 yX0_isOpen wsX0_isOpen) := goodIn_app (goodIn_of _ (by decide +kernel)) ggX1_isSolved_X0_isOpen
set_option maxRecDepth 20000 in
theorem ggX1_isSolved_X3_at : GoodIn wsX1_isSolved wsX3_at := goodIn_r _ [16] (by decide +kernel) (by decide +kernel)
set_option maxRecDepth 20000 in
theorem gX1_isSolved_X3_at_n54 : GoodIn wsX1_isSolved (wsX3_at) := ggX1_isSolved_X3_at
set_option maxRecDepth 20000 in
theorem ggX1_isSolved_X1_isSingle : GoodIn wsX1_isSolved wsX1_isSingle := goodIn_r _ [20, 21, 22, 23, 24, 25, 26, 27] (by decide +kernel) (by decide +kernel)
set_option maxRecDepth 20000 in
theorem gX1_isSolved_X1_isSingle : GoodIn wsX1_isSolved (va_wsS RX1 64 yX1_isSingle wsX1_isSingle) := goodIn_app (goodIn_of _ (by decide +kernel)) ggX1_isSolved_X1_isSingle
theorem dX1_isSolved_0 : decode cX1_isSolved 0 = .ok (.iconst 0, 1) := by decide +kernel
theorem dX1_isSolved_1 : decode cX1_isSolved 1 = .ok (.istore_n 1, 1) := by decide +kernel
theorem dX1_isSolved_2 : decode cX1_isSolved 2 = .ok (.iload_n 1, 1) := by decide +kernel
theorem dX1_isSolved_3 : decode cX1_isSolved 3 = .ok (.bipush 16, 2) := by decide +kernel
theorem dX1_isSolved_5 : decode cX1_isSolved 5 = .ok (.if_icmp .ge 36, 3) := by decide +kernel
theorem dX1_isSolved_8 : decode cX1_isSolved 8 = .ok (.aload_n 0, 1) := by decide +kernel
theorem dX1_isSolved_9 : decode cX1_isSolved 9 = .ok (.getfield 18, 3) := by decide +kernel
theorem dX1_isSolved_12 : decode cX1_isSolved 12 = .ok (.iload_n 1, 1) := by decide +kernel
theorem dX1_isSolved_13 : decode cX1_isSolved 13 = .ok (.invokevirtual 58, 3) := by decide +kernel
theorem dX1_isSolved_16 : decode cX1_isSolved 16 = .ok (.ifCond .eq 19, 3) := by decide +kernel
theorem dX1_isSolved_19 : decode cX1_isSolved 19 = .ok (.aload_n 0, 1) := by decide +kernel
theorem dX1_isSolved_20 : decode cX1_isSolved 20 = .ok (.getfield 9, 3) := by decide +kernel
theorem dX1_isSolved_23 : decode cX1_isSolved 23 = .ok (.iload_n 1, 1) := by decide +kernel
theorem dX1_isSolved_24 : decode cX1_isSolved 24 = .ok (.invokestatic 54, 3) := by decide +kernel
theorem dX1_isSolved_27 : decode cX1_isSolved 27 = .ok (.invokestatic 64, 3) := by decide +kernel
theorem dX1_isSolved_30 : decode cX1_isSolved 30 = .ok (.ifCond .ne 5, 3) := by decide +kernel
theorem dX1_isSolved_33 : decode cX1_isSolved 33 = .ok (.iconst 0, 1) := by decide +kernel
theorem dX1_isSolved_34 : decode cX1_isSolved 34 = .ok (.ireturn, 1) := by decide +kernel
theorem dX1_isSolved_35 : decode cX1_isSolved 35 = .ok (.iinc 1 1, 3) := by decide +kernel
theorem dX1_isSolved_38 : decode cX1_isSolved 38 = .ok (.goto (-36), 3) := by decide +kernel
theorem dX1_isSolved_41 : decode cX1_isSolved 41 = .ok (.iconst 1, 1) := by decide +kernel
theorem dX1_isSolved_42 : decode cX1_isSolved 42 = .ok (.ireturn, 1) := by decide +kernel
set_option maxRecDepth 20000 in
theorem ggX1_firstFound_X0_isBlank : GoodIn wsX1_firstFound wsX0_isBlank := goodIn_r _ [7, 8, 9, 10, 11, 6, 12, 13, 14, 15, 16, 33, 34, 35, 36, 37, 38, 39, 40, 41] (by decide +kernel) (by decide +kernel)
set_option maxRecDepth 20000 in
theorem gX1_firstFound_X0_isBlank : GoodIn wsX1_firstFound (wsV RX1 67 RX0 yX0_isBlank wsX0_isBlank) := goodIn_app (goodIn_of _ (by decide +kernel)) ggX1_firstFound_X0_isBlank
set_option maxRecDepth 20000 in
theorem ggX1_firstFound_X3_at : GoodIn wsX1_firstFound wsX3_at := goodIn_r _ [16] (by decide +kernel) (by decide +kernel)
set_option maxRecDepth 20000 in
theorem gX1_firstFound_X3_at_n54 : GoodIn wsX1_firstFound (wsX3_at) := ggX1_firstFound_X3_at
set_option maxRecDepth 20000 in
theorem ggX1_firstFound_X1_isSingle : GoodIn wsX1_firstFound wsX1_isSingle := goodIn_r _ [20, 21, 22, 23, 24, 25, 26, 27] (by decide +kernel) (by decide +kernel)
set_option maxRecDepth 20000 in
theorem gX1_firstFound_X1_isSingle : GoodIn wsX1_firstFound (va_wsS RX1 64 yX1_isSingle wsX1_isSingle) := goodIn_app (goodIn_of _ (by decide +kernel)) ggX1_firstFound_X1_isSingle
theorem dX1_firstFound_0 : decode cX1_firstFound 0 = .ok (.iconst 0, 1) := by decide +kernel
theorem dX1_firstFound_1 : decode cX1_firstFound 1 = .ok (.istore_n 1, 1) := by decide +kernel
theorem dX1_firstFound_2 : decode cX1_firstFound 2 = .ok (.iload_n 1, 1) := by decide +kernel
theorem dX1_firstFound_3 : decode cX1_firstFound 3 = .ok (.bipush 16, 2) := by decide +kernel
theorem dX1_firstFound_5 : decode cX1_firstFound 5 = .ok (.if_icmp .ge 36, 3) := by decide +kernel
theorem dX1_firstFound_8 : decode cX1_firstFound 8 = .ok (.aload_n 0, 1) := by decide +kernel
theorem dX1_firstFound_9 : decode cX1_firstFound 9 = .ok (.getfield 18, 3) := by decide +kernel
theorem dX1_firstFound_12 : decode cX1_firstFound 12 = .ok (.iload_n 1, 1) := by decide +kernel
theorem dX1_firstFound_13 : decode cX1_firstFound 13 = .ok (.invokevirtual 67, 3) := by decide +kernel
theorem dX1_firstFound_16 : decode cX1_firstFound 16 = .ok (.ifCond .eq 19, 3) := by decide +kernel
theorem dX1_firstFound_19 : decode cX1_firstFound 19 = .ok (.aload_n 0, 1) := by decide +kernel
theorem dX1_firstFound_20 : decode cX1_firstFound 20 = .ok (.getfield 9, 3) := by decide +kernel
theorem dX1_firstFound_23 : decode cX1_firstFound 23 = .ok (.iload_n 1, 1) := by decide +kernel
theorem dX1_firstFound_24 : decode cX1_firstFound 24 = .ok (.invokestatic 54, 3) := by decide +kernel
theorem dX1_firstFound_27 : decode cX1_firstFound 27 = .ok (.invokestatic 64, 3) := by decide +kernel
theorem dX1_firstFound_30 : decode cX1_firstFound 30 = .ok (.ifCond .eq 5, 3) := by decide +kernel
theorem dX1_firstFound_33 : decode cX1_firstFound 33 = .ok (.iload_n 1, 1) := by decide +kernel
theorem dX1_firstFound_34 : decode cX1_firstFound 34 = .ok (.ireturn, 1) := by decide +kernel
theorem dX1_firstFound_35 : decode cX1_firstFound 35 = .ok (.iinc 1 1, 3) := by decide +kernel
theorem dX1_firstFound_38 : decode cX1_firstFound 38 = .ok (.goto (-36), 3) := by decide +kernel
theorem dX1_firstFound_41 : decode cX1_firstFound 41 = .ok (.iconst (-1), 1) := by decide +kernel
theorem dX1_firstFound_42 : decode cX1_firstFound 42 = .ok (.ireturn, 1) := by decide +kernel
set_option maxRecDepth 20000 in
theorem ggX1_start_X1_firstSetOf : GoodIn wsX1_start wsX1_firstSetOf := goodIn_r _ [7, 8, 9, 10, 11, 12, 13, 14, 15, 16, 17, 18, 19, 20, 21, 22, 23, 24, 25, 26, 27, 28, 29, 30, 33, 34, 35, 36, 37, 38, 39, 40, 41, 42, 43, 44, 45, 46] (by decide +kernel) (by decide +kernel)
set_option maxRecDepth 20000 in
theorem gX1_start_X1_firstSetOf : GoodIn wsX1_start (wsV RX1 70 RX1 yX1_firstSetOf wsX1_firstSetOf) := goodIn_app (goodIn_of _ (by decide +kernel)) ggX1_start_X1_firstSetOf
set_option maxRecDepth 20000 in
theorem ggX1_start_X3_put : GoodIn wsX1_start wsX3_put := goodIn_r _ [32] (by decide +kernel) (by decide +kernel)
set_option maxRecDepth 20000 in
theorem gX1_start_X3_put_n74 : GoodIn wsX1_start (wsX3_put) := ggX1_start_X3_put
theorem dX1_start_0 : decode cX1_start 0 = .ok (.aload_n 0, 1) := by decide +kernel
theorem dX1_start_1 : decode cX1_start 1 = .ok (.iconst 0, 1) := by decide +kernel
theorem dX1_start_2 : decode cX1_start 2 = .ok (.putfield 33, 3) := by decide +kernel
theorem dX1_start_5 : decode cX1_start 5 = .ok (.iconst 0, 1) := by decide +kernel
theorem dX1_start_6 : decode cX1_start 6 = .ok (.istore_n 1, 1) := by decide +kernel
theorem dX1_start_7 : decode cX1_start 7 = .ok (.iload_n 1, 1) := by decide +kernel
theorem dX1_start_8 : decode cX1_start 8 = .ok (.bipush 16, 2) := by decide +kernel
theorem dX1_start_10 : decode cX1_start 10 = .ok (.if_icmp .ge 22, 3) := by decide +kernel
theorem dX1_start_13 : decode cX1_start 13 = .ok (.aload_n 0, 1) := by decide +kernel
theorem dX1_start_14 : decode cX1_start 14 = .ok (.getfield 9, 3) := by decide +kernel
theorem dX1_start_17 : decode cX1_start 17 = .ok (.iload_n 1, 1) := by decide +kernel
theorem dX1_start_18 : decode cX1_start 18 = .ok (.aload_n 0, 1) := by decide +kernel
theorem dX1_start_19 : decode cX1_start 19 = .ok (.iload_n 1, 1) := by decide +kernel
theorem dX1_start_20 : decode cX1_start 20 = .ok (.invokevirtual 70, 3) := by decide +kernel
theorem dX1_start_23 : decode cX1_start 23 = .ok (.invokestatic 74, 3) := by decide +kernel
theorem dX1_start_26 : decode cX1_start 26 = .ok (.iinc 1 1, 3) := by decide +kernel
theorem dX1_start_29 : decode cX1_start 29 = .ok (.goto (-22), 3) := by decide +kernel
theorem dX1_start_32 : decode cX1_start 32 = .ok (.return_, 1) := by decide +kernel
set_option maxRecDepth 20000 in
theorem ggX1_firstSetOf_X0_isOpen : GoodIn wsX1_firstSetOf wsX0_isOpen := goodIn_r _ [6, 7, 8, 9, 10, 5, 11, 12, 13, 14, 15, 29, 30, 31, 32, 33, 34, 35, 36, 37] (by decide +kernel) (by decide +kernel)
set_option maxRecDepth 20000 in
theorem gX1_firstSetOf_X0_isOpen : GoodIn wsX1_firstSetOf (wsV RX1 58 RX0 yX0_isOpen wsX0_isOpen) := goodIn_app (goodIn_of _ (by decide +kernel)) ggX1_firstSetOf_X0_isOpen
set_option maxRecDepth 20000 in
theorem ggX1_firstSetOf_X0_isBlank : GoodIn wsX1_firstSetOf wsX0_isBlank := goodIn_r _ [19, 7, 8, 9, 10, 5, 11, 12, 13, 14, 15, 29, 30, 31, 32, 33, 34, 35, 36, 37] (by decide +kernel) (by decide +kernel)
set_option maxRecDepth 20000 in
theorem gX1_firstSetOf_X0_isBlank : GoodIn wsX1_firstSetOf (wsV RX1 67 RX0 yX0_isBlank wsX0_isBlank) := goodIn_app (goodIn_of _ (by decide +kernel)) ggX1_firstSetOf_X0_isBlank
set_option maxRecDepth 20000 in
theorem ggX1_firstSetOf_X0_givenAt : GoodIn wsX1_firstSetOf wsX0_givenAt := goodIn_r _ [23, 7, 13, 14, 15, 29, 30, 31, 32, 33, 34, 35, 36, 37] (by decide +kernel) (by decide +kernel)
set_option maxRecDepth 20000 in
theorem gX1_firstSetOf_X0_givenAt : GoodIn wsX1_firstSetOf (wsV RX1 78 RX0 yX0_givenAt wsX0_givenAt) := goodIn_app (goodIn_of _ (by decide +kernel)) ggX1_firstSetOf_X0_givenAt
theorem dX1_firstSetOf_0 : decode cX1_firstSetOf 0 = .ok (.aload_n 0, 1) := by decide +kernel
theorem dX1_firstSetOf_1 : decode cX1_firstSetOf 1 = .ok (.getfield 18, 3) := by decide +kernel
theorem dX1_firstSetOf_4 : decode cX1_firstSetOf 4 = .ok (.iload_n 1, 1) := by decide +kernel
theorem dX1_firstSetOf_5 : decode cX1_firstSetOf 5 = .ok (.invokevirtual 58, 3) := by decide +kernel
theorem dX1_firstSetOf_8 : decode cX1_firstSetOf 8 = .ok (.ifCond .ne 5, 3) := by decide +kernel
theorem dX1_firstSetOf_11 : decode cX1_firstSetOf 11 = .ok (.iconst 0, 1) := by decide +kernel
theorem dX1_firstSetOf_12 : decode cX1_firstSetOf 12 = .ok (.ireturn, 1) := by decide +kernel
theorem dX1_firstSetOf_13 : decode cX1_firstSetOf 13 = .ok (.aload_n 0, 1) := by decide +kernel
theorem dX1_firstSetOf_14 : decode cX1_firstSetOf 14 = .ok (.getfield 18, 3) := by decide +kernel
theorem dX1_firstSetOf_17 : decode cX1_firstSetOf 17 = .ok (.iload_n 1, 1) := by decide +kernel
theorem dX1_firstSetOf_18 : decode cX1_firstSetOf 18 = .ok (.invokevirtual 67, 3) := by decide +kernel
theorem dX1_firstSetOf_21 : decode cX1_firstSetOf 21 = .ok (.ifCond .eq 9, 3) := by decide +kernel
theorem dX1_firstSetOf_24 : decode cX1_firstSetOf 24 = .ok (.sipush 1022, 3) := by decide +kernel
theorem dX1_firstSetOf_27 : decode cX1_firstSetOf 27 = .ok (.goto 13, 3) := by decide +kernel
theorem dX1_firstSetOf_30 : decode cX1_firstSetOf 30 = .ok (.iconst 1, 1) := by decide +kernel
theorem dX1_firstSetOf_31 : decode cX1_firstSetOf 31 = .ok (.aload_n 0, 1) := by decide +kernel
theorem dX1_firstSetOf_32 : decode cX1_firstSetOf 32 = .ok (.getfield 18, 3) := by decide +kernel
theorem dX1_firstSetOf_35 : decode cX1_firstSetOf 35 = .ok (.iload_n 1, 1) := by decide +kernel
theorem dX1_firstSetOf_36 : decode cX1_firstSetOf 36 = .ok (.invokevirtual 78, 3) := by decide +kernel
theorem dX1_firstSetOf_39 : decode cX1_firstSetOf 39 = .ok (.ishl, 1) := by decide +kernel
theorem dX1_firstSetOf_40 : decode cX1_firstSetOf 40 = .ok (.ireturn, 1) := by decide +kernel
set_option maxRecDepth 20000 in
theorem ggX1_hasEmptyCell_X0_isOpen : GoodIn wsX1_hasEmptyCell wsX0_isOpen := goodIn_r _ [7, 8, 9, 10, 11, 6, 12, 13, 14, 15, 16, 22, 23, 24, 25, 26, 27, 28, 29, 30] (by decide +kernel) (by decide +kernel)
set_option maxRecDepth 20000 in
theorem gX1_hasEmptyCell_X0_isOpen : GoodIn wsX1_hasEmptyCell (wsV RX1 58 RX0 yX0_isOpen wsX0_isOpen) := goodIn_app (goodIn_of _ (by decide +kernel)) ggX1_hasEmptyCell_X0_isOpen
set_option maxRecDepth 20000 in
theorem ggX1_hasEmptyCell_X3_at : GoodIn wsX1_hasEmptyCell wsX3_at := goodIn_r _ [16] (by decide +kernel) (by decide +kernel)
set_option maxRecDepth 20000 in
theorem gX1_hasEmptyCell_X3_at_n54 : GoodIn wsX1_hasEmptyCell (wsX3_at) := ggX1_hasEmptyCell_X3_at
theorem dX1_hasEmptyCell_0 : decode cX1_hasEmptyCell 0 = .ok (.iconst 0, 1) := by decide +kernel
theorem dX1_hasEmptyCell_1 : decode cX1_hasEmptyCell 1 = .ok (.istore_n 1, 1) := by decide +kernel
theorem dX1_hasEmptyCell_2 : decode cX1_hasEmptyCell 2 = .ok (.iload_n 1, 1) := by decide +kernel
theorem dX1_hasEmptyCell_3 : decode cX1_hasEmptyCell 3 = .ok (.bipush 16, 2) := by decide +kernel
theorem dX1_hasEmptyCell_5 : decode cX1_hasEmptyCell 5 = .ok (.if_icmp .ge 33, 3) := by decide +kernel
theorem dX1_hasEmptyCell_8 : decode cX1_hasEmptyCell 8 = .ok (.aload_n 0, 1) := by decide +kernel
theorem dX1_hasEmptyCell_9 : decode cX1_hasEmptyCell 9 = .ok (.getfield 18, 3) := by decide +kernel
theorem dX1_hasEmptyCell_12 : decode cX1_hasEmptyCell 12 = .ok (.iload_n 1, 1) := by decide +kernel
theorem dX1_hasEmptyCell_13 : decode cX1_hasEmptyCell 13 = .ok (.invokevirtual 58, 3) := by decide +kernel
theorem dX1_hasEmptyCell_16 : decode cX1_hasEmptyCell 16 = .ok (.ifCond .eq 16, 3) := by decide +kernel
theorem dX1_hasEmptyCell_19 : decode cX1_hasEmptyCell 19 = .ok (.aload_n 0, 1) := by decide +kernel
theorem dX1_hasEmptyCell_20 : decode cX1_hasEmptyCell 20 = .ok (.getfield 9, 3) := by decide +kernel
theorem dX1_hasEmptyCell_23 : decode cX1_hasEmptyCell 23 = .ok (.iload_n 1, 1) := by decide +kernel
theorem dX1_hasEmptyCell_24 : decode cX1_hasEmptyCell 24 = .ok (.invokestatic 54, 3) := by decide +kernel
theorem dX1_hasEmptyCell_27 : decode cX1_hasEmptyCell 27 = .ok (.ifCond .ne 5, 3) := by decide +kernel
theorem dX1_hasEmptyCell_30 : decode cX1_hasEmptyCell 30 = .ok (.iconst 1, 1) := by decide +kernel
theorem dX1_hasEmptyCell_31 : decode cX1_hasEmptyCell 31 = .ok (.ireturn, 1) := by decide +kernel
theorem dX1_hasEmptyCell_32 : decode cX1_hasEmptyCell 32 = .ok (.iinc 1 1, 3) := by decide +kernel
theorem dX1_hasEmptyCell_35 : decode cX1_hasEmptyCell 35 = .ok (.goto (-33), 3) := by decide +kernel
theorem dX1_hasEmptyCell_38 : decode cX1_hasEmptyCell 38 = .ok (.iconst 0, 1) := by decide +kernel
theorem dX1_hasEmptyCell_39 : decode cX1_hasEmptyCell 39 = .ok (.ireturn, 1) := by decide +kernel
set_option maxRecDepth 20000 in
theorem ggX1_goThrough_X0_countRuns : GoodIn wsX1_goThrough wsX0_countRuns := goodIn_r _ [7, 8, 73, 74, 75, 76, 77, 78, 79, 80, 81] (by decide +kernel) (by decide +kernel)
set_option maxRecDepth 20000 in
theorem gX1_goThrough_X0_countRuns : GoodIn wsX1_goThrough (wsV RX1 81 RX0 yX0_countRuns wsX0_countRuns) := goodIn_app (goodIn_of _ (by decide +kernel)) ggX1_goThrough_X0_countRuns
set_option maxRecDepth 20000 in
theorem ggX1_goThrough_X1_takeSingles : GoodIn wsX1_goThrough wsX1_takeSingles := goodIn_r _ [13, 2, 14, 15, 16, 17, 6, 18, 19, 20, 21, 22, 23, 24, 25, 26, 27, 28, 29, 30, 12, 31, 32, 33, 34, 35, 36, 37, 38, 39, 40, 41, 42, 1, 43, 44, 68, 69, 70, 71, 72, 73, 74, 75, 76, 77, 78, 79, 80, 81] (by decide +kernel) (by decide +kernel)
set_option maxRecDepth 20000 in
theorem gX1_goThrough_X1_takeSingles : GoodIn wsX1_goThrough (wsV RX1 84 RX1 yX1_takeSingles wsX1_takeSingles) := goodIn_app (goodIn_of _ (by decide +kernel)) ggX1_goThrough_X1_takeSingles
set_option maxRecDepth 20000 in
theorem ggX1_goThrough_X0_sumAt : GoodIn wsX1_goThrough wsX0_sumAt := goodIn_r _ [48, 49, 20, 21, 22, 73, 74, 75, 76, 77, 78, 79, 80, 81] (by decide +kernel) (by decide +kernel)
set_option maxRecDepth 20000 in
theorem gX1_goThrough_X0_sumAt : GoodIn wsX1_goThrough (wsV RX1 87 RX0 yX0_sumAt wsX0_sumAt) := goodIn_app (goodIn_of _ (by decide +kernel)) ggX1_goThrough_X0_sumAt
set_option maxRecDepth 20000 in
theorem ggX1_goThrough_X1_takeOutsideSets : GoodIn wsX1_goThrough wsX1_takeOutsideSets := goodIn_r _ [53, 2, 14, 15, 16, 17, 6, 18, 19, 20, 21, 22, 23, 24, 25, 26, 27, 28, 29, 30, 12, 31, 32, 33, 34, 35, 36, 37, 38, 45, 46, 47, 48, 49, 54, 55, 56, 57, 58, 59, 39, 40, 41, 42, 1, 43, 44, 68, 69, 70, 71, 72, 73, 74, 75, 76, 77, 78, 79, 80, 81] (by decide +kernel) (by decide +kernel)
set_option maxRecDepth 20000 in
theorem gX1_goThrough_X1_takeOutsideSets : GoodIn wsX1_goThrough (wsV RX1 90 RX1 yX1_takeOutsideSets wsX1_takeOutsideSets) := goodIn_app (goodIn_of _ (by decide +kernel)) ggX1_goThrough_X1_takeOutsideSets
set_option maxRecDepth 20000 in
theorem ggX1_goThrough_X1_takeUnfit : GoodIn wsX1_goThrough wsX1_takeUnfit := goodIn_r _ [63, 2, 64, 14, 15, 16, 17, 6, 18, 19, 20, 21, 22, 23, 24, 25, 26, 27, 28, 43, 44, 45, 46, 47, 48, 49, 65, 66, 12, 67, 39, 40, 41, 42, 1, 68, 69, 70, 71, 72, 73, 74, 75, 76, 77, 78, 79, 80, 81] (by decide +kernel) (by decide +kernel)
set_option maxRecDepth 20000 in
theorem gX1_goThrough_X1_takeUnfit : GoodIn wsX1_goThrough (wsV RX1 93 RX1 yX1_takeUnfit wsX1_takeUnfit) := goodIn_app (goodIn_of _ (by decide +kernel)) ggX1_goThrough_X1_takeUnfit
theorem dX1_goThrough_0 : decode cX1_goThrough 0 = .ok (.aload_n 0, 1) := by decide +kernel
theorem dX1_goThrough_1 : decode cX1_goThrough 1 = .ok (.iconst 0, 1) := by decide +kernel
theorem dX1_goThrough_2 : decode cX1_goThrough 2 = .ok (.putfield 29, 3) := by decide +kernel
theorem dX1_goThrough_5 : decode cX1_goThrough 5 = .ok (.aload_n 0, 1) := by decide +kernel
theorem dX1_goThrough_6 : decode cX1_goThrough 6 = .ok (.getfield 18, 3) := by decide +kernel
theorem dX1_goThrough_9 : decode cX1_goThrough 9 = .ok (.invokevirtual 81, 3) := by decide +kernel
theorem dX1_goThrough_12 : decode cX1_goThrough 12 = .ok (.istore_n 2, 1) := by decide +kernel
theorem dX1_goThrough_13 : decode cX1_goThrough 13 = .ok (.iconst 0, 1) := by decide +kernel
theorem dX1_goThrough_14 : decode cX1_goThrough 14 = .ok (.istore_n 3, 1) := by decide +kernel
theorem dX1_goThrough_15 : decode cX1_goThrough 15 = .ok (.iload_n 3, 1) := by decide +kernel
theorem dX1_goThrough_16 : decode cX1_goThrough 16 = .ok (.iload_n 2, 1) := by decide +kernel
theorem dX1_goThrough_17 : decode cX1_goThrough 17 = .ok (.if_icmp .ge 51, 3) := by decide +kernel
theorem dX1_goThrough_20 : decode cX1_goThrough 20 = .ok (.iload_n 1, 1) := by decide +kernel
theorem dX1_goThrough_21 : decode cX1_goThrough 21 = .ok (.iconst 1, 1) := by decide +kernel
theorem dX1_goThrough_22 : decode cX1_goThrough 22 = .ok (.if_icmp .ne 11, 3) := by decide +kernel
theorem dX1_goThrough_25 : decode cX1_goThrough 25 = .ok (.aload_n 0, 1) := by decide +kernel
theorem dX1_goThrough_26 : decode cX1_goThrough 26 = .ok (.iload_n 3, 1) := by decide +kernel
theorem dX1_goThrough_27 : decode cX1_goThrough 27 = .ok (.invokevirtual 84, 3) := by decide +kernel
theorem dX1_goThrough_30 : decode cX1_goThrough 30 = .ok (.goto 32, 3) := by decide +kernel
theorem dX1_goThrough_33 : decode cX1_goThrough 33 = .ok (.aload_n 0, 1) := by decide +kernel
theorem dX1_goThrough_34 : decode cX1_goThrough 34 = .ok (.getfield 18, 3) := by decide +kernel
theorem dX1_goThrough_37 : decode cX1_goThrough 37 = .ok (.iload_n 3, 1) := by decide +kernel
theorem dX1_goThrough_38 : decode cX1_goThrough 38 = .ok (.invokevirtual 87, 3) := by decide +kernel
theorem dX1_goThrough_41 : decode cX1_goThrough 41 = .ok (.ifCond .eq 21, 3) := by decide +kernel
theorem dX1_goThrough_44 : decode cX1_goThrough 44 = .ok (.iload_n 1, 1) := by decide +kernel
theorem dX1_goThrough_45 : decode cX1_goThrough 45 = .ok (.iconst 2, 1) := by decide +kernel
theorem dX1_goThrough_46 : decode cX1_goThrough 46 = .ok (.if_icmp .ne 11, 3) := by decide +kernel
theorem dX1_goThrough_49 : decode cX1_goThrough 49 = .ok (.aload_n 0, 1) := by decide +kernel
theorem dX1_goThrough_50 : decode cX1_goThrough 50 = .ok (.iload_n 3, 1) := by decide +kernel
theorem dX1_goThrough_51 : decode cX1_goThrough 51 = .ok (.invokevirtual 90, 3) := by decide +kernel
theorem dX1_goThrough_54 : decode cX1_goThrough 54 = .ok (.goto 8, 3) := by decide +kernel
theorem dX1_goThrough_57 : decode cX1_goThrough 57 = .ok (.aload_n 0, 1) := by decide +kernel
theorem dX1_goThrough_58 : decode cX1_goThrough 58 = .ok (.iload_n 3, 1) := by decide +kernel
theorem dX1_goThrough_59 : decode cX1_goThrough 59 = .ok (.invokevirtual 93, 3) := by decide +kernel
theorem dX1_goThrough_62 : decode cX1_goThrough 62 = .ok (.iinc 3 1, 3) := by decide +kernel
theorem dX1_goThrough_65 : decode cX1_goThrough 65 = .ok (.goto (-50), 3) := by decide +kernel
theorem dX1_goThrough_68 : decode cX1_goThrough 68 = .ok (.return_, 1) := by decide +kernel
set_option maxRecDepth 20000 in
theorem ggX1_takeSingles_X0_lengthAt : GoodIn wsX1_takeSingles wsX0_lengthAt := goodIn_r _ [7, 8, 9, 10, 11, 41, 42, 43, 44, 45, 46, 47, 48, 49] (by decide +kernel) (by decide +kernel)
set_option maxRecDepth 20000 in
theorem gX1_takeSingles_X0_lengthAt : GoodIn wsX1_takeSingles (wsV RX1 96 RX0 yX0_lengthAt wsX0_lengthAt) := goodIn_app (goodIn_of _ (by decide +kernel)) ggX1_takeSingles_X0_lengthAt
set_option maxRecDepth 20000 in
theorem ggX1_takeSingles_X0_cellAt : GoodIn wsX1_takeSingles wsX0_cellAt := goodIn_r _ [15, 16, 17, 9, 10, 11, 41, 42, 43, 44, 45, 46, 47, 48, 49] (by decide +kernel) (by decide +kernel)
set_option maxRecDepth 20000 in
theorem gX1_takeSingles_X0_cellAt : GoodIn wsX1_takeSingles (wsV RX1 99 RX0 yX0_cellAt wsX0_cellAt) := goodIn_app (goodIn_of _ (by decide +kernel)) ggX1_takeSingles_X0_cellAt
set_option maxRecDepth 20000 in
theorem ggX1_takeSingles_X3_at : GoodIn wsX1_takeSingles wsX3_at := goodIn_r _ [11] (by decide +kernel) (by decide +kernel)
set_option maxRecDepth 20000 in
theorem gX1_takeSingles_X3_at_n54 : GoodIn wsX1_takeSingles (wsX3_at) := ggX1_takeSingles_X3_at
set_option maxRecDepth 20000 in
theorem ggX1_takeSingles_X1_isSingle : GoodIn wsX1_takeSingles wsX1_isSingle := goodIn_r _ [21, 22, 23, 24, 25, 26, 27, 28] (by decide +kernel) (by decide +kernel)
set_option maxRecDepth 20000 in
theorem gX1_takeSingles_X1_isSingle : GoodIn wsX1_takeSingles (va_wsS RX1 64 yX1_isSingle wsX1_isSingle) := goodIn_app (goodIn_of _ (by decide +kernel)) ggX1_takeSingles_X1_isSingle
set_option maxRecDepth 20000 in
theorem ggX1_takeSingles_X1_take : GoodIn wsX1_takeSingles wsX1_take := goodIn_r _ [32, 2, 33, 9, 10, 11, 34, 35, 36, 37, 38, 39, 40] (by decide +kernel) (by decide +kernel)
set_option maxRecDepth 20000 in
theorem gX1_takeSingles_X1_take : GoodIn wsX1_takeSingles (wsV RX1 102 RX1 yX1_take wsX1_take) := goodIn_app (goodIn_of _ (by decide +kernel)) ggX1_takeSingles_X1_take
theorem dX1_takeSingles_0 : decode cX1_takeSingles 0 = .ok (.aload_n 0, 1) := by decide +kernel
theorem dX1_takeSingles_1 : decode cX1_takeSingles 1 = .ok (.getfield 18, 3) := by decide +kernel
theorem dX1_takeSingles_4 : decode cX1_takeSingles 4 = .ok (.iload_n 1, 1) := by decide +kernel
theorem dX1_takeSingles_5 : decode cX1_takeSingles 5 = .ok (.invokevirtual 96, 3) := by decide +kernel
theorem dX1_takeSingles_8 : decode cX1_takeSingles 8 = .ok (.istore_n 2, 1) := by decide +kernel
theorem dX1_takeSingles_9 : decode cX1_takeSingles 9 = .ok (.iconst 0, 1) := by decide +kernel
theorem dX1_takeSingles_10 : decode cX1_takeSingles 10 = .ok (.istore_n 3, 1) := by decide +kernel
theorem dX1_takeSingles_11 : decode cX1_takeSingles 11 = .ok (.iload_n 3, 1) := by decide +kernel
theorem dX1_takeSingles_12 : decode cX1_takeSingles 12 = .ok (.iload_n 2, 1) := by decide +kernel
theorem dX1_takeSingles_13 : decode cX1_takeSingles 13 = .ok (.if_icmp .ge 75, 3) := by decide +kernel
theorem dX1_takeSingles_16 : decode cX1_takeSingles 16 = .ok (.aload_n 0, 1) := by decide +kernel
theorem dX1_takeSingles_17 : decode cX1_takeSingles 17 = .ok (.getfield 9, 3) := by decide +kernel
theorem dX1_takeSingles_20 : decode cX1_takeSingles 20 = .ok (.aload_n 0, 1) := by decide +kernel
theorem dX1_takeSingles_21 : decode cX1_takeSingles 21 = .ok (.getfield 18, 3) := by decide +kernel
theorem dX1_takeSingles_24 : decode cX1_takeSingles 24 = .ok (.iload_n 1, 1) := by decide +kernel
theorem dX1_takeSingles_25 : decode cX1_takeSingles 25 = .ok (.iload_n 3, 1) := by decide +kernel
theorem dX1_takeSingles_26 : decode cX1_takeSingles 26 = .ok (.invokevirtual 99, 3) := by decide +kernel
theorem dX1_takeSingles_29 : decode cX1_takeSingles 29 = .ok (.invokestatic 54, 3) := by decide +kernel
theorem dX1_takeSingles_32 : decode cX1_takeSingles 32 = .ok (.istore 4, 2) := by decide +kernel
theorem dX1_takeSingles_34 : decode cX1_takeSingles 34 = .ok (.iload 4, 2) := by decide +kernel
theorem dX1_takeSingles_36 : decode cX1_takeSingles 36 = .ok (.invokestatic 64, 3) := by decide +kernel
theorem dX1_takeSingles_39 : decode cX1_takeSingles 39 = .ok (.ifCond .ne 6, 3) := by decide +kernel
theorem dX1_takeSingles_42 : decode cX1_takeSingles 42 = .ok (.goto 40, 3) := by decide +kernel
theorem dX1_takeSingles_45 : decode cX1_takeSingles 45 = .ok (.iconst 0, 1) := by decide +kernel
theorem dX1_takeSingles_46 : decode cX1_takeSingles 46 = .ok (.istore 5, 2) := by decide +kernel
theorem dX1_takeSingles_48 : decode cX1_takeSingles 48 = .ok (.iload 5, 2) := by decide +kernel
theorem dX1_takeSingles_50 : decode cX1_takeSingles 50 = .ok (.iload_n 2, 1) := by decide +kernel
theorem dX1_takeSingles_51 : decode cX1_takeSingles 51 = .ok (.if_icmp .ge 31, 3) := by decide +kernel
theorem dX1_takeSingles_54 : decode cX1_takeSingles 54 = .ok (.iload 5, 2) := by decide +kernel
theorem dX1_takeSingles_56 : decode cX1_takeSingles 56 = .ok (.iload_n 3, 1) := by decide +kernel
theorem dX1_takeSingles_57 : decode cX1_takeSingles 57 = .ok (.if_icmp .eq 19, 3) := by decide +kernel
theorem dX1_takeSingles_60 : decode cX1_takeSingles 60 = .ok (.aload_n 0, 1) := by decide +kernel
theorem dX1_takeSingles_61 : decode cX1_takeSingles 61 = .ok (.aload_n 0, 1) := by decide +kernel
theorem dX1_takeSingles_62 : decode cX1_takeSingles 62 = .ok (.getfield 18, 3) := by decide +kernel
theorem dX1_takeSingles_65 : decode cX1_takeSingles 65 = .ok (.iload_n 1, 1) := by decide +kernel
theorem dX1_takeSingles_66 : decode cX1_takeSingles 66 = .ok (.iload 5, 2) := by decide +kernel
theorem dX1_takeSingles_68 : decode cX1_takeSingles 68 = .ok (.invokevirtual 99, 3) := by decide +kernel
theorem dX1_takeSingles_71 : decode cX1_takeSingles 71 = .ok (.iload 4, 2) := by decide +kernel
theorem dX1_takeSingles_73 : decode cX1_takeSingles 73 = .ok (.invokevirtual 102, 3) := by decide +kernel
theorem dX1_takeSingles_76 : decode cX1_takeSingles 76 = .ok (.iinc 5 1, 3) := by decide +kernel
theorem dX1_takeSingles_79 : decode cX1_takeSingles 79 = .ok (.goto (-31), 3) := by decide +kernel
theorem dX1_takeSingles_82 : decode cX1_takeSingles 82 = .ok (.iinc 3 1, 3) := by decide +kernel
theorem dX1_takeSingles_85 : decode cX1_takeSingles 85 = .ok (.goto (-74), 3) := by decide +kernel
theorem dX1_takeSingles_88 : decode cX1_takeSingles 88 = .ok (.return_, 1) := by decide +kernel
set_option maxRecDepth 20000 in
theorem ggX1_takeOutsideSets_X0_lengthAt : GoodIn wsX1_takeOutsideSets wsX0_lengthAt := goodIn_r _ [7, 8, 9, 10, 11, 52, 53, 54, 55, 56, 57, 58, 59, 60] (by decide +kernel) (by decide +kernel)
set_option maxRecDepth 20000 in
theorem gX1_takeOutsideSets_X0_lengthAt : GoodIn wsX1_takeOutsideSets (wsV RX1 96 RX0 yX0_lengthAt wsX0_lengthAt) := goodIn_app (goodIn_of _ (by decide +kernel)) ggX1_takeOutsideSets_X0_lengthAt
set_option maxRecDepth 20000 in
theorem ggX1_takeOutsideSets_X0_cellAt : GoodIn wsX1_takeOutsideSets wsX0_cellAt := goodIn_r _ [15, 16, 17, 9, 10, 11, 52, 53, 54, 55, 56, 57, 58, 59, 60] (by decide +kernel) (by decide +kernel)
set_option maxRecDepth 20000 in
theorem gX1_takeOutsideSets_X0_cellAt : GoodIn wsX1_takeOutsideSets (wsV RX1 99 RX0 yX0_cellAt wsX0_cellAt) := goodIn_app (goodIn_of _ (by decide +kernel)) ggX1_takeOutsideSets_X0_cellAt
set_option maxRecDepth 20000 in
theorem ggX1_takeOutsideSets_X3_at : GoodIn wsX1_takeOutsideSets wsX3_at := goodIn_r _ [11] (by decide +kernel) (by decide +kernel)
set_option maxRecDepth 20000 in
theorem gX1_takeOutsideSets_X3_at_n54 : GoodIn wsX1_takeOutsideSets (wsX3_at) := ggX1_takeOutsideSets_X3_at
set_option maxRecDepth 20000 in
theorem ggX1_takeOutsideSets_X1_isSingle : GoodIn wsX1_takeOutsideSets wsX1_isSingle := goodIn_r _ [21, 22, 23, 24, 25, 26, 27, 28] (by decide +kernel) (by decide +kernel)
set_option maxRecDepth 20000 in
theorem gX1_takeOutsideSets_X1_isSingle : GoodIn wsX1_takeOutsideSets (va_wsS RX1 64 yX1_isSingle wsX1_isSingle) := goodIn_app (goodIn_of _ (by decide +kernel)) ggX1_takeOutsideSets_X1_isSingle
set_option maxRecDepth 20000 in
theorem ggX1_takeOutsideSets_X0_sumAt : GoodIn wsX1_takeOutsideSets wsX0_sumAt := goodIn_r _ [32, 33, 9, 10, 11, 52, 53, 54, 55, 56, 57, 58, 59, 60] (by decide +kernel) (by decide +kernel)
set_option maxRecDepth 20000 in
theorem gX1_takeOutsideSets_X0_sumAt : GoodIn wsX1_takeOutsideSets (wsV RX1 87 RX0 yX0_sumAt wsX0_sumAt) := goodIn_app (goodIn_of _ (by decide +kernel)) ggX1_takeOutsideSets_X0_sumAt
set_option maxRecDepth 20000 in
theorem ggX1_takeOutsideSets_X1_digitsOfSets : GoodIn wsX1_takeOutsideSets wsX1_digitsOfSets := goodIn_r _ [36, 22, 23, 24, 25, 26, 27, 28, 37, 38, 20, 39] (by decide +kernel) (by decide +kernel)
set_option maxRecDepth 20000 in
theorem gX1_takeOutsideSets_X1_digitsOfSets : GoodIn wsX1_takeOutsideSets (va_wsS RX1 106 yX1_digitsOfSets wsX1_digitsOfSets) := goodIn_app (goodIn_of _ (by decide +kernel)) ggX1_takeOutsideSets_X1_digitsOfSets
set_option maxRecDepth 20000 in
theorem ggX1_takeOutsideSets_X1_take : GoodIn wsX1_takeOutsideSets wsX1_take := goodIn_r _ [43, 2, 44, 9, 10, 11, 45, 46, 47, 48, 49, 50, 51] (by decide +kernel) (by decide +kernel)
set_option maxRecDepth 20000 in
theorem gX1_takeOutsideSets_X1_take : GoodIn wsX1_takeOutsideSets (wsV RX1 102 RX1 yX1_take wsX1_take) := goodIn_app (goodIn_of _ (by decide +kernel)) ggX1_takeOutsideSets_X1_take
theorem dX1_takeOutsideSets_0 : decode cX1_takeOutsideSets 0 = .ok (.aload_n 0, 1) := by decide +kernel
theorem dX1_takeOutsideSets_1 : decode cX1_takeOutsideSets 1 = .ok (.getfield 18, 3) := by decide +kernel
theorem dX1_takeOutsideSets_4 : decode cX1_takeOutsideSets 4 = .ok (.iload_n 1, 1) := by decide +kernel
theorem dX1_takeOutsideSets_5 : decode cX1_takeOutsideSets 5 = .ok (.invokevirtual 96, 3) := by decide +kernel
theorem dX1_takeOutsideSets_8 : decode cX1_takeOutsideSets 8 = .ok (.istore_n 2, 1) := by decide +kernel
theorem dX1_takeOutsideSets_9 : decode cX1_takeOutsideSets 9 = .ok (.iconst 0, 1) := by decide +kernel
theorem dX1_takeOutsideSets_10 : decode cX1_takeOutsideSets 10 = .ok (.istore_n 3, 1) := by decide +kernel
theorem dX1_takeOutsideSets_11 : decode cX1_takeOutsideSets 11 = .ok (.iconst 0, 1) := by decide +kernel
theorem dX1_takeOutsideSets_12 : decode cX1_takeOutsideSets 12 = .ok (.istore 4, 2) := by decide +kernel
theorem dX1_takeOutsideSets_14 : decode cX1_takeOutsideSets 14 = .ok (.iload 4, 2) := by decide +kernel
theorem dX1_takeOutsideSets_16 : decode cX1_takeOutsideSets 16 = .ok (.iload_n 2, 1) := by decide +kernel
theorem dX1_takeOutsideSets_17 : decode cX1_takeOutsideSets 17 = .ok (.if_icmp .ge 41, 3) := by decide +kernel
theorem dX1_takeOutsideSets_20 : decode cX1_takeOutsideSets 20 = .ok (.aload_n 0, 1) := by decide +kernel
theorem dX1_takeOutsideSets_21 : decode cX1_takeOutsideSets 21 = .ok (.getfield 9, 3) := by decide +kernel
theorem dX1_takeOutsideSets_24 : decode cX1_takeOutsideSets 24 = .ok (.aload_n 0, 1) := by decide +kernel
theorem dX1_takeOutsideSets_25 : decode cX1_takeOutsideSets 25 = .ok (.getfield 18, 3) := by decide +kernel
theorem dX1_takeOutsideSets_28 : decode cX1_takeOutsideSets 28 = .ok (.iload_n 1, 1) := by decide +kernel
theorem dX1_takeOutsideSets_29 : decode cX1_takeOutsideSets 29 = .ok (.iload 4, 2) := by decide +kernel
theorem dX1_takeOutsideSets_31 : decode cX1_takeOutsideSets 31 = .ok (.invokevirtual 99, 3) := by decide +kernel
theorem dX1_takeOutsideSets_34 : decode cX1_takeOutsideSets 34 = .ok (.invokestatic 54, 3) := by decide +kernel
theorem dX1_takeOutsideSets_37 : decode cX1_takeOutsideSets 37 = .ok (.istore 5, 2) := by decide +kernel
theorem dX1_takeOutsideSets_39 : decode cX1_takeOutsideSets 39 = .ok (.iload 5, 2) := by decide +kernel
theorem dX1_takeOutsideSets_41 : decode cX1_takeOutsideSets 41 = .ok (.invokestatic 64, 3) := by decide +kernel
theorem dX1_takeOutsideSets_44 : decode cX1_takeOutsideSets 44 = .ok (.ifCond .eq 8, 3) := by decide +kernel
theorem dX1_takeOutsideSets_47 : decode cX1_takeOutsideSets 47 = .ok (.iload_n 3, 1) := by decide +kernel
theorem dX1_takeOutsideSets_48 : decode cX1_takeOutsideSets 48 = .ok (.iload 5, 2) := by decide +kernel
theorem dX1_takeOutsideSets_50 : decode cX1_takeOutsideSets 50 = .ok (.ior, 1) := by decide +kernel
theorem dX1_takeOutsideSets_51 : decode cX1_takeOutsideSets 51 = .ok (.istore_n 3, 1) := by decide +kernel
theorem dX1_takeOutsideSets_52 : decode cX1_takeOutsideSets 52 = .ok (.iinc 4 1, 3) := by decide +kernel
theorem dX1_takeOutsideSets_55 : decode cX1_takeOutsideSets 55 = .ok (.goto (-41), 3) := by decide +kernel
theorem dX1_takeOutsideSets_58 : decode cX1_takeOutsideSets 58 = .ok (.iload_n 2, 1) := by decide +kernel
theorem dX1_takeOutsideSets_59 : decode cX1_takeOutsideSets 59 = .ok (.aload_n 0, 1) := by decide +kernel
theorem dX1_takeOutsideSets_60 : decode cX1_takeOutsideSets 60 = .ok (.getfield 18, 3) := by decide +kernel
theorem dX1_takeOutsideSets_63 : decode cX1_takeOutsideSets 63 = .ok (.iload_n 1, 1) := by decide +kernel
theorem dX1_takeOutsideSets_64 : decode cX1_takeOutsideSets 64 = .ok (.invokevirtual 87, 3) := by decide +kernel
theorem dX1_takeOutsideSets_67 : decode cX1_takeOutsideSets 67 = .ok (.iload_n 3, 1) := by decide +kernel
theorem dX1_takeOutsideSets_68 : decode cX1_takeOutsideSets 68 = .ok (.invokestatic 106, 3) := by decide +kernel
theorem dX1_takeOutsideSets_71 : decode cX1_takeOutsideSets 71 = .ok (.istore 4, 2) := by decide +kernel
theorem dX1_takeOutsideSets_73 : decode cX1_takeOutsideSets 73 = .ok (.iconst 0, 1) := by decide +kernel
theorem dX1_takeOutsideSets_74 : decode cX1_takeOutsideSets 74 = .ok (.istore 5, 2) := by decide +kernel
theorem dX1_takeOutsideSets_76 : decode cX1_takeOutsideSets 76 = .ok (.iload 5, 2) := by decide +kernel
theorem dX1_takeOutsideSets_78 : decode cX1_takeOutsideSets 78 = .ok (.iload_n 2, 1) := by decide +kernel
theorem dX1_takeOutsideSets_79 : decode cX1_takeOutsideSets 79 = .ok (.if_icmp .ge 31, 3) := by decide +kernel
theorem dX1_takeOutsideSets_82 : decode cX1_takeOutsideSets 82 = .ok (.aload_n 0, 1) := by decide +kernel
theorem dX1_takeOutsideSets_83 : decode cX1_takeOutsideSets 83 = .ok (.aload_n 0, 1) := by decide +kernel
theorem dX1_takeOutsideSets_84 : decode cX1_takeOutsideSets 84 = .ok (.getfield 18, 3) := by decide +kernel
theorem dX1_takeOutsideSets_87 : decode cX1_takeOutsideSets 87 = .ok (.iload_n 1, 1) := by decide +kernel
theorem dX1_takeOutsideSets_88 : decode cX1_takeOutsideSets 88 = .ok (.iload 5, 2) := by decide +kernel
theorem dX1_takeOutsideSets_90 : decode cX1_takeOutsideSets 90 = .ok (.invokevirtual 99, 3) := by decide +kernel
theorem dX1_takeOutsideSets_93 : decode cX1_takeOutsideSets 93 = .ok (.sipush 1022, 3) := by decide +kernel
theorem dX1_takeOutsideSets_96 : decode cX1_takeOutsideSets 96 = .ok (.iload 4, 2) := by decide +kernel
theorem dX1_takeOutsideSets_98 : decode cX1_takeOutsideSets 98 = .ok (.iconst (-1), 1) := by decide +kernel
theorem dX1_takeOutsideSets_99 : decode cX1_takeOutsideSets 99 = .ok (.ixor, 1) := by decide +kernel
theorem dX1_takeOutsideSets_100 : decode cX1_takeOutsideSets 100 = .ok (.iand, 1) := by decide +kernel
theorem dX1_takeOutsideSets_101 : decode cX1_takeOutsideSets 101 = .ok (.invokevirtual 102, 3) := by decide +kernel
theorem dX1_takeOutsideSets_104 : decode cX1_takeOutsideSets 104 = .ok (.iinc 5 1, 3) := by decide +kernel
theorem dX1_takeOutsideSets_107 : decode cX1_takeOutsideSets 107 = .ok (.goto (-31), 3) := by decide +kernel
theorem dX1_takeOutsideSets_110 : decode cX1_takeOutsideSets 110 = .ok (.return_, 1) := by decide +kernel
set_option maxRecDepth 20000 in
theorem ggX1_digitsOfSets_J6_bitCount_0f7a4 : GoodIn wsX1_digitsOfSets wsJ6_bitCount_0f7a4 := goodIn_r _ [4, 5, 6, 7] (by decide +kernel) (by decide +kernel)
set_option maxRecDepth 20000 in
theorem gX1_digitsOfSets_J6_bitCount_0f7a4 : GoodIn wsX1_digitsOfSets (va_wsS RX1 110 yJ6_bitCount_0f7a4 wsJ6_bitCount_0f7a4) := goodIn_app (goodIn_of _ (by decide +kernel)) ggX1_digitsOfSets_J6_bitCount_0f7a4
set_option maxRecDepth 20000 in
theorem ggX1_digitsOfSets_X1_sumOfSet : GoodIn wsX1_digitsOfSets wsX1_sumOfSet := goodIn_r _ [11] (by decide +kernel) (by decide +kernel)
set_option maxRecDepth 20000 in
theorem gX1_digitsOfSets_X1_sumOfSet : GoodIn wsX1_digitsOfSets (va_wsS RX1 115 yX1_sumOfSet wsX1_sumOfSet) := goodIn_app (goodIn_of _ (by decide +kernel)) ggX1_digitsOfSets_X1_sumOfSet
theorem dX1_digitsOfSets_0 : decode cX1_digitsOfSets 0 = .ok (.iconst 0, 1) := by decide +kernel
theorem dX1_digitsOfSets_1 : decode cX1_digitsOfSets 1 = .ok (.istore_n 3, 1) := by decide +kernel
theorem dX1_digitsOfSets_2 : decode cX1_digitsOfSets 2 = .ok (.iconst 0, 1) := by decide +kernel
theorem dX1_digitsOfSets_3 : decode cX1_digitsOfSets 3 = .ok (.istore 4, 2) := by decide +kernel
theorem dX1_digitsOfSets_5 : decode cX1_digitsOfSets 5 = .ok (.iload 4, 2) := by decide +kernel
theorem dX1_digitsOfSets_7 : decode cX1_digitsOfSets 7 = .ok (.sipush 1022, 3) := by decide +kernel
theorem dX1_digitsOfSets_10 : decode cX1_digitsOfSets 10 = .ok (.if_icmp .gt 40, 3) := by decide +kernel
theorem dX1_digitsOfSets_13 : decode cX1_digitsOfSets 13 = .ok (.iload 4, 2) := by decide +kernel
theorem dX1_digitsOfSets_15 : decode cX1_digitsOfSets 15 = .ok (.invokestatic 110, 3) := by decide +kernel
theorem dX1_digitsOfSets_18 : decode cX1_digitsOfSets 18 = .ok (.iload_n 0, 1) := by decide +kernel
theorem dX1_digitsOfSets_19 : decode cX1_digitsOfSets 19 = .ok (.if_icmp .ne 25, 3) := by decide +kernel
theorem dX1_digitsOfSets_22 : decode cX1_digitsOfSets 22 = .ok (.iload 4, 2) := by decide +kernel
theorem dX1_digitsOfSets_24 : decode cX1_digitsOfSets 24 = .ok (.iload_n 2, 1) := by decide +kernel
theorem dX1_digitsOfSets_25 : decode cX1_digitsOfSets 25 = .ok (.iand, 1) := by decide +kernel
theorem dX1_digitsOfSets_26 : decode cX1_digitsOfSets 26 = .ok (.iload_n 2, 1) := by decide +kernel
theorem dX1_digitsOfSets_27 : decode cX1_digitsOfSets 27 = .ok (.if_icmp .ne 17, 3) := by decide +kernel
theorem dX1_digitsOfSets_30 : decode cX1_digitsOfSets 30 = .ok (.iload 4, 2) := by decide +kernel
theorem dX1_digitsOfSets_32 : decode cX1_digitsOfSets 32 = .ok (.invokestatic 115, 3) := by decide +kernel
theorem dX1_digitsOfSets_35 : decode cX1_digitsOfSets 35 = .ok (.iload_n 1, 1) := by decide +kernel
theorem dX1_digitsOfSets_36 : decode cX1_digitsOfSets 36 = .ok (.if_icmp .ne 8, 3) := by decide +kernel
theorem dX1_digitsOfSets_39 : decode cX1_digitsOfSets 39 = .ok (.iload_n 3, 1) := by decide +kernel
theorem dX1_digitsOfSets_40 : decode cX1_digitsOfSets 40 = .ok (.iload 4, 2) := by decide +kernel
theorem dX1_digitsOfSets_42 : decode cX1_digitsOfSets 42 = .ok (.ior, 1) := by decide +kernel
theorem dX1_digitsOfSets_43 : decode cX1_digitsOfSets 43 = .ok (.istore_n 3, 1) := by decide +kernel
theorem dX1_digitsOfSets_44 : decode cX1_digitsOfSets 44 = .ok (.iinc 4 2, 3) := by decide +kernel
theorem dX1_digitsOfSets_47 : decode cX1_digitsOfSets 47 = .ok (.goto (-42), 3) := by decide +kernel
theorem dX1_digitsOfSets_50 : decode cX1_digitsOfSets 50 = .ok (.iload_n 3, 1) := by decide +kernel
theorem dX1_digitsOfSets_51 : decode cX1_digitsOfSets 51 = .ok (.ireturn, 1) := by decide +kernel
theorem dX1_sumOfSet_0 : decode cX1_sumOfSet 0 = .ok (.iconst 0, 1) := by decide +kernel
theorem dX1_sumOfSet_1 : decode cX1_sumOfSet 1 = .ok (.istore_n 1, 1) := by decide +kernel
theorem dX1_sumOfSet_2 : decode cX1_sumOfSet 2 = .ok (.iconst 1, 1) := by decide +kernel
theorem dX1_sumOfSet_3 : decode cX1_sumOfSet 3 = .ok (.istore_n 2, 1) := by decide +kernel
theorem dX1_sumOfSet_4 : decode cX1_sumOfSet 4 = .ok (.iload_n 2, 1) := by decide +kernel
theorem dX1_sumOfSet_5 : decode cX1_sumOfSet 5 = .ok (.bipush 9, 2) := by decide +kernel
theorem dX1_sumOfSet_7 : decode cX1_sumOfSet 7 = .ok (.if_icmp .gt 21, 3) := by decide +kernel
theorem dX1_sumOfSet_10 : decode cX1_sumOfSet 10 = .ok (.iload_n 0, 1) := by decide +kernel
theorem dX1_sumOfSet_11 : decode cX1_sumOfSet 11 = .ok (.iconst 1, 1) := by decide +kernel
theorem dX1_sumOfSet_12 : decode cX1_sumOfSet 12 = .ok (.iload_n 2, 1) := by decide +kernel
theorem dX1_sumOfSet_13 : decode cX1_sumOfSet 13 = .ok (.ishl, 1) := by decide +kernel
theorem dX1_sumOfSet_14 : decode cX1_sumOfSet 14 = .ok (.iand, 1) := by decide +kernel
theorem dX1_sumOfSet_15 : decode cX1_sumOfSet 15 = .ok (.ifCond .eq 7, 3) := by decide +kernel
theorem dX1_sumOfSet_18 : decode cX1_sumOfSet 18 = .ok (.iload_n 1, 1) := by decide +kernel
theorem dX1_sumOfSet_19 : decode cX1_sumOfSet 19 = .ok (.iload_n 2, 1) := by decide +kernel
theorem dX1_sumOfSet_20 : decode cX1_sumOfSet 20 = .ok (.iadd, 1) := by decide +kernel
theorem dX1_sumOfSet_21 : decode cX1_sumOfSet 21 = .ok (.istore_n 1, 1) := by decide +kernel
theorem dX1_sumOfSet_22 : decode cX1_sumOfSet 22 = .ok (.iinc 2 1, 3) := by decide +kernel
theorem dX1_sumOfSet_25 : decode cX1_sumOfSet 25 = .ok (.goto (-21), 3) := by decide +kernel
theorem dX1_sumOfSet_28 : decode cX1_sumOfSet 28 = .ok (.iload_n 1, 1) := by decide +kernel
theorem dX1_sumOfSet_29 : decode cX1_sumOfSet 29 = .ok (.ireturn, 1) := by decide +kernel
set_option maxRecDepth 20000 in
theorem ggX1_takeUnfit_X0_lengthAt : GoodIn wsX1_takeUnfit wsX0_lengthAt := goodIn_r _ [8, 9, 10, 11, 12, 40, 41, 42, 43, 44, 45, 46, 47, 48] (by decide +kernel) (by decide +kernel)
set_option maxRecDepth 20000 in
theorem gX1_takeUnfit_X0_lengthAt : GoodIn wsX1_takeUnfit (wsV RX1 96 RX0 yX0_lengthAt wsX0_lengthAt) := goodIn_app (goodIn_of _ (by decide +kernel)) ggX1_takeUnfit_X0_lengthAt
set_option maxRecDepth 20000 in
theorem ggX1_takeUnfit_X0_cellAt : GoodIn wsX1_takeUnfit wsX0_cellAt := goodIn_r _ [16, 17, 18, 10, 11, 12, 40, 41, 42, 43, 44, 45, 46, 47, 48] (by decide +kernel) (by decide +kernel)
set_option maxRecDepth 20000 in
theorem gX1_takeUnfit_X0_cellAt : GoodIn wsX1_takeUnfit (wsV RX1 99 RX0 yX0_cellAt wsX0_cellAt) := goodIn_app (goodIn_of _ (by decide +kernel)) ggX1_takeUnfit_X0_cellAt
set_option maxRecDepth 20000 in
theorem ggX1_takeUnfit_X3_at : GoodIn wsX1_takeUnfit wsX3_at := goodIn_r _ [12] (by decide +kernel) (by decide +kernel)
set_option maxRecDepth 20000 in
theorem gX1_takeUnfit_X3_at_n54 : GoodIn wsX1_takeUnfit (wsX3_at) := ggX1_takeUnfit_X3_at
set_option maxRecDepth 20000 in
theorem ggX1_takeUnfit_X3_put : GoodIn wsX1_takeUnfit wsX3_put := goodIn_r _ [20] (by decide +kernel) (by decide +kernel)
set_option maxRecDepth 20000 in
theorem gX1_takeUnfit_X3_put_n74 : GoodIn wsX1_takeUnfit (wsX3_put) := ggX1_takeUnfit_X3_put
set_option maxRecDepth 20000 in
theorem ggX1_takeUnfit_X0_sumAt : GoodIn wsX1_takeUnfit wsX0_sumAt := goodIn_r _ [24, 25, 10, 11, 12, 40, 41, 42, 43, 44, 45, 46, 47, 48] (by decide +kernel) (by decide +kernel)
set_option maxRecDepth 20000 in
theorem gX1_takeUnfit_X0_sumAt : GoodIn wsX1_takeUnfit (wsV RX1 87 RX0 yX0_sumAt wsX0_sumAt) := goodIn_app (goodIn_of _ (by decide +kernel)) ggX1_takeUnfit_X0_sumAt
set_option maxRecDepth 20000 in
theorem ggX1_takeUnfit_X1_canMake : GoodIn wsX1_takeUnfit wsX1_canMake := goodIn_r _ [29, 10, 11, 12, 26, 27, 28] (by decide +kernel) (by decide +kernel)
set_option maxRecDepth 20000 in
theorem gX1_takeUnfit_X1_canMake : GoodIn wsX1_takeUnfit (va_wsS RX1 118 yX1_canMake wsX1_canMake) := goodIn_app (goodIn_of _ (by decide +kernel)) ggX1_takeUnfit_X1_canMake
set_option maxRecDepth 20000 in
theorem ggX1_takeUnfit_X1_take : GoodIn wsX1_takeUnfit wsX1_take := goodIn_r _ [33, 3, 34, 10, 11, 12, 19, 20, 35, 36, 37, 38, 39] (by decide +kernel) (by decide +kernel)
set_option maxRecDepth 20000 in
theorem gX1_takeUnfit_X1_take : GoodIn wsX1_takeUnfit (wsV RX1 102 RX1 yX1_take wsX1_take) := goodIn_app (goodIn_of _ (by decide +kernel)) ggX1_takeUnfit_X1_take
theorem dX1_takeUnfit_0 : decode cX1_takeUnfit 0 = .ok (.aload_n 0, 1) := by decide +kernel
theorem dX1_takeUnfit_1 : decode cX1_takeUnfit 1 = .ok (.getfield 18, 3) := by decide +kernel
theorem dX1_takeUnfit_4 : decode cX1_takeUnfit 4 = .ok (.iload_n 1, 1) := by decide +kernel
theorem dX1_takeUnfit_5 : decode cX1_takeUnfit 5 = .ok (.invokevirtual 96, 3) := by decide +kernel
theorem dX1_takeUnfit_8 : decode cX1_takeUnfit 8 = .ok (.istore_n 2, 1) := by decide +kernel
theorem dX1_takeUnfit_9 : decode cX1_takeUnfit 9 = .ok (.iconst 0, 1) := by decide +kernel
theorem dX1_takeUnfit_10 : decode cX1_takeUnfit 10 = .ok (.istore_n 3, 1) := by decide +kernel
theorem dX1_takeUnfit_11 : decode cX1_takeUnfit 11 = .ok (.iload_n 3, 1) := by decide +kernel
theorem dX1_takeUnfit_12 : decode cX1_takeUnfit 12 = .ok (.iload_n 2, 1) := by decide +kernel
theorem dX1_takeUnfit_13 : decode cX1_takeUnfit 13 = .ok (.if_icmp .ge 33, 3) := by decide +kernel
theorem dX1_takeUnfit_16 : decode cX1_takeUnfit 16 = .ok (.aload_n 0, 1) := by decide +kernel
theorem dX1_takeUnfit_17 : decode cX1_takeUnfit 17 = .ok (.getfield 15, 3) := by decide +kernel
theorem dX1_takeUnfit_20 : decode cX1_takeUnfit 20 = .ok (.iload_n 3, 1) := by decide +kernel
theorem dX1_takeUnfit_21 : decode cX1_takeUnfit 21 = .ok (.aload_n 0, 1) := by decide +kernel
theorem dX1_takeUnfit_22 : decode cX1_takeUnfit 22 = .ok (.getfield 9, 3) := by decide +kernel
theorem dX1_takeUnfit_25 : decode cX1_takeUnfit 25 = .ok (.aload_n 0, 1) := by decide +kernel
theorem dX1_takeUnfit_26 : decode cX1_takeUnfit 26 = .ok (.getfield 18, 3) := by decide +kernel
theorem dX1_takeUnfit_29 : decode cX1_takeUnfit 29 = .ok (.iload_n 1, 1) := by decide +kernel
theorem dX1_takeUnfit_30 : decode cX1_takeUnfit 30 = .ok (.iload_n 3, 1) := by decide +kernel
theorem dX1_takeUnfit_31 : decode cX1_takeUnfit 31 = .ok (.invokevirtual 99, 3) := by decide +kernel
theorem dX1_takeUnfit_34 : decode cX1_takeUnfit 34 = .ok (.invokestatic 54, 3) := by decide +kernel
theorem dX1_takeUnfit_37 : decode cX1_takeUnfit 37 = .ok (.invokestatic 74, 3) := by decide +kernel
theorem dX1_takeUnfit_40 : decode cX1_takeUnfit 40 = .ok (.iinc 3 1, 3) := by decide +kernel
theorem dX1_takeUnfit_43 : decode cX1_takeUnfit 43 = .ok (.goto (-32), 3) := by decide +kernel
theorem dX1_takeUnfit_46 : decode cX1_takeUnfit 46 = .ok (.iconst 0, 1) := by decide +kernel
theorem dX1_takeUnfit_47 : decode cX1_takeUnfit 47 = .ok (.istore_n 3, 1) := by decide +kernel
theorem dX1_takeUnfit_48 : decode cX1_takeUnfit 48 = .ok (.iload_n 3, 1) := by decide +kernel
theorem dX1_takeUnfit_49 : decode cX1_takeUnfit 49 = .ok (.iload_n 2, 1) := by decide +kernel
theorem dX1_takeUnfit_50 : decode cX1_takeUnfit 50 = .ok (.if_icmp .ge 112, 3) := by decide +kernel
theorem dX1_takeUnfit_53 : decode cX1_takeUnfit 53 = .ok (.aload_n 0, 1) := by decide +kernel
theorem dX1_takeUnfit_54 : decode cX1_takeUnfit 54 = .ok (.getfield 18, 3) := by decide +kernel
theorem dX1_takeUnfit_57 : decode cX1_takeUnfit 57 = .ok (.iload_n 1, 1) := by decide +kernel
theorem dX1_takeUnfit_58 : decode cX1_takeUnfit 58 = .ok (.iload_n 3, 1) := by decide +kernel
theorem dX1_takeUnfit_59 : decode cX1_takeUnfit 59 = .ok (.invokevirtual 99, 3) := by decide +kernel
theorem dX1_takeUnfit_62 : decode cX1_takeUnfit 62 = .ok (.istore 4, 2) := by decide +kernel
theorem dX1_takeUnfit_64 : decode cX1_takeUnfit 64 = .ok (.iconst 1, 1) := by decide +kernel
theorem dX1_takeUnfit_65 : decode cX1_takeUnfit 65 = .ok (.istore 5, 2) := by decide +kernel
theorem dX1_takeUnfit_67 : decode cX1_takeUnfit 67 = .ok (.iload 5, 2) := by decide +kernel
theorem dX1_takeUnfit_69 : decode cX1_takeUnfit 69 = .ok (.bipush 9, 2) := by decide +kernel
theorem dX1_takeUnfit_71 : decode cX1_takeUnfit 71 = .ok (.if_icmp .gt 68, 3) := by decide +kernel
theorem dX1_takeUnfit_74 : decode cX1_takeUnfit 74 = .ok (.aload_n 0, 1) := by decide +kernel
theorem dX1_takeUnfit_75 : decode cX1_takeUnfit 75 = .ok (.getfield 9, 3) := by decide +kernel
theorem dX1_takeUnfit_78 : decode cX1_takeUnfit 78 = .ok (.iload 4, 2) := by decide +kernel
theorem dX1_takeUnfit_80 : decode cX1_takeUnfit 80 = .ok (.invokestatic 54, 3) := by decide +kernel
theorem dX1_takeUnfit_83 : decode cX1_takeUnfit 83 = .ok (.iconst 1, 1) := by decide +kernel
theorem dX1_takeUnfit_84 : decode cX1_takeUnfit 84 = .ok (.iload 5, 2) := by decide +kernel
theorem dX1_takeUnfit_86 : decode cX1_takeUnfit 86 = .ok (.ishl, 1) := by decide +kernel
theorem dX1_takeUnfit_87 : decode cX1_takeUnfit 87 = .ok (.iand, 1) := by decide +kernel
theorem dX1_takeUnfit_88 : decode cX1_takeUnfit 88 = .ok (.istore 6, 2) := by decide +kernel
theorem dX1_takeUnfit_90 : decode cX1_takeUnfit 90 = .ok (.aload_n 0, 1) := by decide +kernel
theorem dX1_takeUnfit_91 : decode cX1_takeUnfit 91 = .ok (.getfield 15, 3) := by decide +kernel
theorem dX1_takeUnfit_94 : decode cX1_takeUnfit 94 = .ok (.iload_n 3, 1) := by decide +kernel
theorem dX1_takeUnfit_95 : decode cX1_takeUnfit 95 = .ok (.iload 6, 2) := by decide +kernel
theorem dX1_takeUnfit_97 : decode cX1_takeUnfit 97 = .ok (.invokestatic 74, 3) := by decide +kernel
theorem dX1_takeUnfit_100 : decode cX1_takeUnfit 100 = .ok (.iload 6, 2) := by decide +kernel
theorem dX1_takeUnfit_102 : decode cX1_takeUnfit 102 = .ok (.ifCond .eq 31, 3) := by decide +kernel
theorem dX1_takeUnfit_105 : decode cX1_takeUnfit 105 = .ok (.aload_n 0, 1) := by decide +kernel
theorem dX1_takeUnfit_106 : decode cX1_takeUnfit 106 = .ok (.getfield 15, 3) := by decide +kernel
theorem dX1_takeUnfit_109 : decode cX1_takeUnfit 109 = .ok (.iload_n 2, 1) := by decide +kernel
theorem dX1_takeUnfit_110 : decode cX1_takeUnfit 110 = .ok (.aload_n 0, 1) := by decide +kernel
theorem dX1_takeUnfit_111 : decode cX1_takeUnfit 111 = .ok (.getfield 18, 3) := by decide +kernel
theorem dX1_takeUnfit_114 : decode cX1_takeUnfit 114 = .ok (.iload_n 1, 1) := by decide +kernel
theorem dX1_takeUnfit_115 : decode cX1_takeUnfit 115 = .ok (.invokevirtual 87, 3) := by decide +kernel
theorem dX1_takeUnfit_118 : decode cX1_takeUnfit 118 = .ok (.iconst 0, 1) := by decide +kernel
theorem dX1_takeUnfit_119 : decode cX1_takeUnfit 119 = .ok (.invokestatic 118, 3) := by decide +kernel
theorem dX1_takeUnfit_122 : decode cX1_takeUnfit 122 = .ok (.ifCond .ne 11, 3) := by decide +kernel
theorem dX1_takeUnfit_125 : decode cX1_takeUnfit 125 = .ok (.aload_n 0, 1) := by decide +kernel
theorem dX1_takeUnfit_126 : decode cX1_takeUnfit 126 = .ok (.iload 4, 2) := by decide +kernel
theorem dX1_takeUnfit_128 : decode cX1_takeUnfit 128 = .ok (.iload 6, 2) := by decide +kernel
theorem dX1_takeUnfit_130 : decode cX1_takeUnfit 130 = .ok (.invokevirtual 102, 3) := by decide +kernel
theorem dX1_takeUnfit_133 : decode cX1_takeUnfit 133 = .ok (.iinc 5 1, 3) := by decide +kernel
theorem dX1_takeUnfit_136 : decode cX1_takeUnfit 136 = .ok (.goto (-69), 3) := by decide +kernel
theorem dX1_takeUnfit_139 : decode cX1_takeUnfit 139 = .ok (.aload_n 0, 1) := by decide +kernel
theorem dX1_takeUnfit_140 : decode cX1_takeUnfit 140 = .ok (.getfield 15, 3) := by decide +kernel
theorem dX1_takeUnfit_143 : decode cX1_takeUnfit 143 = .ok (.iload_n 3, 1) := by decide +kernel
theorem dX1_takeUnfit_144 : decode cX1_takeUnfit 144 = .ok (.aload_n 0, 1) := by decide +kernel
theorem dX1_takeUnfit_145 : decode cX1_takeUnfit 145 = .ok (.getfield 9, 3) := by decide +kernel
theorem dX1_takeUnfit_148 : decode cX1_takeUnfit 148 = .ok (.iload 4, 2) := by decide +kernel
theorem dX1_takeUnfit_150 : decode cX1_takeUnfit 150 = .ok (.invokestatic 54, 3) := by decide +kernel
theorem dX1_takeUnfit_153 : decode cX1_takeUnfit 153 = .ok (.invokestatic 74, 3) := by decide +kernel
theorem dX1_takeUnfit_156 : decode cX1_takeUnfit 156 = .ok (.iinc 3 1, 3) := by decide +kernel
theorem dX1_takeUnfit_159 : decode cX1_takeUnfit 159 = .ok (.goto (-111), 3) := by decide +kernel
theorem dX1_takeUnfit_162 : decode cX1_takeUnfit 162 = .ok (.return_, 1) := by decide +kernel
set_option maxRecDepth 20000 in
theorem ggX1_canMake_X3_at : GoodIn wsX1_canMake wsX3_at := goodIn_r _ [3] (by decide +kernel) (by decide +kernel)
set_option maxRecDepth 20000 in
theorem gX1_canMake_X3_at_n54 : GoodIn wsX1_canMake (wsX3_at) := ggX1_canMake_X3_at
set_option maxRecDepth 20000 in
theorem ggX1_canMake_X1_canMake : GoodIn wsX1_canMake wsX1_canMake := goodIn_r _ [0, 1, 2, 3, 4, 5, 6] (by decide +kernel) (by decide +kernel)
set_option maxRecDepth 20000 in
theorem gX1_canMake_X1_canMake : GoodIn wsX1_canMake (va_wsS RX1 118 yX1_canMake wsX1_canMake) := goodIn_app (goodIn_of _ (by decide +kernel)) ggX1_canMake_X1_canMake
theorem dX1_canMake_0 : decode cX1_canMake 0 = .ok (.iload_n 1, 1) := by decide +kernel
theorem dX1_canMake_1 : decode cX1_canMake 1 = .ok (.ifCond .gt 13, 3) := by decide +kernel
theorem dX1_canMake_4 : decode cX1_canMake 4 = .ok (.iload_n 2, 1) := by decide +kernel
theorem dX1_canMake_5 : decode cX1_canMake 5 = .ok (.ifCond .ne 7, 3) := by decide +kernel
theorem dX1_canMake_8 : decode cX1_canMake 8 = .ok (.iconst 1, 1) := by decide +kernel
theorem dX1_canMake_9 : decode cX1_canMake 9 = .ok (.goto 4, 3) := by decide +kernel
theorem dX1_canMake_12 : decode cX1_canMake 12 = .ok (.iconst 0, 1) := by decide +kernel
theorem dX1_canMake_13 : decode cX1_canMake 13 = .ok (.ireturn, 1) := by decide +kernel
theorem dX1_canMake_14 : decode cX1_canMake 14 = .ok (.iload_n 1, 1) := by decide +kernel
theorem dX1_canMake_15 : decode cX1_canMake 15 = .ok (.iconst 4, 1) := by decide +kernel
theorem dX1_canMake_16 : decode cX1_canMake 16 = .ok (.if_icmp .le 5, 3) := by decide +kernel
theorem dX1_canMake_19 : decode cX1_canMake 19 = .ok (.iconst 0, 1) := by decide +kernel
theorem dX1_canMake_20 : decode cX1_canMake 20 = .ok (.ireturn, 1) := by decide +kernel
theorem dX1_canMake_21 : decode cX1_canMake 21 = .ok (.aload_n 0, 1) := by decide +kernel
theorem dX1_canMake_22 : decode cX1_canMake 22 = .ok (.iload_n 1, 1) := by decide +kernel
theorem dX1_canMake_23 : decode cX1_canMake 23 = .ok (.iconst 1, 1) := by decide +kernel
theorem dX1_canMake_24 : decode cX1_canMake 24 = .ok (.isub, 1) := by decide +kernel
theorem dX1_canMake_25 : decode cX1_canMake 25 = .ok (.invokestatic 54, 3) := by decide +kernel
theorem dX1_canMake_28 : decode cX1_canMake 28 = .ok (.iload_n 3, 1) := by decide +kernel
theorem dX1_canMake_29 : decode cX1_canMake 29 = .ok (.iconst (-1), 1) := by decide +kernel
theorem dX1_canMake_30 : decode cX1_canMake 30 = .ok (.ixor, 1) := by decide +kernel
theorem dX1_canMake_31 : decode cX1_canMake 31 = .ok (.iand, 1) := by decide +kernel
theorem dX1_canMake_32 : decode cX1_canMake 32 = .ok (.istore 4, 2) := by decide +kernel
theorem dX1_canMake_34 : decode cX1_canMake 34 = .ok (.iconst 1, 1) := by decide +kernel
theorem dX1_canMake_35 : decode cX1_canMake 35 = .ok (.istore 5, 2) := by decide +kernel
theorem dX1_canMake_37 : decode cX1_canMake 37 = .ok (.iload 5, 2) := by decide +kernel
theorem dX1_canMake_39 : decode cX1_canMake 39 = .ok (.bipush 9, 2) := by decide +kernel
theorem dX1_canMake_41 : decode cX1_canMake 41 = .ok (.if_icmp .gt 49, 3) := by decide +kernel
theorem dX1_canMake_44 : decode cX1_canMake 44 = .ok (.iload 5, 2) := by decide +kernel
theorem dX1_canMake_46 : decode cX1_canMake 46 = .ok (.iload_n 2, 1) := by decide +kernel
theorem dX1_canMake_47 : decode cX1_canMake 47 = .ok (.if_icmp .gt 43, 3) := by decide +kernel
theorem dX1_canMake_50 : decode cX1_canMake 50 = .ok (.iconst 1, 1) := by decide +kernel
theorem dX1_canMake_51 : decode cX1_canMake 51 = .ok (.iload 5, 2) := by decide +kernel
theorem dX1_canMake_53 : decode cX1_canMake 53 = .ok (.ishl, 1) := by decide +kernel
theorem dX1_canMake_54 : decode cX1_canMake 54 = .ok (.istore 6, 2) := by decide +kernel
theorem dX1_canMake_56 : decode cX1_canMake 56 = .ok (.iload 4, 2) := by decide +kernel
theorem dX1_canMake_58 : decode cX1_canMake 58 = .ok (.iload 6, 2) := by decide +kernel
theorem dX1_canMake_60 : decode cX1_canMake 60 = .ok (.iand, 1) := by decide +kernel
theorem dX1_canMake_61 : decode cX1_canMake 61 = .ok (.ifCond .eq 23, 3) := by decide +kernel
theorem dX1_canMake_64 : decode cX1_canMake 64 = .ok (.aload_n 0, 1) := by decide +kernel
theorem dX1_canMake_65 : decode cX1_canMake 65 = .ok (.iload_n 1, 1) := by decide +kernel
theorem dX1_canMake_66 : decode cX1_canMake 66 = .ok (.iconst 1, 1) := by decide +kernel
theorem dX1_canMake_67 : decode cX1_canMake 67 = .ok (.isub, 1) := by decide +kernel
theorem dX1_canMake_68 : decode cX1_canMake 68 = .ok (.iload_n 2, 1) := by decide +kernel
theorem dX1_canMake_69 : decode cX1_canMake 69 = .ok (.iload 5, 2) := by decide +kernel
theorem dX1_canMake_71 : decode cX1_canMake 71 = .ok (.isub, 1) := by decide +kernel
theorem dX1_canMake_72 : decode cX1_canMake 72 = .ok (.iload_n 3, 1) := by decide +kernel
theorem dX1_canMake_73 : decode cX1_canMake 73 = .ok (.iload 6, 2) := by decide +kernel
theorem dX1_canMake_75 : decode cX1_canMake 75 = .ok (.ior, 1) := by decide +kernel
theorem dX1_canMake_76 : decode cX1_canMake 76 = .ok (.invokestatic 118, 3) := by decide +kernel
theorem dX1_canMake_79 : decode cX1_canMake 79 = .ok (.ifCond .eq 5, 3) := by decide +kernel
theorem dX1_canMake_82 : decode cX1_canMake 82 = .ok (.iconst 1, 1) := by decide +kernel
theorem dX1_canMake_83 : decode cX1_canMake 83 = .ok (.ireturn, 1) := by decide +kernel
theorem dX1_canMake_84 : decode cX1_canMake 84 = .ok (.iinc 5 1, 3) := by decide +kernel
theorem dX1_canMake_87 : decode cX1_canMake 87 = .ok (.goto (-50), 3) := by decide +kernel
theorem dX1_canMake_90 : decode cX1_canMake 90 = .ok (.iconst 0, 1) := by decide +kernel
theorem dX1_canMake_91 : decode cX1_canMake 91 = .ok (.ireturn, 1) := by decide +kernel
set_option maxRecDepth 20000 in
theorem ggX1_take_X3_at : GoodIn wsX1_take wsX3_at := goodIn_r _ [5] (by decide +kernel) (by decide +kernel)
set_option maxRecDepth 20000 in
theorem gX1_take_X3_at_n54 : GoodIn wsX1_take (wsX3_at) := ggX1_take_X3_at
set_option maxRecDepth 20000 in
theorem ggX1_take_X3_put : GoodIn wsX1_take wsX3_put := goodIn_r _ [7] (by decide +kernel) (by decide +kernel)
set_option maxRecDepth 20000 in
theorem gX1_take_X3_put_n74 : GoodIn wsX1_take (wsX3_put) := ggX1_take_X3_put
theorem dX1_take_0 : decode cX1_take 0 = .ok (.aload_n 0, 1) := by decide +kernel
theorem dX1_take_1 : decode cX1_take 1 = .ok (.getfield 9, 3) := by decide +kernel
theorem dX1_take_4 : decode cX1_take 4 = .ok (.iload_n 1, 1) := by decide +kernel
theorem dX1_take_5 : decode cX1_take 5 = .ok (.invokestatic 54, 3) := by decide +kernel
theorem dX1_take_8 : decode cX1_take 8 = .ok (.istore_n 3, 1) := by decide +kernel
theorem dX1_take_9 : decode cX1_take 9 = .ok (.iload_n 3, 1) := by decide +kernel
theorem dX1_take_10 : decode cX1_take 10 = .ok (.iload_n 2, 1) := by decide +kernel
theorem dX1_take_11 : decode cX1_take 11 = .ok (.iand, 1) := by decide +kernel
theorem dX1_take_12 : decode cX1_take 12 = .ok (.ifCond .eq 21, 3) := by decide +kernel
theorem dX1_take_15 : decode cX1_take 15 = .ok (.aload_n 0, 1) := by decide +kernel
theorem dX1_take_16 : decode cX1_take 16 = .ok (.getfield 9, 3) := by decide +kernel
theorem dX1_take_19 : decode cX1_take 19 = .ok (.iload_n 1, 1) := by decide +kernel
theorem dX1_take_20 : decode cX1_take 20 = .ok (.iload_n 3, 1) := by decide +kernel
theorem dX1_take_21 : decode cX1_take 21 = .ok (.iload_n 2, 1) := by decide +kernel
theorem dX1_take_22 : decode cX1_take 22 = .ok (.iconst (-1), 1) := by decide +kernel
theorem dX1_take_23 : decode cX1_take 23 = .ok (.ixor, 1) := by decide +kernel
theorem dX1_take_24 : decode cX1_take 24 = .ok (.iand, 1) := by decide +kernel
theorem dX1_take_25 : decode cX1_take 25 = .ok (.invokestatic 74, 3) := by decide +kernel
theorem dX1_take_28 : decode cX1_take 28 = .ok (.aload_n 0, 1) := by decide +kernel
theorem dX1_take_29 : decode cX1_take 29 = .ok (.iconst 1, 1) := by decide +kernel
theorem dX1_take_30 : decode cX1_take 30 = .ok (.putfield 29, 3) := by decide +kernel
theorem dX1_take_33 : decode cX1_take 33 = .ok (.return_, 1) := by decide +kernel
set_option maxRecDepth 20000 in
theorem ggX1_isSingle_J6_bitCount_0f7a4 : GoodIn wsX1_isSingle wsJ6_bitCount_0f7a4 := goodIn_r _ [4, 5, 6, 7] (by decide +kernel) (by decide +kernel)
set_option maxRecDepth 20000 in
theorem gX1_isSingle_J6_bitCount_0f7a4 : GoodIn wsX1_isSingle (va_wsS RX1 110 yJ6_bitCount_0f7a4 wsJ6_bitCount_0f7a4) := goodIn_app (goodIn_of _ (by decide +kernel)) ggX1_isSingle_J6_bitCount_0f7a4
theorem dX1_isSingle_0 : decode cX1_isSingle 0 = .ok (.iload_n 0, 1) := by decide +kernel
theorem dX1_isSingle_1 : decode cX1_isSingle 1 = .ok (.invokestatic 110, 3) := by decide +kernel
theorem dX1_isSingle_4 : decode cX1_isSingle 4 = .ok (.iconst 1, 1) := by decide +kernel
theorem dX1_isSingle_5 : decode cX1_isSingle 5 = .ok (.if_icmp .ne 7, 3) := by decide +kernel
theorem dX1_isSingle_8 : decode cX1_isSingle 8 = .ok (.iconst 1, 1) := by decide +kernel
theorem dX1_isSingle_9 : decode cX1_isSingle 9 = .ok (.goto 4, 3) := by decide +kernel
theorem dX1_isSingle_12 : decode cX1_isSingle 12 = .ok (.iconst 0, 1) := by decide +kernel
theorem dX1_isSingle_13 : decode cX1_isSingle 13 = .ok (.ireturn, 1) := by decide +kernel
theorem dX2_init_0 : decode cX2_init 0 = .ok (.aload_n 0, 1) := by decide +kernel
theorem dX2_init_1 : decode cX2_init 1 = .ok (.invokespecial 3, 3) := by decide +kernel
theorem dX2_init_4 : decode cX2_init 4 = .ok (.aload_n 0, 1) := by decide +kernel
theorem dX2_init_5 : decode cX2_init 5 = .ok (.bipush 16, 2) := by decide +kernel
theorem dX2_init_7 : decode cX2_init 7 = .ok (.newarray .int, 2) := by decide +kernel
theorem dX2_init_9 : decode cX2_init 9 = .ok (.putfield 9, 3) := by decide +kernel
theorem dX2_init_12 : decode cX2_init 12 = .ok (.aload_n 0, 1) := by decide +kernel
theorem dX2_init_13 : decode cX2_init 13 = .ok (.bipush 16, 2) := by decide +kernel
theorem dX2_init_15 : decode cX2_init 15 = .ok (.newarray .int, 2) := by decide +kernel
theorem dX2_init_17 : decode cX2_init 17 = .ok (.putfield 15, 3) := by decide +kernel
theorem dX2_init_20 : decode cX2_init 20 = .ok (.aload_n 0, 1) := by decide +kernel
theorem dX2_init_21 : decode cX2_init 21 = .ok (.bipush 16, 2) := by decide +kernel
theorem dX2_init_23 : decode cX2_init 23 = .ok (.newarray .int, 2) := by decide +kernel
theorem dX2_init_25 : decode cX2_init 25 = .ok (.putfield 18, 3) := by decide +kernel
theorem dX2_init_28 : decode cX2_init 28 = .ok (.aload_n 0, 1) := by decide +kernel
theorem dX2_init_29 : decode cX2_init 29 = .ok (.bipush 16, 2) := by decide +kernel
theorem dX2_init_31 : decode cX2_init 31 = .ok (.newarray .int, 2) := by decide +kernel
theorem dX2_init_33 : decode cX2_init 33 = .ok (.putfield 21, 3) := by decide +kernel
theorem dX2_init_36 : decode cX2_init 36 = .ok (.aload_n 0, 1) := by decide +kernel
theorem dX2_init_37 : decode cX2_init 37 = .ok (.aload_n 1, 1) := by decide +kernel
theorem dX2_init_38 : decode cX2_init 38 = .ok (.putfield 24, 3) := by decide +kernel
theorem dX2_init_41 : decode cX2_init 41 = .ok (.return_, 1) := by decide +kernel
set_option maxRecDepth 20000 in
theorem ggX2_find_X2_start : GoodIn wsX2_find wsX2_start := goodIn_r _ [9, 1, 10, 3, 2, 4, 11, 12, 13, 14, 15, 16, 17, 18, 19, 20, 21, 22, 23, 24, 25, 26, 27, 28, 29, 30, 31, 32, 33, 34, 94, 95, 96, 97, 98, 99, 100, 101, 102, 103, 104, 105, 106, 107, 108] (by decide +kernel) (by decide +kernel)
set_option maxRecDepth 20000 in
theorem gX2_find_X2_start : GoodIn wsX2_find (wsV RX2 28 RX2 yX2_start wsX2_start) := goodIn_app (goodIn_of _ (by decide +kernel)) ggX2_find_X2_start
set_option maxRecDepth 20000 in
theorem ggX2_find_X0_isAnswer : GoodIn wsX2_find wsX0_isAnswer := goodIn_r _ [38, 39, 40, 41, 42, 17, 43, 44, 25, 12, 26, 45, 46, 47, 48, 49, 50, 51, 52, 53, 54, 55, 56, 57, 58, 59, 60, 61, 62, 63, 100, 101, 102, 103, 104, 105, 106, 107, 108] (by decide +kernel) (by decide +kernel)
set_option maxRecDepth 20000 in
theorem gX2_find_X0_isAnswer : GoodIn wsX2_find (wsV RX2 35 RX0 yX0_isAnswer wsX0_isAnswer) := goodIn_app (goodIn_of _ (by decide +kernel)) ggX2_find_X0_isAnswer
set_option maxRecDepth 20000 in
theorem ggX2_find_X3_at : GoodIn wsX2_find wsX3_at := goodIn_r _ [26] (by decide +kernel) (by decide +kernel)
set_option maxRecDepth 20000 in
theorem gX2_find_X3_at_n41 : GoodIn wsX2_find (wsX3_at) := ggX2_find_X3_at
set_option maxRecDepth 20000 in
theorem ggX2_find_X2_tryNext : GoodIn wsX2_find wsX2_tryNext := goodIn_r _ [67, 10, 3, 2, 25, 12, 26, 11, 13, 68, 69, 70, 17, 71, 72, 73, 74, 75, 8, 76, 77, 50, 51, 52, 53, 78, 55, 56, 57, 58, 59, 79, 41, 42, 43, 44, 80, 81, 82, 83, 84, 94, 95, 96, 97, 98, 99, 100, 101, 102, 103, 104, 105, 106, 107, 108] (by decide +kernel) (by decide +kernel)
set_option maxRecDepth 20000 in
theorem gX2_find_X2_tryNext : GoodIn wsX2_find (wsV RX2 45 RX2 yX2_tryNext wsX2_tryNext) := goodIn_app (goodIn_of _ (by decide +kernel)) ggX2_find_X2_tryNext
set_option maxRecDepth 20000 in
theorem ggX2_find_X2_keepFirstAnswer : GoodIn wsX2_find wsX2_keepFirstAnswer := goodIn_r _ [88, 89, 3, 25, 12, 26, 11, 13, 94, 95, 96, 97, 98, 99] (by decide +kernel) (by decide +kernel)
set_option maxRecDepth 20000 in
theorem gX2_find_X2_keepFirstAnswer : GoodIn wsX2_find (wsV RX2 49 RX2 yX2_keepFirstAnswer wsX2_keepFirstAnswer) := goodIn_app (goodIn_of _ (by decide +kernel)) ggX2_find_X2_keepFirstAnswer
set_option maxRecDepth 20000 in
theorem ggX2_find_X2_backFrom : GoodIn wsX2_find wsX2_backFrom := goodIn_r _ [93, 10, 4, 3, 25, 12, 26, 11, 13, 94, 95, 96, 97, 98, 99] (by decide +kernel) (by decide +kernel)
set_option maxRecDepth 20000 in
theorem gX2_find_X2_backFrom : GoodIn wsX2_find (wsV RX2 52 RX2 yX2_backFrom wsX2_backFrom) := goodIn_app (goodIn_of _ (by decide +kernel)) ggX2_find_X2_backFrom
theorem dX2_find_0 : decode cX2_find 0 = .ok (.aload_n 0, 1) := by decide +kernel
theorem dX2_find_1 : decode cX2_find 1 = .ok (.invokevirtual 28, 3) := by decide +kernel
theorem dX2_find_4 : decode cX2_find 4 = .ok (.aload_n 0, 1) := by decide +kernel
theorem dX2_find_5 : decode cX2_find 5 = .ok (.getfield 31, 3) := by decide +kernel
theorem dX2_find_8 : decode cX2_find 8 = .ok (.ifCond .ne 23, 3) := by decide +kernel
theorem dX2_find_11 : decode cX2_find 11 = .ok (.aload_n 0, 1) := by decide +kernel
theorem dX2_find_12 : decode cX2_find 12 = .ok (.getfield 24, 3) := by decide +kernel
theorem dX2_find_15 : decode cX2_find 15 = .ok (.aload_n 0, 1) := by decide +kernel
theorem dX2_find_16 : decode cX2_find 16 = .ok (.getfield 18, 3) := by decide +kernel
theorem dX2_find_19 : decode cX2_find 19 = .ok (.invokevirtual 35, 3) := by decide +kernel
theorem dX2_find_22 : decode cX2_find 22 = .ok (.ifCond .eq 7, 3) := by decide +kernel
theorem dX2_find_25 : decode cX2_find 25 = .ok (.iconst 1, 1) := by decide +kernel
theorem dX2_find_26 : decode cX2_find 26 = .ok (.goto 4, 3) := by decide +kernel
theorem dX2_find_29 : decode cX2_find 29 = .ok (.iconst 0, 1) := by decide +kernel
theorem dX2_find_30 : decode cX2_find 30 = .ok (.ireturn, 1) := by decide +kernel
theorem dX2_find_31 : decode cX2_find 31 = .ok (.iconst 0, 1) := by decide +kernel
theorem dX2_find_32 : decode cX2_find 32 = .ok (.istore_n 2, 1) := by decide +kernel
theorem dX2_find_33 : decode cX2_find 33 = .ok (.iconst 0, 1) := by decide +kernel
theorem dX2_find_34 : decode cX2_find 34 = .ok (.istore_n 3, 1) := by decide +kernel
theorem dX2_find_35 : decode cX2_find 35 = .ok (.iconst 0, 1) := by decide +kernel
theorem dX2_find_36 : decode cX2_find 36 = .ok (.istore 4, 2) := by decide +kernel
theorem dX2_find_38 : decode cX2_find 38 = .ok (.iload 4, 2) := by decide +kernel
theorem dX2_find_40 : decode cX2_find 40 = .ok (.sipush 20000, 3) := by decide +kernel
theorem dX2_find_43 : decode cX2_find 43 = .ok (.if_icmp .ge 94, 3) := by decide +kernel
theorem dX2_find_46 : decode cX2_find 46 = .ok (.aload_n 0, 1) := by decide +kernel
theorem dX2_find_47 : decode cX2_find 47 = .ok (.aload_n 0, 1) := by decide +kernel
theorem dX2_find_48 : decode cX2_find 48 = .ok (.getfield 9, 3) := by decide +kernel
theorem dX2_find_51 : decode cX2_find 51 = .ok (.iload_n 3, 1) := by decide +kernel
theorem dX2_find_52 : decode cX2_find 52 = .ok (.invokestatic 41, 3) := by decide +kernel
theorem dX2_find_55 : decode cX2_find 55 = .ok (.invokevirtual 45, 3) := by decide +kernel
theorem dX2_find_58 : decode cX2_find 58 = .ok (.istore 5, 2) := by decide +kernel
theorem dX2_find_60 : decode cX2_find 60 = .ok (.iload 5, 2) := by decide +kernel
theorem dX2_find_62 : decode cX2_find 62 = .ok (.ifCond .eq 19, 3) := by decide +kernel
theorem dX2_find_65 : decode cX2_find 65 = .ok (.iload_n 3, 1) := by decide +kernel
theorem dX2_find_66 : decode cX2_find 66 = .ok (.iconst 1, 1) := by decide +kernel
theorem dX2_find_67 : decode cX2_find 67 = .ok (.iadd, 1) := by decide +kernel
theorem dX2_find_68 : decode cX2_find 68 = .ok (.aload_n 0, 1) := by decide +kernel
theorem dX2_find_69 : decode cX2_find 69 = .ok (.getfield 31, 3) := by decide +kernel
theorem dX2_find_72 : decode cX2_find 72 = .ok (.if_icmp .ge 9, 3) := by decide +kernel
theorem dX2_find_75 : decode cX2_find 75 = .ok (.iinc 3 1, 3) := by decide +kernel
theorem dX2_find_78 : decode cX2_find 78 = .ok (.goto 41, 3) := by decide +kernel
theorem dX2_find_81 : decode cX2_find 81 = .ok (.iload 5, 2) := by decide +kernel
theorem dX2_find_83 : decode cX2_find 83 = .ok (.ifCond .eq 36, 3) := by decide +kernel
theorem dX2_find_86 : decode cX2_find 86 = .ok (.aload_n 0, 1) := by decide +kernel
theorem dX2_find_87 : decode cX2_find 87 = .ok (.getfield 24, 3) := by decide +kernel
theorem dX2_find_90 : decode cX2_find 90 = .ok (.aload_n 0, 1) := by decide +kernel
theorem dX2_find_91 : decode cX2_find 91 = .ok (.getfield 18, 3) := by decide +kernel
theorem dX2_find_94 : decode cX2_find 94 = .ok (.invokevirtual 35, 3) := by decide +kernel
theorem dX2_find_97 : decode cX2_find 97 = .ok (.ifCond .eq 22, 3) := by decide +kernel
theorem dX2_find_100 : decode cX2_find 100 = .ok (.iinc 2 1, 3) := by decide +kernel
theorem dX2_find_103 : decode cX2_find 103 = .ok (.iload_n 2, 1) := by decide +kernel
theorem dX2_find_104 : decode cX2_find 104 = .ok (.iconst 1, 1) := by decide +kernel
theorem dX2_find_105 : decode cX2_find 105 = .ok (.if_icmp .ne 7, 3) := by decide +kernel
theorem dX2_find_108 : decode cX2_find 108 = .ok (.aload_n 0, 1) := by decide +kernel
theorem dX2_find_109 : decode cX2_find 109 = .ok (.invokevirtual 49, 3) := by decide +kernel
theorem dX2_find_112 : decode cX2_find 112 = .ok (.iload_n 2, 1) := by decide +kernel
theorem dX2_find_113 : decode cX2_find 113 = .ok (.iload_n 1, 1) := by decide +kernel
theorem dX2_find_114 : decode cX2_find 114 = .ok (.if_icmp .lt 5, 3) := by decide +kernel
theorem dX2_find_117 : decode cX2_find 117 = .ok (.iload_n 2, 1) := by decide +kernel
theorem dX2_find_118 : decode cX2_find 118 = .ok (.ireturn, 1) := by decide +kernel
theorem dX2_find_119 : decode cX2_find 119 = .ok (.aload_n 0, 1) := by decide +kernel
theorem dX2_find_120 : decode cX2_find 120 = .ok (.iload_n 3, 1) := by decide +kernel
theorem dX2_find_121 : decode cX2_find 121 = .ok (.invokevirtual 52, 3) := by decide +kernel
theorem dX2_find_124 : decode cX2_find 124 = .ok (.istore_n 3, 1) := by decide +kernel
theorem dX2_find_125 : decode cX2_find 125 = .ok (.iload_n 3, 1) := by decide +kernel
theorem dX2_find_126 : decode cX2_find 126 = .ok (.ifCond .ge 5, 3) := by decide +kernel
theorem dX2_find_129 : decode cX2_find 129 = .ok (.iload_n 2, 1) := by decide +kernel
theorem dX2_find_130 : decode cX2_find 130 = .ok (.ireturn, 1) := by decide +kernel
theorem dX2_find_131 : decode cX2_find 131 = .ok (.iinc 4 1, 3) := by decide +kernel
theorem dX2_find_134 : decode cX2_find 134 = .ok (.goto (-96), 3) := by decide +kernel
theorem dX2_find_137 : decode cX2_find 137 = .ok (.iconst (-1), 1) := by decide +kernel
theorem dX2_find_138 : decode cX2_find 138 = .ok (.ireturn, 1) := by decide +kernel
set_option maxRecDepth 20000 in
theorem ggX2_countByAll_X2_start : GoodIn wsX2_countByAll wsX2_start := goodIn_r _ [8, 1, 9, 3, 2, 10, 11, 12, 13, 14, 15, 16, 17, 18, 19, 20, 21, 22, 23, 24, 25, 26, 27, 28, 29, 30, 31, 32, 33, 34, 68, 69, 70, 71, 72, 73, 74, 75, 76, 77, 78, 79, 80, 81, 82] (by decide +kernel) (by decide +kernel)
set_option maxRecDepth 20000 in
theorem gX2_countByAll_X2_start : GoodIn wsX2_countByAll (wsV RX2 28 RX2 yX2_start wsX2_start) := goodIn_app (goodIn_of _ (by decide +kernel)) ggX2_countByAll_X2_start
set_option maxRecDepth 20000 in
theorem ggX2_countByAll_X2_fillBy : GoodIn wsX2_countByAll wsX2_fillBy := goodIn_r _ [38, 1, 3, 10, 25, 12, 26, 11, 13, 68, 69, 70, 71, 72, 73] (by decide +kernel) (by decide +kernel)
set_option maxRecDepth 20000 in
theorem gX2_countByAll_X2_fillBy : GoodIn wsX2_countByAll (wsV RX2 56 RX2 yX2_fillBy wsX2_fillBy) := goodIn_app (goodIn_of _ (by decide +kernel)) ggX2_countByAll_X2_fillBy
set_option maxRecDepth 20000 in
theorem ggX2_countByAll_X0_isAnswer : GoodIn wsX2_countByAll wsX0_isAnswer := goodIn_r _ [42, 43, 44, 45, 46, 17, 47, 48, 25, 12, 26, 49, 50, 51, 52, 53, 54, 55, 56, 57, 58, 59, 60, 61, 62, 63, 64, 65, 66, 67, 74, 75, 76, 77, 78, 79, 80, 81, 82] (by decide +kernel) (by decide +kernel)
set_option maxRecDepth 20000 in
theorem gX2_countByAll_X0_isAnswer : GoodIn wsX2_countByAll (wsV RX2 35 RX0 yX0_isAnswer wsX0_isAnswer) := goodIn_app (goodIn_of _ (by decide +kernel)) ggX2_countByAll_X0_isAnswer
theorem dX2_countByAll_0 : decode cX2_countByAll 0 = .ok (.aload_n 0, 1) := by decide +kernel
theorem dX2_countByAll_1 : decode cX2_countByAll 1 = .ok (.invokevirtual 28, 3) := by decide +kernel
theorem dX2_countByAll_4 : decode cX2_countByAll 4 = .ok (.iconst 1, 1) := by decide +kernel
theorem dX2_countByAll_5 : decode cX2_countByAll 5 = .ok (.istore_n 1, 1) := by decide +kernel
theorem dX2_countByAll_6 : decode cX2_countByAll 6 = .ok (.iconst 0, 1) := by decide +kernel
theorem dX2_countByAll_7 : decode cX2_countByAll 7 = .ok (.istore_n 2, 1) := by decide +kernel
theorem dX2_countByAll_8 : decode cX2_countByAll 8 = .ok (.iload_n 2, 1) := by decide +kernel
theorem dX2_countByAll_9 : decode cX2_countByAll 9 = .ok (.aload_n 0, 1) := by decide +kernel
theorem dX2_countByAll_10 : decode cX2_countByAll 10 = .ok (.getfield 31, 3) := by decide +kernel
theorem dX2_countByAll_13 : decode cX2_countByAll 13 = .ok (.if_icmp .ge 14, 3) := by decide +kernel
theorem dX2_countByAll_16 : decode cX2_countByAll 16 = .ok (.iload_n 1, 1) := by decide +kernel
theorem dX2_countByAll_17 : decode cX2_countByAll 17 = .ok (.bipush 9, 2) := by decide +kernel
theorem dX2_countByAll_19 : decode cX2_countByAll 19 = .ok (.imul, 1) := by decide +kernel
theorem dX2_countByAll_20 : decode cX2_countByAll 20 = .ok (.istore_n 1, 1) := by decide +kernel
theorem dX2_countByAll_21 : decode cX2_countByAll 21 = .ok (.iinc 2 1, 3) := by decide +kernel
theorem dX2_countByAll_24 : decode cX2_countByAll 24 = .ok (.goto (-16), 3) := by decide +kernel
theorem dX2_countByAll_27 : decode cX2_countByAll 27 = .ok (.iconst 0, 1) := by decide +kernel
theorem dX2_countByAll_28 : decode cX2_countByAll 28 = .ok (.istore_n 2, 1) := by decide +kernel
theorem dX2_countByAll_29 : decode cX2_countByAll 29 = .ok (.iconst 0, 1) := by decide +kernel
theorem dX2_countByAll_30 : decode cX2_countByAll 30 = .ok (.istore_n 3, 1) := by decide +kernel
theorem dX2_countByAll_31 : decode cX2_countByAll 31 = .ok (.iload_n 3, 1) := by decide +kernel
theorem dX2_countByAll_32 : decode cX2_countByAll 32 = .ok (.iload_n 1, 1) := by decide +kernel
theorem dX2_countByAll_33 : decode cX2_countByAll 33 = .ok (.if_icmp .ge 31, 3) := by decide +kernel
theorem dX2_countByAll_36 : decode cX2_countByAll 36 = .ok (.aload_n 0, 1) := by decide +kernel
theorem dX2_countByAll_37 : decode cX2_countByAll 37 = .ok (.iload_n 3, 1) := by decide +kernel
theorem dX2_countByAll_38 : decode cX2_countByAll 38 = .ok (.invokevirtual 56, 3) := by decide +kernel
theorem dX2_countByAll_41 : decode cX2_countByAll 41 = .ok (.aload_n 0, 1) := by decide +kernel
theorem dX2_countByAll_42 : decode cX2_countByAll 42 = .ok (.getfield 24, 3) := by decide +kernel
theorem dX2_countByAll_45 : decode cX2_countByAll 45 = .ok (.aload_n 0, 1) := by decide +kernel
theorem dX2_countByAll_46 : decode cX2_countByAll 46 = .ok (.getfield 18, 3) := by decide +kernel
theorem dX2_countByAll_49 : decode cX2_countByAll 49 = .ok (.invokevirtual 35, 3) := by decide +kernel
theorem dX2_countByAll_52 : decode cX2_countByAll 52 = .ok (.ifCond .eq 6, 3) := by decide +kernel
theorem dX2_countByAll_55 : decode cX2_countByAll 55 = .ok (.iinc 2 1, 3) := by decide +kernel
theorem dX2_countByAll_58 : decode cX2_countByAll 58 = .ok (.iinc 3 1, 3) := by decide +kernel
theorem dX2_countByAll_61 : decode cX2_countByAll 61 = .ok (.goto (-30), 3) := by decide +kernel
theorem dX2_countByAll_64 : decode cX2_countByAll 64 = .ok (.iload_n 2, 1) := by decide +kernel
theorem dX2_countByAll_65 : decode cX2_countByAll 65 = .ok (.ireturn, 1) := by decide +kernel
set_option maxRecDepth 20000 in
theorem ggX2_firstUnlike_X3_at : GoodIn wsX2_firstUnlike wsX3_at := goodIn_r _ [5] (by decide +kernel) (by decide +kernel)
set_option maxRecDepth 20000 in
theorem gX2_firstUnlike_X3_at_n41 : GoodIn wsX2_firstUnlike (wsX3_at) := ggX2_firstUnlike_X3_at
theorem dX2_firstUnlike_0 : decode cX2_firstUnlike 0 = .ok (.iconst 0, 1) := by decide +kernel
theorem dX2_firstUnlike_1 : decode cX2_firstUnlike 1 = .ok (.istore_n 1, 1) := by decide +kernel
theorem dX2_firstUnlike_2 : decode cX2_firstUnlike 2 = .ok (.iload_n 1, 1) := by decide +kernel
theorem dX2_firstUnlike_3 : decode cX2_firstUnlike 3 = .ok (.bipush 16, 2) := by decide +kernel
theorem dX2_firstUnlike_5 : decode cX2_firstUnlike 5 = .ok (.if_icmp .ge 30, 3) := by decide +kernel
theorem dX2_firstUnlike_8 : decode cX2_firstUnlike 8 = .ok (.aload_n 0, 1) := by decide +kernel
theorem dX2_firstUnlike_9 : decode cX2_firstUnlike 9 = .ok (.getfield 21, 3) := by decide +kernel
theorem dX2_firstUnlike_12 : decode cX2_firstUnlike 12 = .ok (.iload_n 1, 1) := by decide +kernel
theorem dX2_firstUnlike_13 : decode cX2_firstUnlike 13 = .ok (.invokestatic 41, 3) := by decide +kernel
theorem dX2_firstUnlike_16 : decode cX2_firstUnlike 16 = .ok (.aload_n 0, 1) := by decide +kernel
theorem dX2_firstUnlike_17 : decode cX2_firstUnlike 17 = .ok (.getfield 18, 3) := by decide +kernel
theorem dX2_firstUnlike_20 : decode cX2_firstUnlike 20 = .ok (.iload_n 1, 1) := by decide +kernel
theorem dX2_firstUnlike_21 : decode cX2_firstUnlike 21 = .ok (.invokestatic 41, 3) := by decide +kernel
theorem dX2_firstUnlike_24 : decode cX2_firstUnlike 24 = .ok (.if_icmp .eq 5, 3) := by decide +kernel
theorem dX2_firstUnlike_27 : decode cX2_firstUnlike 27 = .ok (.iload_n 1, 1) := by decide +kernel
theorem dX2_firstUnlike_28 : decode cX2_firstUnlike 28 = .ok (.ireturn, 1) := by decide +kernel
theorem dX2_firstUnlike_29 : decode cX2_firstUnlike 29 = .ok (.iinc 1 1, 3) := by decide +kernel
theorem dX2_firstUnlike_32 : decode cX2_firstUnlike 32 = .ok (.goto (-30), 3) := by decide +kernel
theorem dX2_firstUnlike_35 : decode cX2_firstUnlike 35 = .ok (.iconst (-1), 1) := by decide +kernel
theorem dX2_firstUnlike_36 : decode cX2_firstUnlike 36 = .ok (.ireturn, 1) := by decide +kernel
set_option maxRecDepth 20000 in
theorem ggX2_firstAnswerAt_X3_at : GoodIn wsX2_firstAnswerAt wsX3_at := goodIn_r _ [4] (by decide +kernel) (by decide +kernel)
set_option maxRecDepth 20000 in
theorem gX2_firstAnswerAt_X3_at_n41 : GoodIn wsX2_firstAnswerAt (wsX3_at) := ggX2_firstAnswerAt_X3_at
theorem dX2_firstAnswerAt_0 : decode cX2_firstAnswerAt 0 = .ok (.aload_n 0, 1) := by decide +kernel
theorem dX2_firstAnswerAt_1 : decode cX2_firstAnswerAt 1 = .ok (.getfield 21, 3) := by decide +kernel
theorem dX2_firstAnswerAt_4 : decode cX2_firstAnswerAt 4 = .ok (.iload_n 1, 1) := by decide +kernel
theorem dX2_firstAnswerAt_5 : decode cX2_firstAnswerAt 5 = .ok (.invokestatic 41, 3) := by decide +kernel
theorem dX2_firstAnswerAt_8 : decode cX2_firstAnswerAt 8 = .ok (.ireturn, 1) := by decide +kernel
set_option maxRecDepth 20000 in
theorem ggX2_start_X3_put : GoodIn wsX2_start wsX3_put := goodIn_r _ [8] (by decide +kernel) (by decide +kernel)
set_option maxRecDepth 20000 in
theorem gX2_start_X3_put_n60 : GoodIn wsX2_start (wsX3_put) := ggX2_start_X3_put
set_option maxRecDepth 20000 in
theorem ggX2_start_X0_isOpen : GoodIn wsX2_start wsX0_isOpen := goodIn_r _ [13, 14, 15, 16, 17, 12, 18, 19, 20, 7, 21, 36, 37, 38, 39, 40, 41, 42, 43, 44] (by decide +kernel) (by decide +kernel)
set_option maxRecDepth 20000 in
theorem gX2_start_X0_isOpen : GoodIn wsX2_start (wsV RX2 64 RX0 yX0_isOpen wsX0_isOpen) := goodIn_app (goodIn_of _ (by decide +kernel)) ggX2_start_X0_isOpen
set_option maxRecDepth 20000 in
theorem ggX2_start_X0_givenAt : GoodIn wsX2_start wsX0_givenAt := goodIn_r _ [25, 14, 20, 7, 21, 36, 37, 38, 39, 40, 41, 42, 43, 44] (by decide +kernel) (by decide +kernel)
set_option maxRecDepth 20000 in
theorem gX2_start_X0_givenAt : GoodIn wsX2_start (wsV RX2 67 RX0 yX0_givenAt wsX0_givenAt) := goodIn_app (goodIn_of _ (by decide +kernel)) ggX2_start_X0_givenAt
set_option maxRecDepth 20000 in
theorem ggX2_start_X0_isBlank : GoodIn wsX2_start wsX0_isBlank := goodIn_r _ [29, 14, 15, 16, 17, 12, 18, 19, 20, 7, 21, 36, 37, 38, 39, 40, 41, 42, 43, 44] (by decide +kernel) (by decide +kernel)
set_option maxRecDepth 20000 in
theorem gX2_start_X0_isBlank : GoodIn wsX2_start (wsV RX2 70 RX0 yX0_isBlank wsX0_isBlank) := goodIn_app (goodIn_of _ (by decide +kernel)) ggX2_start_X0_isBlank
theorem dX2_start_0 : decode cX2_start 0 = .ok (.aload_n 0, 1) := by decide +kernel
theorem dX2_start_1 : decode cX2_start 1 = .ok (.iconst 0, 1) := by decide +kernel
theorem dX2_start_2 : decode cX2_start 2 = .ok (.putfield 31, 3) := by decide +kernel
theorem dX2_start_5 : decode cX2_start 5 = .ok (.iconst 0, 1) := by decide +kernel
theorem dX2_start_6 : decode cX2_start 6 = .ok (.istore_n 1, 1) := by decide +kernel
theorem dX2_start_7 : decode cX2_start 7 = .ok (.iload_n 1, 1) := by decide +kernel
theorem dX2_start_8 : decode cX2_start 8 = .ok (.bipush 16, 2) := by decide +kernel
theorem dX2_start_10 : decode cX2_start 10 = .ok (.if_icmp .ge 82, 3) := by decide +kernel
theorem dX2_start_13 : decode cX2_start 13 = .ok (.aload_n 0, 1) := by decide +kernel
theorem dX2_start_14 : decode cX2_start 14 = .ok (.getfield 15, 3) := by decide +kernel
theorem dX2_start_17 : decode cX2_start 17 = .ok (.iload_n 1, 1) := by decide +kernel
theorem dX2_start_18 : decode cX2_start 18 = .ok (.iconst 0, 1) := by decide +kernel
theorem dX2_start_19 : decode cX2_start 19 = .ok (.invokestatic 60, 3) := by decide +kernel
theorem dX2_start_22 : decode cX2_start 22 = .ok (.aload_n 0, 1) := by decide +kernel
theorem dX2_start_23 : decode cX2_start 23 = .ok (.getfield 18, 3) := by decide +kernel
theorem dX2_start_26 : decode cX2_start 26 = .ok (.iload_n 1, 1) := by decide +kernel
theorem dX2_start_27 : decode cX2_start 27 = .ok (.aload_n 0, 1) := by decide +kernel
theorem dX2_start_28 : decode cX2_start 28 = .ok (.getfield 24, 3) := by decide +kernel
theorem dX2_start_31 : decode cX2_start 31 = .ok (.iload_n 1, 1) := by decide +kernel
theorem dX2_start_32 : decode cX2_start 32 = .ok (.invokevirtual 64, 3) := by decide +kernel
theorem dX2_start_35 : decode cX2_start 35 = .ok (.ifCond .eq 14, 3) := by decide +kernel
theorem dX2_start_38 : decode cX2_start 38 = .ok (.aload_n 0, 1) := by decide +kernel
theorem dX2_start_39 : decode cX2_start 39 = .ok (.getfield 24, 3) := by decide +kernel
theorem dX2_start_42 : decode cX2_start 42 = .ok (.iload_n 1, 1) := by decide +kernel
theorem dX2_start_43 : decode cX2_start 43 = .ok (.invokevirtual 67, 3) := by decide +kernel
theorem dX2_start_46 : decode cX2_start 46 = .ok (.goto 4, 3) := by decide +kernel
theorem dX2_start_49 : decode cX2_start 49 = .ok (.iconst 0, 1) := by decide +kernel
theorem dX2_start_50 : decode cX2_start 50 = .ok (.invokestatic 60, 3) := by decide +kernel
theorem dX2_start_53 : decode cX2_start 53 = .ok (.aload_n 0, 1) := by decide +kernel
theorem dX2_start_54 : decode cX2_start 54 = .ok (.getfield 24, 3) := by decide +kernel
theorem dX2_start_57 : decode cX2_start 57 = .ok (.iload_n 1, 1) := by decide +kernel
theorem dX2_start_58 : decode cX2_start 58 = .ok (.invokevirtual 70, 3) := by decide +kernel
theorem dX2_start_61 : decode cX2_start 61 = .ok (.ifCond .eq 25, 3) := by decide +kernel
theorem dX2_start_64 : decode cX2_start 64 = .ok (.aload_n 0, 1) := by decide +kernel
theorem dX2_start_65 : decode cX2_start 65 = .ok (.getfield 9, 3) := by decide +kernel
theorem dX2_start_68 : decode cX2_start 68 = .ok (.aload_n 0, 1) := by decide +kernel
theorem dX2_start_69 : decode cX2_start 69 = .ok (.getfield 31, 3) := by decide +kernel
theorem dX2_start_72 : decode cX2_start 72 = .ok (.iload_n 1, 1) := by decide +kernel
theorem dX2_start_73 : decode cX2_start 73 = .ok (.invokestatic 60, 3) := by decide +kernel
theorem dX2_start_76 : decode cX2_start 76 = .ok (.aload_n 0, 1) := by decide +kernel
theorem dX2_start_77 : decode cX2_start 77 = .ok (.dup, 1) := by decide +kernel
theorem dX2_start_78 : decode cX2_start 78 = .ok (.getfield 31, 3) := by decide +kernel
theorem dX2_start_81 : decode cX2_start 81 = .ok (.iconst 1, 1) := by decide +kernel
theorem dX2_start_82 : decode cX2_start 82 = .ok (.iadd, 1) := by decide +kernel
theorem dX2_start_83 : decode cX2_start 83 = .ok (.putfield 31, 3) := by decide +kernel
theorem dX2_start_86 : decode cX2_start 86 = .ok (.iinc 1 1, 3) := by decide +kernel
theorem dX2_start_89 : decode cX2_start 89 = .ok (.goto (-82), 3) := by decide +kernel
theorem dX2_start_92 : decode cX2_start 92 = .ok (.return_, 1) := by decide +kernel
set_option maxRecDepth 20000 in
theorem ggX2_tryNext_X3_at : GoodIn wsX2_tryNext wsX3_at := goodIn_r _ [6] (by decide +kernel) (by decide +kernel)
set_option maxRecDepth 20000 in
theorem gX2_tryNext_X3_at_n41 : GoodIn wsX2_tryNext (wsX3_at) := ggX2_tryNext_X3_at
set_option maxRecDepth 20000 in
theorem ggX2_tryNext_X3_put : GoodIn wsX2_tryNext wsX3_put := goodIn_r _ [8] (by decide +kernel) (by decide +kernel)
set_option maxRecDepth 20000 in
theorem gX2_tryNext_X3_put_n60 : GoodIn wsX2_tryNext (wsX3_put) := ggX2_tryNext_X3_put
set_option maxRecDepth 20000 in
theorem ggX2_tryNext_X0_rowRunOf : GoodIn wsX2_tryNext wsX0_rowRunOf := goodIn_r _ [13, 14, 4, 5, 6, 47, 48, 49, 50, 51, 52, 53, 54, 55] (by decide +kernel) (by decide +kernel)
set_option maxRecDepth 20000 in
theorem gX2_tryNext_X0_rowRunOf : GoodIn wsX2_tryNext (wsV RX2 73 RX0 yX0_rowRunOf wsX0_rowRunOf) := goodIn_app (goodIn_of _ (by decide +kernel)) ggX2_tryNext_X0_rowRunOf
set_option maxRecDepth 20000 in
theorem ggX2_tryNext_X2_suits : GoodIn wsX2_tryNext wsX2_suits := goodIn_r _ [19, 3, 2, 20, 21, 22, 12, 23, 24, 4, 5, 6, 25, 26, 27, 28, 29, 30, 31, 32, 33, 34, 35, 41, 42, 43, 44, 45, 46, 47, 48, 49, 50, 51, 52, 53, 54, 55] (by decide +kernel) (by decide +kernel)
set_option maxRecDepth 20000 in
theorem gX2_tryNext_X2_suits : GoodIn wsX2_tryNext (wsV RX2 76 RX2 yX2_suits wsX2_suits) := goodIn_app (goodIn_of _ (by decide +kernel)) ggX2_tryNext_X2_suits
set_option maxRecDepth 20000 in
theorem ggX2_tryNext_X0_columnRunOf : GoodIn wsX2_tryNext wsX0_columnRunOf := goodIn_r _ [39, 40, 4, 5, 6, 47, 48, 49, 50, 51, 52, 53, 54, 55] (by decide +kernel) (by decide +kernel)
set_option maxRecDepth 20000 in
theorem gX2_tryNext_X0_columnRunOf : GoodIn wsX2_tryNext (wsV RX2 80 RX0 yX0_columnRunOf wsX0_columnRunOf) := goodIn_app (goodIn_of _ (by decide +kernel)) ggX2_tryNext_X0_columnRunOf
theorem dX2_tryNext_0 : decode cX2_tryNext 0 = .ok (.aload_n 0, 1) := by decide +kernel
theorem dX2_tryNext_1 : decode cX2_tryNext 1 = .ok (.getfield 15, 3) := by decide +kernel
theorem dX2_tryNext_4 : decode cX2_tryNext 4 = .ok (.iload_n 1, 1) := by decide +kernel
theorem dX2_tryNext_5 : decode cX2_tryNext 5 = .ok (.invokestatic 41, 3) := by decide +kernel
theorem dX2_tryNext_8 : decode cX2_tryNext 8 = .ok (.iconst 1, 1) := by decide +kernel
theorem dX2_tryNext_9 : decode cX2_tryNext 9 = .ok (.iadd, 1) := by decide +kernel
theorem dX2_tryNext_10 : decode cX2_tryNext 10 = .ok (.istore_n 2, 1) := by decide +kernel
theorem dX2_tryNext_11 : decode cX2_tryNext 11 = .ok (.aload_n 0, 1) := by decide +kernel
theorem dX2_tryNext_12 : decode cX2_tryNext 12 = .ok (.getfield 15, 3) := by decide +kernel
theorem dX2_tryNext_15 : decode cX2_tryNext 15 = .ok (.iload_n 1, 1) := by decide +kernel
theorem dX2_tryNext_16 : decode cX2_tryNext 16 = .ok (.iload_n 2, 1) := by decide +kernel
theorem dX2_tryNext_17 : decode cX2_tryNext 17 = .ok (.invokestatic 60, 3) := by decide +kernel
theorem dX2_tryNext_20 : decode cX2_tryNext 20 = .ok (.aload_n 0, 1) := by decide +kernel
theorem dX2_tryNext_21 : decode cX2_tryNext 21 = .ok (.getfield 18, 3) := by decide +kernel
theorem dX2_tryNext_24 : decode cX2_tryNext 24 = .ok (.iload_n 1, 1) := by decide +kernel
theorem dX2_tryNext_25 : decode cX2_tryNext 25 = .ok (.iconst 0, 1) := by decide +kernel
theorem dX2_tryNext_26 : decode cX2_tryNext 26 = .ok (.invokestatic 60, 3) := by decide +kernel
theorem dX2_tryNext_29 : decode cX2_tryNext 29 = .ok (.aload_n 0, 1) := by decide +kernel
theorem dX2_tryNext_30 : decode cX2_tryNext 30 = .ok (.aload_n 0, 1) := by decide +kernel
theorem dX2_tryNext_31 : decode cX2_tryNext 31 = .ok (.getfield 24, 3) := by decide +kernel
theorem dX2_tryNext_34 : decode cX2_tryNext 34 = .ok (.iload_n 1, 1) := by decide +kernel
theorem dX2_tryNext_35 : decode cX2_tryNext 35 = .ok (.invokevirtual 73, 3) := by decide +kernel
theorem dX2_tryNext_38 : decode cX2_tryNext 38 = .ok (.iload_n 2, 1) := by decide +kernel
theorem dX2_tryNext_39 : decode cX2_tryNext 39 = .ok (.invokevirtual 76, 3) := by decide +kernel
theorem dX2_tryNext_42 : decode cX2_tryNext 42 = .ok (.ifCond .eq 19, 3) := by decide +kernel
theorem dX2_tryNext_45 : decode cX2_tryNext 45 = .ok (.aload_n 0, 1) := by decide +kernel
theorem dX2_tryNext_46 : decode cX2_tryNext 46 = .ok (.aload_n 0, 1) := by decide +kernel
theorem dX2_tryNext_47 : decode cX2_tryNext 47 = .ok (.getfield 24, 3) := by decide +kernel
theorem dX2_tryNext_50 : decode cX2_tryNext 50 = .ok (.iload_n 1, 1) := by decide +kernel
theorem dX2_tryNext_51 : decode cX2_tryNext 51 = .ok (.invokevirtual 80, 3) := by decide +kernel
theorem dX2_tryNext_54 : decode cX2_tryNext 54 = .ok (.iload_n 2, 1) := by decide +kernel
theorem dX2_tryNext_55 : decode cX2_tryNext 55 = .ok (.invokevirtual 76, 3) := by decide +kernel
theorem dX2_tryNext_58 : decode cX2_tryNext 58 = .ok (.ifCond .ne 5, 3) := by decide +kernel
theorem dX2_tryNext_61 : decode cX2_tryNext 61 = .ok (.iconst 0, 1) := by decide +kernel
theorem dX2_tryNext_62 : decode cX2_tryNext 62 = .ok (.ireturn, 1) := by decide +kernel
theorem dX2_tryNext_63 : decode cX2_tryNext 63 = .ok (.aload_n 0, 1) := by decide +kernel
theorem dX2_tryNext_64 : decode cX2_tryNext 64 = .ok (.getfield 18, 3) := by decide +kernel
theorem dX2_tryNext_67 : decode cX2_tryNext 67 = .ok (.iload_n 1, 1) := by decide +kernel
theorem dX2_tryNext_68 : decode cX2_tryNext 68 = .ok (.iload_n 2, 1) := by decide +kernel
theorem dX2_tryNext_69 : decode cX2_tryNext 69 = .ok (.invokestatic 60, 3) := by decide +kernel
theorem dX2_tryNext_72 : decode cX2_tryNext 72 = .ok (.iconst 1, 1) := by decide +kernel
theorem dX2_tryNext_73 : decode cX2_tryNext 73 = .ok (.ireturn, 1) := by decide +kernel
set_option maxRecDepth 20000 in
theorem ggX2_suits_X0_lengthAt : GoodIn wsX2_suits wsX0_lengthAt := goodIn_r _ [7, 8, 9, 10, 11, 29, 30, 31, 32, 33, 34, 35, 36, 37] (by decide +kernel) (by decide +kernel)
set_option maxRecDepth 20000 in
theorem gX2_suits_X0_lengthAt : GoodIn wsX2_suits (wsV RX2 83 RX0 yX0_lengthAt wsX0_lengthAt) := goodIn_app (goodIn_of _ (by decide +kernel)) ggX2_suits_X0_lengthAt
set_option maxRecDepth 20000 in
theorem ggX2_suits_X0_cellAt : GoodIn wsX2_suits wsX0_cellAt := goodIn_r _ [15, 16, 17, 9, 10, 11, 29, 30, 31, 32, 33, 34, 35, 36, 37] (by decide +kernel) (by decide +kernel)
set_option maxRecDepth 20000 in
theorem gX2_suits_X0_cellAt : GoodIn wsX2_suits (wsV RX2 86 RX0 yX0_cellAt wsX0_cellAt) := goodIn_app (goodIn_of _ (by decide +kernel)) ggX2_suits_X0_cellAt
set_option maxRecDepth 20000 in
theorem ggX2_suits_X3_at : GoodIn wsX2_suits wsX3_at := goodIn_r _ [11] (by decide +kernel) (by decide +kernel)
set_option maxRecDepth 20000 in
theorem gX2_suits_X3_at_n41 : GoodIn wsX2_suits (wsX3_at) := ggX2_suits_X3_at
set_option maxRecDepth 20000 in
theorem ggX2_suits_X0_sumAt : GoodIn wsX2_suits wsX0_sumAt := goodIn_r _ [21, 22, 9, 10, 11, 29, 30, 31, 32, 33, 34, 35, 36, 37] (by decide +kernel) (by decide +kernel)
set_option maxRecDepth 20000 in
theorem gX2_suits_X0_sumAt : GoodIn wsX2_suits (wsV RX2 90 RX0 yX0_sumAt wsX0_sumAt) := goodIn_app (goodIn_of _ (by decide +kernel)) ggX2_suits_X0_sumAt
theorem dX2_suits_0 : decode cX2_suits 0 = .ok (.iload_n 1, 1) := by decide +kernel
theorem dX2_suits_1 : decode cX2_suits 1 = .ok (.iconst (-1), 1) := by decide +kernel
theorem dX2_suits_2 : decode cX2_suits 2 = .ok (.if_icmp .ne 5, 3) := by decide +kernel
theorem dX2_suits_5 : decode cX2_suits 5 = .ok (.iconst 1, 1) := by decide +kernel
theorem dX2_suits_6 : decode cX2_suits 6 = .ok (.ireturn, 1) := by decide +kernel
theorem dX2_suits_7 : decode cX2_suits 7 = .ok (.iconst 0, 1) := by decide +kernel
theorem dX2_suits_8 : decode cX2_suits 8 = .ok (.istore_n 3, 1) := by decide +kernel
theorem dX2_suits_9 : decode cX2_suits 9 = .ok (.iload_n 2, 1) := by decide +kernel
theorem dX2_suits_10 : decode cX2_suits 10 = .ok (.istore 4, 2) := by decide +kernel
theorem dX2_suits_12 : decode cX2_suits 12 = .ok (.aload_n 0, 1) := by decide +kernel
theorem dX2_suits_13 : decode cX2_suits 13 = .ok (.getfield 24, 3) := by decide +kernel
theorem dX2_suits_16 : decode cX2_suits 16 = .ok (.iload_n 1, 1) := by decide +kernel
theorem dX2_suits_17 : decode cX2_suits 17 = .ok (.invokevirtual 83, 3) := by decide +kernel
theorem dX2_suits_20 : decode cX2_suits 20 = .ok (.istore 5, 2) := by decide +kernel
theorem dX2_suits_22 : decode cX2_suits 22 = .ok (.iconst 0, 1) := by decide +kernel
theorem dX2_suits_23 : decode cX2_suits 23 = .ok (.istore 6, 2) := by decide +kernel
theorem dX2_suits_25 : decode cX2_suits 25 = .ok (.iload 6, 2) := by decide +kernel
theorem dX2_suits_27 : decode cX2_suits 27 = .ok (.iload 5, 2) := by decide +kernel
theorem dX2_suits_29 : decode cX2_suits 29 = .ok (.if_icmp .ge 51, 3) := by decide +kernel
theorem dX2_suits_32 : decode cX2_suits 32 = .ok (.aload_n 0, 1) := by decide +kernel
theorem dX2_suits_33 : decode cX2_suits 33 = .ok (.getfield 18, 3) := by decide +kernel
theorem dX2_suits_36 : decode cX2_suits 36 = .ok (.aload_n 0, 1) := by decide +kernel
theorem dX2_suits_37 : decode cX2_suits 37 = .ok (.getfield 24, 3) := by decide +kernel
theorem dX2_suits_40 : decode cX2_suits 40 = .ok (.iload_n 1, 1) := by decide +kernel
theorem dX2_suits_41 : decode cX2_suits 41 = .ok (.iload 6, 2) := by decide +kernel
theorem dX2_suits_43 : decode cX2_suits 43 = .ok (.invokevirtual 86, 3) := by decide +kernel
theorem dX2_suits_46 : decode cX2_suits 46 = .ok (.invokestatic 41, 3) := by decide +kernel
theorem dX2_suits_49 : decode cX2_suits 49 = .ok (.istore 7, 2) := by decide +kernel
theorem dX2_suits_51 : decode cX2_suits 51 = .ok (.iload 7, 2) := by decide +kernel
theorem dX2_suits_53 : decode cX2_suits 53 = .ok (.iload_n 2, 1) := by decide +kernel
theorem dX2_suits_54 : decode cX2_suits 54 = .ok (.if_icmp .ne 5, 3) := by decide +kernel
theorem dX2_suits_57 : decode cX2_suits 57 = .ok (.iconst 0, 1) := by decide +kernel
theorem dX2_suits_58 : decode cX2_suits 58 = .ok (.ireturn, 1) := by decide +kernel
theorem dX2_suits_59 : decode cX2_suits 59 = .ok (.iload 7, 2) := by decide +kernel
theorem dX2_suits_61 : decode cX2_suits 61 = .ok (.ifCond .ne 6, 3) := by decide +kernel
theorem dX2_suits_64 : decode cX2_suits 64 = .ok (.iinc 3 1, 3) := by decide +kernel
theorem dX2_suits_67 : decode cX2_suits 67 = .ok (.iload 4, 2) := by decide +kernel
theorem dX2_suits_69 : decode cX2_suits 69 = .ok (.iload 7, 2) := by decide +kernel
theorem dX2_suits_71 : decode cX2_suits 71 = .ok (.iadd, 1) := by decide +kernel
theorem dX2_suits_72 : decode cX2_suits 72 = .ok (.istore 4, 2) := by decide +kernel
theorem dX2_suits_74 : decode cX2_suits 74 = .ok (.iinc 6 1, 3) := by decide +kernel
theorem dX2_suits_77 : decode cX2_suits 77 = .ok (.goto (-52), 3) := by decide +kernel
theorem dX2_suits_80 : decode cX2_suits 80 = .ok (.aload_n 0, 1) := by decide +kernel
theorem dX2_suits_81 : decode cX2_suits 81 = .ok (.getfield 24, 3) := by decide +kernel
theorem dX2_suits_84 : decode cX2_suits 84 = .ok (.iload_n 1, 1) := by decide +kernel
theorem dX2_suits_85 : decode cX2_suits 85 = .ok (.invokevirtual 90, 3) := by decide +kernel
theorem dX2_suits_88 : decode cX2_suits 88 = .ok (.istore 6, 2) := by decide +kernel
theorem dX2_suits_90 : decode cX2_suits 90 = .ok (.iload 6, 2) := by decide +kernel
theorem dX2_suits_92 : decode cX2_suits 92 = .ok (.ifCond .ne 5, 3) := by decide +kernel
theorem dX2_suits_95 : decode cX2_suits 95 = .ok (.iconst 1, 1) := by decide +kernel
theorem dX2_suits_96 : decode cX2_suits 96 = .ok (.ireturn, 1) := by decide +kernel
theorem dX2_suits_97 : decode cX2_suits 97 = .ok (.iload_n 3, 1) := by decide +kernel
theorem dX2_suits_98 : decode cX2_suits 98 = .ok (.iconst 1, 1) := by decide +kernel
theorem dX2_suits_99 : decode cX2_suits 99 = .ok (.if_icmp .le 18, 3) := by decide +kernel
theorem dX2_suits_102 : decode cX2_suits 102 = .ok (.iload 4, 2) := by decide +kernel
theorem dX2_suits_104 : decode cX2_suits 104 = .ok (.iload 6, 2) := by decide +kernel
theorem dX2_suits_106 : decode cX2_suits 106 = .ok (.if_icmp .gt 7, 3) := by decide +kernel
theorem dX2_suits_109 : decode cX2_suits 109 = .ok (.iconst 1, 1) := by decide +kernel
theorem dX2_suits_110 : decode cX2_suits 110 = .ok (.goto 19, 3) := by decide +kernel
theorem dX2_suits_113 : decode cX2_suits 113 = .ok (.iconst 0, 1) := by decide +kernel
theorem dX2_suits_114 : decode cX2_suits 114 = .ok (.goto 15, 3) := by decide +kernel
theorem dX2_suits_117 : decode cX2_suits 117 = .ok (.iload 4, 2) := by decide +kernel
theorem dX2_suits_119 : decode cX2_suits 119 = .ok (.iload 6, 2) := by decide +kernel
theorem dX2_suits_121 : decode cX2_suits 121 = .ok (.if_icmp .ne 7, 3) := by decide +kernel
theorem dX2_suits_124 : decode cX2_suits 124 = .ok (.iconst 1, 1) := by decide +kernel
theorem dX2_suits_125 : decode cX2_suits 125 = .ok (.goto 4, 3) := by decide +kernel
theorem dX2_suits_128 : decode cX2_suits 128 = .ok (.iconst 0, 1) := by decide +kernel
theorem dX2_suits_129 : decode cX2_suits 129 = .ok (.ireturn, 1) := by decide +kernel
set_option maxRecDepth 20000 in
theorem ggX2_backFrom_X3_at : GoodIn wsX2_backFrom wsX3_at := goodIn_r _ [6] (by decide +kernel) (by decide +kernel)
set_option maxRecDepth 20000 in
theorem gX2_backFrom_X3_at_n41 : GoodIn wsX2_backFrom (wsX3_at) := ggX2_backFrom_X3_at
set_option maxRecDepth 20000 in
theorem ggX2_backFrom_X3_put : GoodIn wsX2_backFrom wsX3_put := goodIn_r _ [8] (by decide +kernel) (by decide +kernel)
set_option maxRecDepth 20000 in
theorem gX2_backFrom_X3_put_n60 : GoodIn wsX2_backFrom (wsX3_put) := ggX2_backFrom_X3_put
theorem dX2_backFrom_0 : decode cX2_backFrom 0 = .ok (.iload_n 1, 1) := by decide +kernel
theorem dX2_backFrom_1 : decode cX2_backFrom 1 = .ok (.istore_n 2, 1) := by decide +kernel
theorem dX2_backFrom_2 : decode cX2_backFrom 2 = .ok (.iload_n 2, 1) := by decide +kernel
theorem dX2_backFrom_3 : decode cX2_backFrom 3 = .ok (.ifCond .lt 61, 3) := by decide +kernel
theorem dX2_backFrom_6 : decode cX2_backFrom 6 = .ok (.aload_n 0, 1) := by decide +kernel
theorem dX2_backFrom_7 : decode cX2_backFrom 7 = .ok (.getfield 15, 3) := by decide +kernel
theorem dX2_backFrom_10 : decode cX2_backFrom 10 = .ok (.aload_n 0, 1) := by decide +kernel
theorem dX2_backFrom_11 : decode cX2_backFrom 11 = .ok (.getfield 9, 3) := by decide +kernel
theorem dX2_backFrom_14 : decode cX2_backFrom 14 = .ok (.iload_n 2, 1) := by decide +kernel
theorem dX2_backFrom_15 : decode cX2_backFrom 15 = .ok (.invokestatic 41, 3) := by decide +kernel
theorem dX2_backFrom_18 : decode cX2_backFrom 18 = .ok (.invokestatic 41, 3) := by decide +kernel
theorem dX2_backFrom_21 : decode cX2_backFrom 21 = .ok (.bipush 9, 2) := by decide +kernel
theorem dX2_backFrom_23 : decode cX2_backFrom 23 = .ok (.if_icmp .lt 41, 3) := by decide +kernel
theorem dX2_backFrom_26 : decode cX2_backFrom 26 = .ok (.aload_n 0, 1) := by decide +kernel
theorem dX2_backFrom_27 : decode cX2_backFrom 27 = .ok (.getfield 15, 3) := by decide +kernel
theorem dX2_backFrom_30 : decode cX2_backFrom 30 = .ok (.aload_n 0, 1) := by decide +kernel
theorem dX2_backFrom_31 : decode cX2_backFrom 31 = .ok (.getfield 9, 3) := by decide +kernel
theorem dX2_backFrom_34 : decode cX2_backFrom 34 = .ok (.iload_n 2, 1) := by decide +kernel
theorem dX2_backFrom_35 : decode cX2_backFrom 35 = .ok (.invokestatic 41, 3) := by decide +kernel
theorem dX2_backFrom_38 : decode cX2_backFrom 38 = .ok (.iconst 0, 1) := by decide +kernel
theorem dX2_backFrom_39 : decode cX2_backFrom 39 = .ok (.invokestatic 60, 3) := by decide +kernel
theorem dX2_backFrom_42 : decode cX2_backFrom 42 = .ok (.aload_n 0, 1) := by decide +kernel
theorem dX2_backFrom_43 : decode cX2_backFrom 43 = .ok (.getfield 18, 3) := by decide +kernel
theorem dX2_backFrom_46 : decode cX2_backFrom 46 = .ok (.aload_n 0, 1) := by decide +kernel
theorem dX2_backFrom_47 : decode cX2_backFrom 47 = .ok (.getfield 9, 3) := by decide +kernel
theorem dX2_backFrom_50 : decode cX2_backFrom 50 = .ok (.iload_n 2, 1) := by decide +kernel
theorem dX2_backFrom_51 : decode cX2_backFrom 51 = .ok (.invokestatic 41, 3) := by decide +kernel
theorem dX2_backFrom_54 : decode cX2_backFrom 54 = .ok (.iconst 0, 1) := by decide +kernel
theorem dX2_backFrom_55 : decode cX2_backFrom 55 = .ok (.invokestatic 60, 3) := by decide +kernel
theorem dX2_backFrom_58 : decode cX2_backFrom 58 = .ok (.iinc 2 (-1), 3) := by decide +kernel
theorem dX2_backFrom_61 : decode cX2_backFrom 61 = .ok (.goto (-59), 3) := by decide +kernel
theorem dX2_backFrom_64 : decode cX2_backFrom 64 = .ok (.iload_n 2, 1) := by decide +kernel
theorem dX2_backFrom_65 : decode cX2_backFrom 65 = .ok (.ireturn, 1) := by decide +kernel
set_option maxRecDepth 20000 in
theorem ggX2_keepFirstAnswer_X3_at : GoodIn wsX2_keepFirstAnswer wsX3_at := goodIn_r _ [5] (by decide +kernel) (by decide +kernel)
set_option maxRecDepth 20000 in
theorem gX2_keepFirstAnswer_X3_at_n41 : GoodIn wsX2_keepFirstAnswer (wsX3_at) := ggX2_keepFirstAnswer_X3_at
set_option maxRecDepth 20000 in
theorem ggX2_keepFirstAnswer_X3_put : GoodIn wsX2_keepFirstAnswer wsX3_put := goodIn_r _ [7] (by decide +kernel) (by decide +kernel)
set_option maxRecDepth 20000 in
theorem gX2_keepFirstAnswer_X3_put_n60 : GoodIn wsX2_keepFirstAnswer (wsX3_put) := ggX2_keepFirstAnswer_X3_put
theorem dX2_keepFirstAnswer_0 : decode cX2_keepFirstAnswer 0 = .ok (.iconst 0, 1) := by decide +kernel
theorem dX2_keepFirstAnswer_1 : decode cX2_keepFirstAnswer 1 = .ok (.istore_n 1, 1) := by decide +kernel
theorem dX2_keepFirstAnswer_2 : decode cX2_keepFirstAnswer 2 = .ok (.iload_n 1, 1) := by decide +kernel
theorem dX2_keepFirstAnswer_3 : decode cX2_keepFirstAnswer 3 = .ok (.bipush 16, 2) := by decide +kernel
theorem dX2_keepFirstAnswer_5 : decode cX2_keepFirstAnswer 5 = .ok (.if_icmp .ge 25, 3) := by decide +kernel
theorem dX2_keepFirstAnswer_8 : decode cX2_keepFirstAnswer 8 = .ok (.aload_n 0, 1) := by decide +kernel
theorem dX2_keepFirstAnswer_9 : decode cX2_keepFirstAnswer 9 = .ok (.getfield 21, 3) := by decide +kernel
theorem dX2_keepFirstAnswer_12 : decode cX2_keepFirstAnswer 12 = .ok (.iload_n 1, 1) := by decide +kernel
theorem dX2_keepFirstAnswer_13 : decode cX2_keepFirstAnswer 13 = .ok (.aload_n 0, 1) := by decide +kernel
theorem dX2_keepFirstAnswer_14 : decode cX2_keepFirstAnswer 14 = .ok (.getfield 18, 3) := by decide +kernel
theorem dX2_keepFirstAnswer_17 : decode cX2_keepFirstAnswer 17 = .ok (.iload_n 1, 1) := by decide +kernel
theorem dX2_keepFirstAnswer_18 : decode cX2_keepFirstAnswer 18 = .ok (.invokestatic 41, 3) := by decide +kernel
theorem dX2_keepFirstAnswer_21 : decode cX2_keepFirstAnswer 21 = .ok (.invokestatic 60, 3) := by decide +kernel
theorem dX2_keepFirstAnswer_24 : decode cX2_keepFirstAnswer 24 = .ok (.iinc 1 1, 3) := by decide +kernel
theorem dX2_keepFirstAnswer_27 : decode cX2_keepFirstAnswer 27 = .ok (.goto (-25), 3) := by decide +kernel
theorem dX2_keepFirstAnswer_30 : decode cX2_keepFirstAnswer 30 = .ok (.return_, 1) := by decide +kernel
set_option maxRecDepth 20000 in
theorem ggX2_fillBy_X3_at : GoodIn wsX2_fillBy wsX3_at := goodIn_r _ [6] (by decide +kernel) (by decide +kernel)
set_option maxRecDepth 20000 in
theorem gX2_fillBy_X3_at_n41 : GoodIn wsX2_fillBy (wsX3_at) := ggX2_fillBy_X3_at
set_option maxRecDepth 20000 in
theorem ggX2_fillBy_X3_put : GoodIn wsX2_fillBy wsX3_put := goodIn_r _ [8] (by decide +kernel) (by decide +kernel)
set_option maxRecDepth 20000 in
theorem gX2_fillBy_X3_put_n60 : GoodIn wsX2_fillBy (wsX3_put) := ggX2_fillBy_X3_put
theorem dX2_fillBy_0 : decode cX2_fillBy 0 = .ok (.iload_n 1, 1) := by decide +kernel
theorem dX2_fillBy_1 : decode cX2_fillBy 1 = .ok (.istore_n 2, 1) := by decide +kernel
theorem dX2_fillBy_2 : decode cX2_fillBy 2 = .ok (.iconst 0, 1) := by decide +kernel
theorem dX2_fillBy_3 : decode cX2_fillBy 3 = .ok (.istore_n 3, 1) := by decide +kernel
theorem dX2_fillBy_4 : decode cX2_fillBy 4 = .ok (.iload_n 3, 1) := by decide +kernel
theorem dX2_fillBy_5 : decode cX2_fillBy 5 = .ok (.aload_n 0, 1) := by decide +kernel
theorem dX2_fillBy_6 : decode cX2_fillBy 6 = .ok (.getfield 31, 3) := by decide +kernel
theorem dX2_fillBy_9 : decode cX2_fillBy 9 = .ok (.if_icmp .ge 35, 3) := by decide +kernel
theorem dX2_fillBy_12 : decode cX2_fillBy 12 = .ok (.aload_n 0, 1) := by decide +kernel
theorem dX2_fillBy_13 : decode cX2_fillBy 13 = .ok (.getfield 18, 3) := by decide +kernel
theorem dX2_fillBy_16 : decode cX2_fillBy 16 = .ok (.aload_n 0, 1) := by decide +kernel
theorem dX2_fillBy_17 : decode cX2_fillBy 17 = .ok (.getfield 9, 3) := by decide +kernel
theorem dX2_fillBy_20 : decode cX2_fillBy 20 = .ok (.iload_n 3, 1) := by decide +kernel
theorem dX2_fillBy_21 : decode cX2_fillBy 21 = .ok (.invokestatic 41, 3) := by decide +kernel
theorem dX2_fillBy_24 : decode cX2_fillBy 24 = .ok (.iload_n 2, 1) := by decide +kernel
theorem dX2_fillBy_25 : decode cX2_fillBy 25 = .ok (.bipush 9, 2) := by decide +kernel
theorem dX2_fillBy_27 : decode cX2_fillBy 27 = .ok (.irem, 1) := by decide +kernel
theorem dX2_fillBy_28 : decode cX2_fillBy 28 = .ok (.iconst 1, 1) := by decide +kernel
theorem dX2_fillBy_29 : decode cX2_fillBy 29 = .ok (.iadd, 1) := by decide +kernel
theorem dX2_fillBy_30 : decode cX2_fillBy 30 = .ok (.invokestatic 60, 3) := by decide +kernel
theorem dX2_fillBy_33 : decode cX2_fillBy 33 = .ok (.iload_n 2, 1) := by decide +kernel
theorem dX2_fillBy_34 : decode cX2_fillBy 34 = .ok (.bipush 9, 2) := by decide +kernel
theorem dX2_fillBy_36 : decode cX2_fillBy 36 = .ok (.idiv, 1) := by decide +kernel
theorem dX2_fillBy_37 : decode cX2_fillBy 37 = .ok (.istore_n 2, 1) := by decide +kernel
theorem dX2_fillBy_38 : decode cX2_fillBy 38 = .ok (.iinc 3 1, 3) := by decide +kernel
theorem dX2_fillBy_41 : decode cX2_fillBy 41 = .ok (.goto (-37), 3) := by decide +kernel
theorem dX2_fillBy_44 : decode cX2_fillBy 44 = .ok (.return_, 1) := by decide +kernel
set_option maxRecDepth 20000 in
theorem ggX3_init_X0_init : GoodIn wsX3_init wsX0_init := goodIn_r _ [17, 18, 2, 3, 19, 20, 21, 22, 23, 24, 25, 26, 78, 79, 80, 81, 82, 83, 84, 85, 86] (by decide +kernel) (by decide +kernel)
set_option maxRecDepth 20000 in
theorem gX3_init_X0_init_n11 : GoodIn wsX3_init (wsX0_init) := ggX3_init_X0_init
set_option maxRecDepth 20000 in
theorem ggX3_init_X2_init : GoodIn wsX3_init wsX2_init := goodIn_r _ [29, 30, 2, 3, 19, 31, 32, 33, 34, 35, 90, 91, 92, 93, 94, 95] (by decide +kernel) (by decide +kernel)
set_option maxRecDepth 20000 in
theorem gX3_init_X2_init : GoodIn wsX3_init (wsX2_init) := ggX3_init_X2_init
set_option maxRecDepth 20000 in
theorem ggX3_init_X1_init : GoodIn wsX3_init wsX1_init := goodIn_r _ [38, 39, 2, 3, 19, 40, 41, 42, 96, 97, 98, 99, 100] (by decide +kernel) (by decide +kernel)
set_option maxRecDepth 20000 in
theorem gX3_init_X1_init : GoodIn wsX3_init (wsX1_init) := ggX3_init_X1_init
set_option maxRecDepth 20000 in
theorem ggX3_init_X0_clear : GoodIn wsX3_init wsX0_clear := goodIn_r _ [46, 47, 20, 48, 49, 50, 51, 52, 53, 54, 6, 55, 56, 24, 25, 26, 57, 58, 59, 60, 61, 62, 63, 64, 65, 66, 67, 68, 69, 70, 71, 72, 73, 74, 75, 21, 22, 23, 76, 77, 78, 79, 80, 81, 82, 83, 84, 85, 86] (by decide +kernel) (by decide +kernel)
set_option maxRecDepth 20000 in
theorem gX3_init_X0_clear : GoodIn wsX3_init (wsV RX3 32 RX0 yX0_clear wsX0_clear) := goodIn_app (goodIn_of _ (by decide +kernel)) ggX3_init_X0_clear
theorem dX3_init_0 : decode cX3_init 0 = .ok (.aload_n 0, 1) := by decide +kernel
theorem dX3_init_1 : decode cX3_init 1 = .ok (.invokespecial 3, 3) := by decide +kernel
theorem dX3_init_4 : decode cX3_init 4 = .ok (.aload_n 0, 1) := by decide +kernel
theorem dX3_init_5 : decode cX3_init 5 = .ok (.new 9, 3) := by decide +kernel
theorem dX3_init_8 : decode cX3_init 8 = .ok (.dup, 1) := by decide +kernel
theorem dX3_init_9 : decode cX3_init 9 = .ok (.invokespecial 11, 3) := by decide +kernel
theorem dX3_init_12 : decode cX3_init 12 = .ok (.putfield 12, 3) := by decide +kernel
theorem dX3_init_15 : decode cX3_init 15 = .ok (.aload_n 0, 1) := by decide +kernel
theorem dX3_init_16 : decode cX3_init 16 = .ok (.new 16, 3) := by decide +kernel
theorem dX3_init_19 : decode cX3_init 19 = .ok (.dup, 1) := by decide +kernel
theorem dX3_init_20 : decode cX3_init 20 = .ok (.aload_n 0, 1) := by decide +kernel
theorem dX3_init_21 : decode cX3_init 21 = .ok (.getfield 12, 3) := by decide +kernel
theorem dX3_init_24 : decode cX3_init 24 = .ok (.invokespecial 18, 3) := by decide +kernel
theorem dX3_init_27 : decode cX3_init 27 = .ok (.putfield 21, 3) := by decide +kernel
theorem dX3_init_30 : decode cX3_init 30 = .ok (.aload_n 0, 1) := by decide +kernel
theorem dX3_init_31 : decode cX3_init 31 = .ok (.new 25, 3) := by decide +kernel
theorem dX3_init_34 : decode cX3_init 34 = .ok (.dup, 1) := by decide +kernel
theorem dX3_init_35 : decode cX3_init 35 = .ok (.aload_n 0, 1) := by decide +kernel
theorem dX3_init_36 : decode cX3_init 36 = .ok (.getfield 12, 3) := by decide +kernel
theorem dX3_init_39 : decode cX3_init 39 = .ok (.invokespecial 27, 3) := by decide +kernel
theorem dX3_init_42 : decode cX3_init 42 = .ok (.putfield 28, 3) := by decide +kernel
theorem dX3_init_45 : decode cX3_init 45 = .ok (.aload_n 0, 1) := by decide +kernel
theorem dX3_init_46 : decode cX3_init 46 = .ok (.getfield 12, 3) := by decide +kernel
theorem dX3_init_49 : decode cX3_init 49 = .ok (.iconst 3, 1) := by decide +kernel
theorem dX3_init_50 : decode cX3_init 50 = .ok (.invokevirtual 32, 3) := by decide +kernel
theorem dX3_init_53 : decode cX3_init 53 = .ok (.return_, 1) := by decide +kernel
set_option maxRecDepth 20000 in
theorem ggX3_begin_X0_clear : GoodIn wsX3_begin wsX0_clear := goodIn_r _ [8, 9, 10, 11, 12, 13, 14, 15, 16, 17, 7, 18, 19, 20, 21, 22, 23, 24, 25, 26, 27, 28, 29, 30, 31, 32, 33, 34, 35, 36, 37, 38, 39, 40, 41, 42, 43, 44, 45, 46, 50, 51, 52, 53, 54, 55, 56, 57, 58] (by decide +kernel) (by decide +kernel)
set_option maxRecDepth 20000 in
theorem gX3_begin_X0_clear : GoodIn wsX3_begin (wsV RX3 32 RX0 yX0_clear wsX0_clear) := goodIn_app (goodIn_of _ (by decide +kernel)) ggX3_begin_X0_clear
theorem dX3_begin_0 : decode cX3_begin 0 = .ok (.iload_n 1, 1) := by decide +kernel
theorem dX3_begin_1 : decode cX3_begin 1 = .ok (.iconst 2, 1) := by decide +kernel
theorem dX3_begin_2 : decode cX3_begin 2 = .ok (.if_icmp .lt 8, 3) := by decide +kernel
theorem dX3_begin_5 : decode cX3_begin 5 = .ok (.iload_n 1, 1) := by decide +kernel
theorem dX3_begin_6 : decode cX3_begin 6 = .ok (.iconst 4, 1) := by decide +kernel
theorem dX3_begin_7 : decode cX3_begin 7 = .ok (.if_icmp .le 13, 3) := by decide +kernel
theorem dX3_begin_10 : decode cX3_begin 10 = .ok (.new 36, 3) := by decide +kernel
theorem dX3_begin_13 : decode cX3_begin 13 = .ok (.dup, 1) := by decide +kernel
theorem dX3_begin_14 : decode cX3_begin 14 = .ok (.ldc 38, 2) := by decide +kernel
theorem dX3_begin_16 : decode cX3_begin 16 = .ok (.invokespecial 40, 3) := by decide +kernel
theorem dX3_begin_19 : decode cX3_begin 19 = .ok (.athrow, 1) := by decide +kernel
theorem dX3_begin_20 : decode cX3_begin 20 = .ok (.aload_n 0, 1) := by decide +kernel
theorem dX3_begin_21 : decode cX3_begin 21 = .ok (.getfield 12, 3) := by decide +kernel
theorem dX3_begin_24 : decode cX3_begin 24 = .ok (.iload_n 1, 1) := by decide +kernel
theorem dX3_begin_25 : decode cX3_begin 25 = .ok (.invokevirtual 32, 3) := by decide +kernel
theorem dX3_begin_28 : decode cX3_begin 28 = .ok (.return_, 1) := by decide +kernel
set_option maxRecDepth 20000 in
theorem ggX3_bar_X3_needCell : GoodIn wsX3_bar wsX3_needCell := goodIn_ca (goodIn_r _ [6, 7, 8, 1, 9, 10, 11, 12, 13, 14, 53, 54, 55, 56, 57, 58, 59, 60, 61, 62, 63, 64] (by decide +kernel) (by decide +kernel)) (goodIn_sub (fun _ h => List.mem_cons_of_mem _ (List.mem_append_right _ h)) (by decide +kernel))
set_option maxRecDepth 20000 in
theorem gX3_bar_X3_needCell : GoodIn wsX3_bar (wsV RX3 43 RX3 yX3_needCell wsX3_needCell) := goodIn_app (goodIn_of _ (by decide +kernel)) ggX3_bar_X3_needCell
set_option maxRecDepth 20000 in
theorem ggX3_bar_X0_turn : GoodIn wsX3_bar wsX0_turn := goodIn_r _ [18, 19, 20, 21, 22, 12, 23, 24, 10, 11, 13, 14, 25, 5, 26, 27, 28, 29, 30, 31, 32, 33, 34, 35, 36, 37, 38, 39, 40, 41, 42, 43, 44, 45, 46, 47, 48, 49, 50, 51, 56, 57, 58, 59, 60, 61, 62, 63, 64] (by decide +kernel) (by decide +kernel)
set_option maxRecDepth 20000 in
theorem gX3_bar_X0_turn : GoodIn wsX3_bar (wsV RX3 46 RX0 yX0_turn wsX0_turn) := goodIn_app (goodIn_of _ (by decide +kernel)) ggX3_bar_X0_turn
set_option maxRecDepth 20000 in
theorem ggX3_bar_X0_isOpen : GoodIn wsX3_bar wsX0_isOpen := goodIn_r _ [23, 19, 24, 10, 11, 12, 13, 14, 25, 5, 26, 56, 57, 58, 59, 60, 61, 62, 63, 64] (by decide +kernel) (by decide +kernel)
set_option maxRecDepth 20000 in
theorem gX3_bar_X0_isOpen : GoodIn wsX3_bar (wsV RX3 49 RX0 yX0_isOpen wsX0_isOpen) := goodIn_app (goodIn_of _ (by decide +kernel)) ggX3_bar_X0_isOpen
theorem dX3_bar_0 : decode cX3_bar 0 = .ok (.aload_n 0, 1) := by decide +kernel
theorem dX3_bar_1 : decode cX3_bar 1 = .ok (.iload_n 1, 1) := by decide +kernel
theorem dX3_bar_2 : decode cX3_bar 2 = .ok (.invokevirtual 43, 3) := by decide +kernel
theorem dX3_bar_5 : decode cX3_bar 5 = .ok (.aload_n 0, 1) := by decide +kernel
theorem dX3_bar_6 : decode cX3_bar 6 = .ok (.getfield 12, 3) := by decide +kernel
theorem dX3_bar_9 : decode cX3_bar 9 = .ok (.iload_n 1, 1) := by decide +kernel
theorem dX3_bar_10 : decode cX3_bar 10 = .ok (.invokevirtual 46, 3) := by decide +kernel
theorem dX3_bar_13 : decode cX3_bar 13 = .ok (.aload_n 0, 1) := by decide +kernel
theorem dX3_bar_14 : decode cX3_bar 14 = .ok (.getfield 12, 3) := by decide +kernel
theorem dX3_bar_17 : decode cX3_bar 17 = .ok (.iload_n 1, 1) := by decide +kernel
theorem dX3_bar_18 : decode cX3_bar 18 = .ok (.invokevirtual 49, 3) := by decide +kernel
theorem dX3_bar_21 : decode cX3_bar 21 = .ok (.ifCond .ne 7, 3) := by decide +kernel
theorem dX3_bar_24 : decode cX3_bar 24 = .ok (.iconst 1, 1) := by decide +kernel
theorem dX3_bar_25 : decode cX3_bar 25 = .ok (.goto 4, 3) := by decide +kernel
theorem dX3_bar_28 : decode cX3_bar 28 = .ok (.iconst 0, 1) := by decide +kernel
theorem dX3_bar_29 : decode cX3_bar 29 = .ok (.ireturn, 1) := by decide +kernel
set_option maxRecDepth 20000 in
theorem ggX3_barBoth_X3_needCell : GoodIn wsX3_barBoth wsX3_needCell := goodIn_ca (goodIn_r _ [6, 7, 8, 1, 9, 10, 11, 12, 13, 14, 64, 65, 66, 67, 68, 69, 70, 71, 72, 73, 74, 75] (by decide +kernel) (by decide +kernel)) (goodIn_sub (fun _ h => List.mem_cons_of_mem _ (List.mem_append_right _ h)) (by decide +kernel))
set_option maxRecDepth 20000 in
theorem gX3_barBoth_X3_needCell : GoodIn wsX3_barBoth (wsV RX3 43 RX3 yX3_needCell wsX3_needCell) := goodIn_app (goodIn_of _ (by decide +kernel)) ggX3_barBoth_X3_needCell
set_option maxRecDepth 20000 in
theorem ggX3_barBoth_X0_oppositeOf : GoodIn wsX3_barBoth wsX0_oppositeOf := goodIn_r _ [18, 14, 67, 68, 69, 70, 71, 72, 73, 74, 75] (by decide +kernel) (by decide +kernel)
set_option maxRecDepth 20000 in
theorem gX3_barBoth_X0_oppositeOf : GoodIn wsX3_barBoth (wsV RX3 53 RX0 yX0_oppositeOf wsX0_oppositeOf) := goodIn_app (goodIn_of _ (by decide +kernel)) ggX3_barBoth_X0_oppositeOf
set_option maxRecDepth 20000 in
theorem ggX3_barBoth_X0_turn : GoodIn wsX3_barBoth wsX0_turn := goodIn_r _ [22, 23, 24, 25, 26, 12, 27, 28, 10, 11, 13, 14, 29, 5, 30, 31, 32, 33, 34, 35, 36, 37, 38, 39, 40, 41, 42, 43, 44, 45, 46, 47, 48, 49, 50, 51, 52, 53, 54, 55, 67, 68, 69, 70, 71, 72, 73, 74, 75] (by decide +kernel) (by decide +kernel)
set_option maxRecDepth 20000 in
theorem gX3_barBoth_X0_turn : GoodIn wsX3_barBoth (wsV RX3 46 RX0 yX0_turn wsX0_turn) := goodIn_app (goodIn_of _ (by decide +kernel)) ggX3_barBoth_X0_turn
set_option maxRecDepth 20000 in
theorem ggX3_barBoth_X0_countBarred : GoodIn wsX3_barBoth wsX0_countBarred := goodIn_r _ [59, 14, 60, 61, 62, 12, 63, 24, 25, 26, 27, 23, 28, 10, 11, 13, 29, 5, 30, 67, 68, 69, 70, 71, 72, 73, 74, 75] (by decide +kernel) (by decide +kernel)
set_option maxRecDepth 20000 in
theorem gX3_barBoth_X0_countBarred : GoodIn wsX3_barBoth (wsV RX3 57 RX0 yX0_countBarred wsX0_countBarred) := goodIn_app (goodIn_of _ (by decide +kernel)) ggX3_barBoth_X0_countBarred
theorem dX3_barBoth_0 : decode cX3_barBoth 0 = .ok (.aload_n 0, 1) := by decide +kernel
theorem dX3_barBoth_1 : decode cX3_barBoth 1 = .ok (.iload_n 1, 1) := by decide +kernel
theorem dX3_barBoth_2 : decode cX3_barBoth 2 = .ok (.invokevirtual 43, 3) := by decide +kernel
theorem dX3_barBoth_5 : decode cX3_barBoth 5 = .ok (.aload_n 0, 1) := by decide +kernel
theorem dX3_barBoth_6 : decode cX3_barBoth 6 = .ok (.getfield 12, 3) := by decide +kernel
theorem dX3_barBoth_9 : decode cX3_barBoth 9 = .ok (.iload_n 1, 1) := by decide +kernel
theorem dX3_barBoth_10 : decode cX3_barBoth 10 = .ok (.invokevirtual 53, 3) := by decide +kernel
theorem dX3_barBoth_13 : decode cX3_barBoth 13 = .ok (.istore_n 2, 1) := by decide +kernel
theorem dX3_barBoth_14 : decode cX3_barBoth 14 = .ok (.aload_n 0, 1) := by decide +kernel
theorem dX3_barBoth_15 : decode cX3_barBoth 15 = .ok (.getfield 12, 3) := by decide +kernel
theorem dX3_barBoth_18 : decode cX3_barBoth 18 = .ok (.iload_n 1, 1) := by decide +kernel
theorem dX3_barBoth_19 : decode cX3_barBoth 19 = .ok (.invokevirtual 46, 3) := by decide +kernel
theorem dX3_barBoth_22 : decode cX3_barBoth 22 = .ok (.iload_n 2, 1) := by decide +kernel
theorem dX3_barBoth_23 : decode cX3_barBoth 23 = .ok (.iload_n 1, 1) := by decide +kernel
theorem dX3_barBoth_24 : decode cX3_barBoth 24 = .ok (.if_icmp .eq 11, 3) := by decide +kernel
theorem dX3_barBoth_27 : decode cX3_barBoth 27 = .ok (.aload_n 0, 1) := by decide +kernel
theorem dX3_barBoth_28 : decode cX3_barBoth 28 = .ok (.getfield 12, 3) := by decide +kernel
theorem dX3_barBoth_31 : decode cX3_barBoth 31 = .ok (.iload_n 2, 1) := by decide +kernel
theorem dX3_barBoth_32 : decode cX3_barBoth 32 = .ok (.invokevirtual 46, 3) := by decide +kernel
theorem dX3_barBoth_35 : decode cX3_barBoth 35 = .ok (.aload_n 0, 1) := by decide +kernel
theorem dX3_barBoth_36 : decode cX3_barBoth 36 = .ok (.getfield 12, 3) := by decide +kernel
theorem dX3_barBoth_39 : decode cX3_barBoth 39 = .ok (.invokevirtual 57, 3) := by decide +kernel
theorem dX3_barBoth_42 : decode cX3_barBoth 42 = .ok (.ireturn, 1) := by decide +kernel
set_option maxRecDepth 20000 in
theorem ggX3_give_X3_needCell : GoodIn wsX3_give wsX3_needCell := goodIn_ca (goodIn_r _ [10, 11, 12, 5, 13, 14, 15, 16, 17, 18, 37, 38, 39, 40, 41, 42, 43, 44, 45, 46, 47, 48] (by decide +kernel) (by decide +kernel)) (goodIn_sub (fun _ h => List.mem_cons_of_mem _ (List.mem_append_right _ h)) (by decide +kernel))
set_option maxRecDepth 20000 in
theorem gX3_give_X3_needCell : GoodIn wsX3_give (wsV RX3 43 RX3 yX3_needCell wsX3_needCell) := goodIn_app (goodIn_of _ (by decide +kernel)) ggX3_give_X3_needCell
set_option maxRecDepth 20000 in
theorem ggX3_give_X0_isOpen : GoodIn wsX3_give wsX0_isOpen := goodIn_r _ [22, 23, 24, 14, 15, 16, 17, 18, 25, 9, 26, 40, 41, 42, 43, 44, 45, 46, 47, 48] (by decide +kernel) (by decide +kernel)
set_option maxRecDepth 20000 in
theorem gX3_give_X0_isOpen : GoodIn wsX3_give (wsV RX3 49 RX0 yX0_isOpen wsX0_isOpen) := goodIn_app (goodIn_of _ (by decide +kernel)) ggX3_give_X0_isOpen
set_option maxRecDepth 20000 in
theorem ggX3_give_X0_givenAt : GoodIn wsX3_give wsX0_givenAt := goodIn_r _ [30, 23, 25, 9, 26, 40, 41, 42, 43, 44, 45, 46, 47, 48] (by decide +kernel) (by decide +kernel)
set_option maxRecDepth 20000 in
theorem gX3_give_X0_givenAt : GoodIn wsX3_give (wsV RX3 68 RX0 yX0_givenAt wsX0_givenAt) := goodIn_app (goodIn_of _ (by decide +kernel)) ggX3_give_X0_givenAt
set_option maxRecDepth 20000 in
theorem ggX3_give_X0_putGiven : GoodIn wsX3_give wsX0_putGiven := goodIn_r _ [34, 23, 35, 9, 36, 40, 41, 42, 43, 44, 45, 46, 47, 48] (by decide +kernel) (by decide +kernel)
set_option maxRecDepth 20000 in
theorem gX3_give_X0_putGiven : GoodIn wsX3_give (wsV RX3 71 RX0 yX0_putGiven wsX0_putGiven) := goodIn_app (goodIn_of _ (by decide +kernel)) ggX3_give_X0_putGiven
theorem dX3_give_0 : decode cX3_give 0 = .ok (.aload_n 0, 1) := by decide +kernel
theorem dX3_give_1 : decode cX3_give 1 = .ok (.iload_n 1, 1) := by decide +kernel
theorem dX3_give_2 : decode cX3_give 2 = .ok (.invokevirtual 43, 3) := by decide +kernel
theorem dX3_give_5 : decode cX3_give 5 = .ok (.iload_n 2, 1) := by decide +kernel
theorem dX3_give_6 : decode cX3_give 6 = .ok (.ifCond .lt 9, 3) := by decide +kernel
theorem dX3_give_9 : decode cX3_give 9 = .ok (.iload_n 2, 1) := by decide +kernel
theorem dX3_give_10 : decode cX3_give 10 = .ok (.bipush 9, 2) := by decide +kernel
theorem dX3_give_12 : decode cX3_give 12 = .ok (.if_icmp .le 13, 3) := by decide +kernel
theorem dX3_give_15 : decode cX3_give 15 = .ok (.new 36, 3) := by decide +kernel
theorem dX3_give_18 : decode cX3_give 18 = .ok (.dup, 1) := by decide +kernel
theorem dX3_give_19 : decode cX3_give 19 = .ok (.ldc 61, 2) := by decide +kernel
theorem dX3_give_21 : decode cX3_give 21 = .ok (.invokespecial 40, 3) := by decide +kernel
theorem dX3_give_24 : decode cX3_give 24 = .ok (.athrow, 1) := by decide +kernel
theorem dX3_give_25 : decode cX3_give 25 = .ok (.aload_n 0, 1) := by decide +kernel
theorem dX3_give_26 : decode cX3_give 26 = .ok (.getfield 12, 3) := by decide +kernel
theorem dX3_give_29 : decode cX3_give 29 = .ok (.iload_n 1, 1) := by decide +kernel
theorem dX3_give_30 : decode cX3_give 30 = .ok (.invokevirtual 49, 3) := by decide +kernel
theorem dX3_give_33 : decode cX3_give 33 = .ok (.ifCond .ne 13, 3) := by decide +kernel
theorem dX3_give_36 : decode cX3_give 36 = .ok (.new 63, 3) := by decide +kernel
theorem dX3_give_39 : decode cX3_give 39 = .ok (.dup, 1) := by decide +kernel
theorem dX3_give_40 : decode cX3_give 40 = .ok (.ldc 65, 2) := by decide +kernel
theorem dX3_give_42 : decode cX3_give 42 = .ok (.invokespecial 67, 3) := by decide +kernel
theorem dX3_give_45 : decode cX3_give 45 = .ok (.athrow, 1) := by decide +kernel
theorem dX3_give_46 : decode cX3_give 46 = .ok (.aload_n 0, 1) := by decide +kernel
theorem dX3_give_47 : decode cX3_give 47 = .ok (.getfield 12, 3) := by decide +kernel
theorem dX3_give_50 : decode cX3_give 50 = .ok (.iload_n 1, 1) := by decide +kernel
theorem dX3_give_51 : decode cX3_give 51 = .ok (.invokevirtual 68, 3) := by decide +kernel
theorem dX3_give_54 : decode cX3_give 54 = .ok (.istore_n 3, 1) := by decide +kernel
theorem dX3_give_55 : decode cX3_give 55 = .ok (.aload_n 0, 1) := by decide +kernel
theorem dX3_give_56 : decode cX3_give 56 = .ok (.getfield 12, 3) := by decide +kernel
theorem dX3_give_59 : decode cX3_give 59 = .ok (.iload_n 1, 1) := by decide +kernel
theorem dX3_give_60 : decode cX3_give 60 = .ok (.iload_n 2, 1) := by decide +kernel
theorem dX3_give_61 : decode cX3_give 61 = .ok (.invokevirtual 71, 3) := by decide +kernel
theorem dX3_give_64 : decode cX3_give 64 = .ok (.iload_n 3, 1) := by decide +kernel
theorem dX3_give_65 : decode cX3_give 65 = .ok (.ireturn, 1) := by decide +kernel
set_option maxRecDepth 20000 in
theorem ggX3_setSum_X3_needRun : GoodIn wsX3_setSum wsX3_needRun := goodIn_ca (goodIn_r _ [8, 9, 10, 3, 11, 12, 13, 14, 15, 16, 30, 31, 32, 33, 34, 35, 36, 37, 38, 39, 40, 41] (by decide +kernel) (by decide +kernel)) (goodIn_sub (fun _ h => List.mem_cons_of_mem _ (List.mem_append_right _ h)) (by decide +kernel))
set_option maxRecDepth 20000 in
theorem gX3_setSum_X3_needRun : GoodIn wsX3_setSum (wsV RX3 75 RX3 yX3_needRun wsX3_needRun) := goodIn_app (goodIn_of _ (by decide +kernel)) ggX3_setSum_X3_needRun
set_option maxRecDepth 20000 in
theorem ggX3_setSum_X0_sumAt : GoodIn wsX3_setSum wsX0_sumAt := goodIn_r _ [20, 21, 22, 7, 23, 33, 34, 35, 36, 37, 38, 39, 40, 41] (by decide +kernel) (by decide +kernel)
set_option maxRecDepth 20000 in
theorem gX3_setSum_X0_sumAt : GoodIn wsX3_setSum (wsV RX3 80 RX0 yX0_sumAt wsX0_sumAt) := goodIn_app (goodIn_of _ (by decide +kernel)) ggX3_setSum_X0_sumAt
set_option maxRecDepth 20000 in
theorem ggX3_setSum_X0_putSum : GoodIn wsX3_setSum wsX0_putSum := goodIn_r _ [27, 21, 28, 7, 29, 33, 34, 35, 36, 37, 38, 39, 40, 41] (by decide +kernel) (by decide +kernel)
set_option maxRecDepth 20000 in
theorem gX3_setSum_X0_putSum : GoodIn wsX3_setSum (wsV RX3 83 RX0 yX0_putSum wsX0_putSum) := goodIn_app (goodIn_of _ (by decide +kernel)) ggX3_setSum_X0_putSum
theorem dX3_setSum_0 : decode cX3_setSum 0 = .ok (.aload_n 0, 1) := by decide +kernel
theorem dX3_setSum_1 : decode cX3_setSum 1 = .ok (.iload_n 1, 1) := by decide +kernel
theorem dX3_setSum_2 : decode cX3_setSum 2 = .ok (.invokevirtual 75, 3) := by decide +kernel
theorem dX3_setSum_5 : decode cX3_setSum 5 = .ok (.iload_n 2, 1) := by decide +kernel
theorem dX3_setSum_6 : decode cX3_setSum 6 = .ok (.ifCond .lt 9, 3) := by decide +kernel
theorem dX3_setSum_9 : decode cX3_setSum 9 = .ok (.iload_n 2, 1) := by decide +kernel
theorem dX3_setSum_10 : decode cX3_setSum 10 = .ok (.bipush 45, 2) := by decide +kernel
theorem dX3_setSum_12 : decode cX3_setSum 12 = .ok (.if_icmp .le 13, 3) := by decide +kernel
theorem dX3_setSum_15 : decode cX3_setSum 15 = .ok (.new 36, 3) := by decide +kernel
theorem dX3_setSum_18 : decode cX3_setSum 18 = .ok (.dup, 1) := by decide +kernel
theorem dX3_setSum_19 : decode cX3_setSum 19 = .ok (.ldc 78, 2) := by decide +kernel
theorem dX3_setSum_21 : decode cX3_setSum 21 = .ok (.invokespecial 40, 3) := by decide +kernel
theorem dX3_setSum_24 : decode cX3_setSum 24 = .ok (.athrow, 1) := by decide +kernel
theorem dX3_setSum_25 : decode cX3_setSum 25 = .ok (.aload_n 0, 1) := by decide +kernel
theorem dX3_setSum_26 : decode cX3_setSum 26 = .ok (.getfield 12, 3) := by decide +kernel
theorem dX3_setSum_29 : decode cX3_setSum 29 = .ok (.iload_n 1, 1) := by decide +kernel
theorem dX3_setSum_30 : decode cX3_setSum 30 = .ok (.invokevirtual 80, 3) := by decide +kernel
theorem dX3_setSum_33 : decode cX3_setSum 33 = .ok (.istore_n 3, 1) := by decide +kernel
theorem dX3_setSum_34 : decode cX3_setSum 34 = .ok (.aload_n 0, 1) := by decide +kernel
theorem dX3_setSum_35 : decode cX3_setSum 35 = .ok (.getfield 12, 3) := by decide +kernel
theorem dX3_setSum_38 : decode cX3_setSum 38 = .ok (.iload_n 1, 1) := by decide +kernel
theorem dX3_setSum_39 : decode cX3_setSum 39 = .ok (.iload_n 2, 1) := by decide +kernel
theorem dX3_setSum_40 : decode cX3_setSum 40 = .ok (.invokevirtual 83, 3) := by decide +kernel
theorem dX3_setSum_43 : decode cX3_setSum 43 = .ok (.iload_n 3, 1) := by decide +kernel
theorem dX3_setSum_44 : decode cX3_setSum 44 = .ok (.ireturn, 1) := by decide +kernel
set_option maxRecDepth 20000 in
theorem ggX3_press_X0_isFilled : GoodIn wsX3_press wsX0_isFilled := goodIn_r _ [8, 9, 10, 11, 7, 12, 13, 14, 15, 16, 17, 18, 19, 20, 21, 22, 23, 24, 25, 68, 69, 70, 71, 72, 73, 74, 75, 76] (by decide +kernel) (by decide +kernel)
set_option maxRecDepth 20000 in
theorem gX3_press_X0_isFilled : GoodIn wsX3_press (wsV RX3 86 RX0 yX0_isFilled wsX0_isFilled) := goodIn_app (goodIn_of _ (by decide +kernel)) ggX3_press_X0_isFilled
set_option maxRecDepth 20000 in
theorem ggX3_press_X0_givesTwice : GoodIn wsX3_press wsX0_givesTwice := goodIn_r _ [29, 30, 17, 31, 32, 33, 7, 34, 35, 36, 37, 38, 39, 23, 24, 25, 40, 41, 42, 43, 44, 45, 68, 69, 70, 71, 72, 73, 74, 75, 76] (by decide +kernel) (by decide +kernel)
set_option maxRecDepth 20000 in
theorem gX3_press_X0_givesTwice : GoodIn wsX3_press (wsV RX3 92 RX0 yX0_givesTwice wsX0_givesTwice) := goodIn_app (goodIn_of _ (by decide +kernel)) ggX3_press_X0_givesTwice
set_option maxRecDepth 20000 in
theorem ggX3_press_X0_sumAndEmpty : GoodIn wsX3_press wsX0_sumAndEmpty := goodIn_r _ [49, 30, 50, 17, 51, 52, 53, 7, 54, 35, 36, 37, 38, 39, 23, 24, 25, 40, 41, 42, 43, 44, 45, 55, 56, 57, 58, 59, 60, 18, 19, 20, 21, 22, 68, 69, 70, 71, 72, 73, 74, 75, 76] (by decide +kernel) (by decide +kernel)
set_option maxRecDepth 20000 in
theorem gX3_press_X0_sumAndEmpty : GoodIn wsX3_press (wsV RX3 97 RX0 yX0_sumAndEmpty wsX0_sumAndEmpty) := goodIn_app (goodIn_of _ (by decide +kernel)) ggX3_press_X0_sumAndEmpty
set_option maxRecDepth 20000 in
theorem ggX3_press_X0_countRuns : GoodIn wsX3_press wsX0_countRuns := goodIn_r _ [64, 30, 68, 69, 70, 71, 72, 73, 74, 75, 76] (by decide +kernel) (by decide +kernel)
set_option maxRecDepth 20000 in
theorem gX3_press_X0_countRuns : GoodIn wsX3_press (wsV RX3 100 RX0 yX0_countRuns wsX0_countRuns) := goodIn_app (goodIn_of _ (by decide +kernel)) ggX3_press_X0_countRuns
theorem dX3_press_0 : decode cX3_press 0 = .ok (.aload_n 0, 1) := by decide +kernel
theorem dX3_press_1 : decode cX3_press 1 = .ok (.getfield 12, 3) := by decide +kernel
theorem dX3_press_4 : decode cX3_press 4 = .ok (.invokevirtual 86, 3) := by decide +kernel
theorem dX3_press_7 : decode cX3_press 7 = .ok (.ifCond .ne 13, 3) := by decide +kernel
theorem dX3_press_10 : decode cX3_press 10 = .ok (.new 63, 3) := by decide +kernel
theorem dX3_press_13 : decode cX3_press 13 = .ok (.dup, 1) := by decide +kernel
theorem dX3_press_14 : decode cX3_press 14 = .ok (.ldc 90, 2) := by decide +kernel
theorem dX3_press_16 : decode cX3_press 16 = .ok (.invokespecial 67, 3) := by decide +kernel
theorem dX3_press_19 : decode cX3_press 19 = .ok (.athrow, 1) := by decide +kernel
theorem dX3_press_20 : decode cX3_press 20 = .ok (.aload_n 0, 1) := by decide +kernel
theorem dX3_press_21 : decode cX3_press 21 = .ok (.getfield 12, 3) := by decide +kernel
theorem dX3_press_24 : decode cX3_press 24 = .ok (.invokevirtual 92, 3) := by decide +kernel
theorem dX3_press_27 : decode cX3_press 27 = .ok (.ifCond .eq 13, 3) := by decide +kernel
theorem dX3_press_30 : decode cX3_press 30 = .ok (.new 63, 3) := by decide +kernel
theorem dX3_press_33 : decode cX3_press 33 = .ok (.dup, 1) := by decide +kernel
theorem dX3_press_34 : decode cX3_press 34 = .ok (.ldc 95, 2) := by decide +kernel
theorem dX3_press_36 : decode cX3_press 36 = .ok (.invokespecial 67, 3) := by decide +kernel
theorem dX3_press_39 : decode cX3_press 39 = .ok (.athrow, 1) := by decide +kernel
theorem dX3_press_40 : decode cX3_press 40 = .ok (.aload_n 0, 1) := by decide +kernel
theorem dX3_press_41 : decode cX3_press 41 = .ok (.getfield 12, 3) := by decide +kernel
theorem dX3_press_44 : decode cX3_press 44 = .ok (.invokevirtual 97, 3) := by decide +kernel
theorem dX3_press_47 : decode cX3_press 47 = .ok (.aload_n 0, 1) := by decide +kernel
theorem dX3_press_48 : decode cX3_press 48 = .ok (.getfield 12, 3) := by decide +kernel
theorem dX3_press_51 : decode cX3_press 51 = .ok (.invokevirtual 100, 3) := by decide +kernel
theorem dX3_press_54 : decode cX3_press 54 = .ok (.ireturn, 1) := by decide +kernel
set_option maxRecDepth 20000 in
theorem ggX3_open_X0_countOpen : GoodIn wsX3_open wsX0_countOpen := goodIn_r _ [6, 7, 8, 9, 5, 10, 11, 12, 13, 14, 15, 16, 17, 18, 19, 23, 24, 25, 26, 27, 28, 29, 30, 31] (by decide +kernel) (by decide +kernel)
set_option maxRecDepth 20000 in
theorem gX3_open_X0_countOpen : GoodIn wsX3_open (wsV RX3 103 RX0 yX0_countOpen wsX0_countOpen) := goodIn_app (goodIn_of _ (by decide +kernel)) ggX3_open_X0_countOpen
theorem dX3_open_0 : decode cX3_open 0 = .ok (.aload_n 0, 1) := by decide +kernel
theorem dX3_open_1 : decode cX3_open 1 = .ok (.getfield 12, 3) := by decide +kernel
theorem dX3_open_4 : decode cX3_open 4 = .ok (.invokevirtual 103, 3) := by decide +kernel
theorem dX3_open_7 : decode cX3_open 7 = .ok (.ireturn, 1) := by decide +kernel
set_option maxRecDepth 20000 in
theorem ggX3_runs_X0_countRuns : GoodIn wsX3_runs wsX0_countRuns := goodIn_r _ [6, 7, 11, 12, 13, 14, 15, 16, 17, 18, 19] (by decide +kernel) (by decide +kernel)
set_option maxRecDepth 20000 in
theorem gX3_runs_X0_countRuns : GoodIn wsX3_runs (wsV RX3 100 RX0 yX0_countRuns wsX0_countRuns) := goodIn_app (goodIn_of _ (by decide +kernel)) ggX3_runs_X0_countRuns
theorem dX3_runs_0 : decode cX3_runs 0 = .ok (.aload_n 0, 1) := by decide +kernel
theorem dX3_runs_1 : decode cX3_runs 1 = .ok (.getfield 12, 3) := by decide +kernel
theorem dX3_runs_4 : decode cX3_runs 4 = .ok (.invokevirtual 100, 3) := by decide +kernel
theorem dX3_runs_7 : decode cX3_runs 7 = .ok (.ireturn, 1) := by decide +kernel
set_option maxRecDepth 20000 in
theorem ggX3_firstOf_X3_needRun : GoodIn wsX3_firstOf wsX3_needRun := goodIn_ca (goodIn_r _ [6, 7, 8, 1, 9, 10, 11, 12, 13, 14, 22, 23, 24, 25, 26, 27, 28, 29, 30, 31, 32, 33] (by decide +kernel) (by decide +kernel)) (goodIn_sub (fun _ h => List.mem_cons_of_mem _ (List.mem_append_right _ h)) (by decide +kernel))
set_option maxRecDepth 20000 in
theorem gX3_firstOf_X3_needRun : GoodIn wsX3_firstOf (wsV RX3 75 RX3 yX3_needRun wsX3_needRun) := goodIn_app (goodIn_of _ (by decide +kernel)) ggX3_firstOf_X3_needRun
set_option maxRecDepth 20000 in
theorem ggX3_firstOf_X0_firstAt : GoodIn wsX3_firstOf wsX0_firstAt := goodIn_r _ [18, 19, 20, 5, 21, 25, 26, 27, 28, 29, 30, 31, 32, 33] (by decide +kernel) (by decide +kernel)
set_option maxRecDepth 20000 in
theorem gX3_firstOf_X0_firstAt : GoodIn wsX3_firstOf (wsV RX3 106 RX0 yX0_firstAt wsX0_firstAt) := goodIn_app (goodIn_of _ (by decide +kernel)) ggX3_firstOf_X0_firstAt
theorem dX3_firstOf_0 : decode cX3_firstOf 0 = .ok (.aload_n 0, 1) := by decide +kernel
theorem dX3_firstOf_1 : decode cX3_firstOf 1 = .ok (.iload_n 1, 1) := by decide +kernel
theorem dX3_firstOf_2 : decode cX3_firstOf 2 = .ok (.invokevirtual 75, 3) := by decide +kernel
theorem dX3_firstOf_5 : decode cX3_firstOf 5 = .ok (.aload_n 0, 1) := by decide +kernel
theorem dX3_firstOf_6 : decode cX3_firstOf 6 = .ok (.getfield 12, 3) := by decide +kernel
theorem dX3_firstOf_9 : decode cX3_firstOf 9 = .ok (.iload_n 1, 1) := by decide +kernel
theorem dX3_firstOf_10 : decode cX3_firstOf 10 = .ok (.invokevirtual 106, 3) := by decide +kernel
theorem dX3_firstOf_13 : decode cX3_firstOf 13 = .ok (.ireturn, 1) := by decide +kernel
set_option maxRecDepth 20000 in
theorem ggX3_lengthOf_X3_needRun : GoodIn wsX3_lengthOf wsX3_needRun := goodIn_ca (goodIn_r _ [6, 7, 8, 1, 9, 10, 11, 12, 13, 14, 22, 23, 24, 25, 26, 27, 28, 29, 30, 31, 32, 33] (by decide +kernel) (by decide +kernel)) (goodIn_sub (fun _ h => List.mem_cons_of_mem _ (List.mem_append_right _ h)) (by decide +kernel))
set_option maxRecDepth 20000 in
theorem gX3_lengthOf_X3_needRun : GoodIn wsX3_lengthOf (wsV RX3 75 RX3 yX3_needRun wsX3_needRun) := goodIn_app (goodIn_of _ (by decide +kernel)) ggX3_lengthOf_X3_needRun
set_option maxRecDepth 20000 in
theorem ggX3_lengthOf_X0_lengthAt : GoodIn wsX3_lengthOf wsX0_lengthAt := goodIn_r _ [18, 19, 20, 5, 21, 25, 26, 27, 28, 29, 30, 31, 32, 33] (by decide +kernel) (by decide +kernel)
set_option maxRecDepth 20000 in
theorem gX3_lengthOf_X0_lengthAt : GoodIn wsX3_lengthOf (wsV RX3 109 RX0 yX0_lengthAt wsX0_lengthAt) := goodIn_app (goodIn_of _ (by decide +kernel)) ggX3_lengthOf_X0_lengthAt
theorem dX3_lengthOf_0 : decode cX3_lengthOf 0 = .ok (.aload_n 0, 1) := by decide +kernel
theorem dX3_lengthOf_1 : decode cX3_lengthOf 1 = .ok (.iload_n 1, 1) := by decide +kernel
theorem dX3_lengthOf_2 : decode cX3_lengthOf 2 = .ok (.invokevirtual 75, 3) := by decide +kernel
theorem dX3_lengthOf_5 : decode cX3_lengthOf 5 = .ok (.aload_n 0, 1) := by decide +kernel
theorem dX3_lengthOf_6 : decode cX3_lengthOf 6 = .ok (.getfield 12, 3) := by decide +kernel
theorem dX3_lengthOf_9 : decode cX3_lengthOf 9 = .ok (.iload_n 1, 1) := by decide +kernel
theorem dX3_lengthOf_10 : decode cX3_lengthOf 10 = .ok (.invokevirtual 109, 3) := by decide +kernel
theorem dX3_lengthOf_13 : decode cX3_lengthOf 13 = .ok (.ireturn, 1) := by decide +kernel
set_option maxRecDepth 20000 in
theorem ggX3_sumOf_X3_needRun : GoodIn wsX3_sumOf wsX3_needRun := goodIn_ca (goodIn_r _ [6, 7, 8, 1, 9, 10, 11, 12, 13, 14, 22, 23, 24, 25, 26, 27, 28, 29, 30, 31, 32, 33] (by decide +kernel) (by decide +kernel)) (goodIn_sub (fun _ h => List.mem_cons_of_mem _ (List.mem_append_right _ h)) (by decide +kernel))
set_option maxRecDepth 20000 in
theorem gX3_sumOf_X3_needRun : GoodIn wsX3_sumOf (wsV RX3 75 RX3 yX3_needRun wsX3_needRun) := goodIn_app (goodIn_of _ (by decide +kernel)) ggX3_sumOf_X3_needRun
set_option maxRecDepth 20000 in
theorem ggX3_sumOf_X0_sumAt : GoodIn wsX3_sumOf wsX0_sumAt := goodIn_r _ [18, 19, 20, 5, 21, 25, 26, 27, 28, 29, 30, 31, 32, 33] (by decide +kernel) (by decide +kernel)
set_option maxRecDepth 20000 in
theorem gX3_sumOf_X0_sumAt : GoodIn wsX3_sumOf (wsV RX3 80 RX0 yX0_sumAt wsX0_sumAt) := goodIn_app (goodIn_of _ (by decide +kernel)) ggX3_sumOf_X0_sumAt
theorem dX3_sumOf_0 : decode cX3_sumOf 0 = .ok (.aload_n 0, 1) := by decide +kernel
theorem dX3_sumOf_1 : decode cX3_sumOf 1 = .ok (.iload_n 1, 1) := by decide +kernel
theorem dX3_sumOf_2 : decode cX3_sumOf 2 = .ok (.invokevirtual 75, 3) := by decide +kernel
theorem dX3_sumOf_5 : decode cX3_sumOf 5 = .ok (.aload_n 0, 1) := by decide +kernel
theorem dX3_sumOf_6 : decode cX3_sumOf 6 = .ok (.getfield 12, 3) := by decide +kernel
theorem dX3_sumOf_9 : decode cX3_sumOf 9 = .ok (.iload_n 1, 1) := by decide +kernel
theorem dX3_sumOf_10 : decode cX3_sumOf 10 = .ok (.invokevirtual 80, 3) := by decide +kernel
theorem dX3_sumOf_13 : decode cX3_sumOf 13 = .ok (.ireturn, 1) := by decide +kernel
set_option maxRecDepth 20000 in
theorem ggX3_digit_X3_needCell : GoodIn wsX3_digit wsX3_needCell := goodIn_ca (goodIn_r _ [6, 7, 8, 1, 9, 10, 11, 12, 13, 14, 22, 23, 24, 25, 26, 27, 28, 29, 30, 31, 32, 33] (by decide +kernel) (by decide +kernel)) (goodIn_sub (fun _ h => List.mem_cons_of_mem _ (List.mem_append_right _ h)) (by decide +kernel))
set_option maxRecDepth 20000 in
theorem gX3_digit_X3_needCell : GoodIn wsX3_digit (wsV RX3 43 RX3 yX3_needCell wsX3_needCell) := goodIn_app (goodIn_of _ (by decide +kernel)) ggX3_digit_X3_needCell
set_option maxRecDepth 20000 in
theorem ggX3_digit_X0_givenAt : GoodIn wsX3_digit wsX0_givenAt := goodIn_r _ [18, 19, 20, 5, 21, 25, 26, 27, 28, 29, 30, 31, 32, 33] (by decide +kernel) (by decide +kernel)
set_option maxRecDepth 20000 in
theorem gX3_digit_X0_givenAt : GoodIn wsX3_digit (wsV RX3 68 RX0 yX0_givenAt wsX0_givenAt) := goodIn_app (goodIn_of _ (by decide +kernel)) ggX3_digit_X0_givenAt
theorem dX3_digit_0 : decode cX3_digit 0 = .ok (.aload_n 0, 1) := by decide +kernel
theorem dX3_digit_1 : decode cX3_digit 1 = .ok (.iload_n 1, 1) := by decide +kernel
theorem dX3_digit_2 : decode cX3_digit 2 = .ok (.invokevirtual 43, 3) := by decide +kernel
theorem dX3_digit_5 : decode cX3_digit 5 = .ok (.aload_n 0, 1) := by decide +kernel
theorem dX3_digit_6 : decode cX3_digit 6 = .ok (.getfield 12, 3) := by decide +kernel
theorem dX3_digit_9 : decode cX3_digit 9 = .ok (.iload_n 1, 1) := by decide +kernel
theorem dX3_digit_10 : decode cX3_digit 10 = .ok (.invokevirtual 68, 3) := by decide +kernel
theorem dX3_digit_13 : decode cX3_digit 13 = .ok (.ireturn, 1) := by decide +kernel
set_option maxRecDepth 20000 in
theorem ggX3_answers_X2_find : GoodIn wsX3_answers wsX2_find := goodIn_r _ [8, 9, 10, 11, 12, 13, 14, 15, 7, 16, 17, 18, 19, 20, 21, 22, 23, 24, 25, 26, 27, 28, 29, 30, 31, 32, 33, 34, 35, 36, 37, 38, 39, 40, 41, 42, 43, 44, 45, 46, 47, 48, 49, 50, 51, 52, 53, 54, 55, 56, 57, 58, 59, 60, 61, 62, 63, 64, 65, 66, 67, 68, 69, 70, 71, 72, 73, 74, 75, 76, 77, 78, 79, 80, 81, 82, 83, 84, 85, 86, 87, 88, 89, 90, 91, 92, 93, 94, 95, 96, 97, 98, 99, 100, 104, 105, 106, 107, 108, 109, 110, 111, 112, 113, 114, 115, 116, 117, 118] (by decide +kernel) (by decide +kernel)
set_option maxRecDepth 20000 in
theorem gX3_answers_X2_find : GoodIn wsX3_answers (wsV RX3 114 RX2 yX2_find wsX2_find) := goodIn_app (goodIn_of _ (by decide +kernel)) ggX3_answers_X2_find
theorem dX3_answers_0 : decode cX3_answers 0 = .ok (.iload_n 1, 1) := by decide +kernel
theorem dX3_answers_1 : decode cX3_answers 1 = .ok (.iconst 1, 1) := by decide +kernel
theorem dX3_answers_2 : decode cX3_answers 2 = .ok (.if_icmp .lt 8, 3) := by decide +kernel
theorem dX3_answers_5 : decode cX3_answers 5 = .ok (.iload_n 1, 1) := by decide +kernel
theorem dX3_answers_6 : decode cX3_answers 6 = .ok (.iconst 5, 1) := by decide +kernel
theorem dX3_answers_7 : decode cX3_answers 7 = .ok (.if_icmp .le 13, 3) := by decide +kernel
theorem dX3_answers_10 : decode cX3_answers 10 = .ok (.new 36, 3) := by decide +kernel
theorem dX3_answers_13 : decode cX3_answers 13 = .ok (.dup, 1) := by decide +kernel
theorem dX3_answers_14 : decode cX3_answers 14 = .ok (.ldc 112, 2) := by decide +kernel
theorem dX3_answers_16 : decode cX3_answers 16 = .ok (.invokespecial 40, 3) := by decide +kernel
theorem dX3_answers_19 : decode cX3_answers 19 = .ok (.athrow, 1) := by decide +kernel
theorem dX3_answers_20 : decode cX3_answers 20 = .ok (.aload_n 0, 1) := by decide +kernel
theorem dX3_answers_21 : decode cX3_answers 21 = .ok (.getfield 21, 3) := by decide +kernel
theorem dX3_answers_24 : decode cX3_answers 24 = .ok (.iload_n 1, 1) := by decide +kernel
theorem dX3_answers_25 : decode cX3_answers 25 = .ok (.invokevirtual 114, 3) := by decide +kernel
theorem dX3_answers_28 : decode cX3_answers 28 = .ok (.ireturn, 1) := by decide +kernel
set_option maxRecDepth 20000 in
theorem ggX3_answersByAll_X0_countBlanks : GoodIn wsX3_answersByAll wsX0_countBlanks := goodIn_r _ [9, 10, 11, 12, 8, 13, 14, 15, 16, 17, 18, 19, 20, 21, 22, 84, 85, 86, 87, 88, 89, 90, 91, 92] (by decide +kernel) (by decide +kernel)
set_option maxRecDepth 20000 in
theorem gX3_answersByAll_X0_countBlanks : GoodIn wsX3_answersByAll (wsV RX3 117 RX0 yX0_countBlanks wsX0_countBlanks) := goodIn_app (goodIn_of _ (by decide +kernel)) ggX3_answersByAll_X0_countBlanks
set_option maxRecDepth 20000 in
theorem ggX3_answersByAll_X2_countByAll : GoodIn wsX3_answersByAll wsX2_countByAll := goodIn_r _ [27, 28, 29, 30, 31, 32, 33, 26, 34, 35, 36, 37, 21, 38, 39, 40, 41, 8, 42, 14, 15, 16, 17, 18, 19, 20, 22, 43, 44, 45, 46, 47, 11, 12, 13, 48, 49, 50, 51, 52, 53, 54, 55, 56, 57, 58, 59, 60, 61, 62, 63, 64, 65, 66, 67, 68, 69, 70, 71, 72, 73, 74, 75, 76, 77, 78, 79, 80, 93, 94, 95, 96, 97, 98, 84, 85, 86, 87, 88, 89, 90, 91, 92] (by decide +kernel) (by decide +kernel)
set_option maxRecDepth 20000 in
theorem gX3_answersByAll_X2_countByAll : GoodIn wsX3_answersByAll (wsV RX3 122 RX2 yX2_countByAll wsX2_countByAll) := goodIn_app (goodIn_of _ (by decide +kernel)) ggX3_answersByAll_X2_countByAll
theorem dX3_answersByAll_0 : decode cX3_answersByAll 0 = .ok (.aload_n 0, 1) := by decide +kernel
theorem dX3_answersByAll_1 : decode cX3_answersByAll 1 = .ok (.getfield 12, 3) := by decide +kernel
theorem dX3_answersByAll_4 : decode cX3_answersByAll 4 = .ok (.invokevirtual 117, 3) := by decide +kernel
theorem dX3_answersByAll_7 : decode cX3_answersByAll 7 = .ok (.iconst 4, 1) := by decide +kernel
theorem dX3_answersByAll_8 : decode cX3_answersByAll 8 = .ok (.if_icmp .le 13, 3) := by decide +kernel
theorem dX3_answersByAll_11 : decode cX3_answersByAll 11 = .ok (.new 63, 3) := by decide +kernel
theorem dX3_answersByAll_14 : decode cX3_answersByAll 14 = .ok (.dup, 1) := by decide +kernel
theorem dX3_answersByAll_15 : decode cX3_answersByAll 15 = .ok (.ldc 120, 2) := by decide +kernel
theorem dX3_answersByAll_17 : decode cX3_answersByAll 17 = .ok (.invokespecial 67, 3) := by decide +kernel
theorem dX3_answersByAll_20 : decode cX3_answersByAll 20 = .ok (.athrow, 1) := by decide +kernel
theorem dX3_answersByAll_21 : decode cX3_answersByAll 21 = .ok (.aload_n 0, 1) := by decide +kernel
theorem dX3_answersByAll_22 : decode cX3_answersByAll 22 = .ok (.getfield 21, 3) := by decide +kernel
theorem dX3_answersByAll_25 : decode cX3_answersByAll 25 = .ok (.invokevirtual 122, 3) := by decide +kernel
theorem dX3_answersByAll_28 : decode cX3_answersByAll 28 = .ok (.ireturn, 1) := by decide +kernel
set_option maxRecDepth 20000 in
theorem ggX3_mend_X2_find : GoodIn wsX3_mend wsX2_find := goodIn_r _ [9, 10, 11, 12, 13, 14, 15, 16, 8, 17, 18, 19, 20, 21, 22, 23, 24, 25, 26, 27, 28, 29, 30, 31, 32, 33, 34, 35, 36, 37, 38, 39, 40, 41, 42, 43, 44, 45, 46, 47, 48, 49, 50, 51, 52, 53, 54, 55, 56, 57, 58, 59, 60, 61, 62, 63, 64, 65, 66, 67, 68, 69, 70, 71, 72, 73, 74, 75, 76, 77, 78, 79, 80, 81, 82, 83, 84, 85, 86, 87, 88, 89, 90, 91, 92, 93, 94, 95, 96, 97, 98, 99, 100, 101, 117, 118, 119, 120, 121, 122, 123, 124, 125, 126, 127, 128, 129, 130, 131] (by decide +kernel) (by decide +kernel)
set_option maxRecDepth 20000 in
theorem gX3_mend_X2_find : GoodIn wsX3_mend (wsV RX3 114 RX2 yX2_find wsX2_find) := goodIn_app (goodIn_of _ (by decide +kernel)) ggX3_mend_X2_find
set_option maxRecDepth 20000 in
theorem ggX3_mend_X2_firstUnlike : GoodIn wsX3_mend wsX2_firstUnlike := goodIn_r _ [105, 97, 12, 33, 20, 34, 117, 118, 119, 120, 121, 122] (by decide +kernel) (by decide +kernel)
set_option maxRecDepth 20000 in
theorem gX3_mend_X2_firstUnlike : GoodIn wsX3_mend (wsV RX3 127 RX2 yX2_firstUnlike wsX2_firstUnlike) := goodIn_app (goodIn_of _ (by decide +kernel)) ggX3_mend_X2_firstUnlike
set_option maxRecDepth 20000 in
theorem ggX3_mend_X2_firstAnswerAt : GoodIn wsX3_mend wsX2_firstAnswerAt := goodIn_r _ [109, 97, 33, 20, 34, 117, 118, 119, 120, 121, 122] (by decide +kernel) (by decide +kernel)
set_option maxRecDepth 20000 in
theorem gX3_mend_X2_firstAnswerAt : GoodIn wsX3_mend (wsV RX3 130 RX2 yX2_firstAnswerAt wsX2_firstAnswerAt) := goodIn_app (goodIn_of _ (by decide +kernel)) ggX3_mend_X2_firstAnswerAt
set_option maxRecDepth 20000 in
theorem ggX3_mend_X0_putGiven : GoodIn wsX3_mend wsX0_putGiven := goodIn_r _ [113, 27, 19, 20, 21, 123, 124, 125, 126, 127, 128, 129, 130, 131] (by decide +kernel) (by decide +kernel)
set_option maxRecDepth 20000 in
theorem gX3_mend_X0_putGiven : GoodIn wsX3_mend (wsV RX3 71 RX0 yX0_putGiven wsX0_putGiven) := goodIn_app (goodIn_of _ (by decide +kernel)) ggX3_mend_X0_putGiven
theorem dX3_mend_0 : decode cX3_mend 0 = .ok (.aload_n 0, 1) := by decide +kernel
theorem dX3_mend_1 : decode cX3_mend 1 = .ok (.getfield 21, 3) := by decide +kernel
theorem dX3_mend_4 : decode cX3_mend 4 = .ok (.iconst 2, 1) := by decide +kernel
theorem dX3_mend_5 : decode cX3_mend 5 = .ok (.invokevirtual 114, 3) := by decide +kernel
theorem dX3_mend_8 : decode cX3_mend 8 = .ok (.istore_n 1, 1) := by decide +kernel
theorem dX3_mend_9 : decode cX3_mend 9 = .ok (.iload_n 1, 1) := by decide +kernel
theorem dX3_mend_10 : decode cX3_mend 10 = .ok (.iconst (-1), 1) := by decide +kernel
theorem dX3_mend_11 : decode cX3_mend 11 = .ok (.if_icmp .ne 13, 3) := by decide +kernel
theorem dX3_mend_14 : decode cX3_mend 14 = .ok (.new 63, 3) := by decide +kernel
theorem dX3_mend_17 : decode cX3_mend 17 = .ok (.dup, 1) := by decide +kernel
theorem dX3_mend_18 : decode cX3_mend 18 = .ok (.ldc 125, 2) := by decide +kernel
theorem dX3_mend_20 : decode cX3_mend 20 = .ok (.invokespecial 67, 3) := by decide +kernel
theorem dX3_mend_23 : decode cX3_mend 23 = .ok (.athrow, 1) := by decide +kernel
theorem dX3_mend_24 : decode cX3_mend 24 = .ok (.iload_n 1, 1) := by decide +kernel
theorem dX3_mend_25 : decode cX3_mend 25 = .ok (.iconst 2, 1) := by decide +kernel
theorem dX3_mend_26 : decode cX3_mend 26 = .ok (.if_icmp .ge 5, 3) := by decide +kernel
theorem dX3_mend_29 : decode cX3_mend 29 = .ok (.iconst (-1), 1) := by decide +kernel
theorem dX3_mend_30 : decode cX3_mend 30 = .ok (.ireturn, 1) := by decide +kernel
theorem dX3_mend_31 : decode cX3_mend 31 = .ok (.aload_n 0, 1) := by decide +kernel
theorem dX3_mend_32 : decode cX3_mend 32 = .ok (.getfield 21, 3) := by decide +kernel
theorem dX3_mend_35 : decode cX3_mend 35 = .ok (.invokevirtual 127, 3) := by decide +kernel
theorem dX3_mend_38 : decode cX3_mend 38 = .ok (.istore_n 2, 1) := by decide +kernel
theorem dX3_mend_39 : decode cX3_mend 39 = .ok (.iload_n 2, 1) := by decide +kernel
theorem dX3_mend_40 : decode cX3_mend 40 = .ok (.iconst (-1), 1) := by decide +kernel
theorem dX3_mend_41 : decode cX3_mend 41 = .ok (.if_icmp .eq 19, 3) := by decide +kernel
theorem dX3_mend_44 : decode cX3_mend 44 = .ok (.aload_n 0, 1) := by decide +kernel
theorem dX3_mend_45 : decode cX3_mend 45 = .ok (.getfield 12, 3) := by decide +kernel
theorem dX3_mend_48 : decode cX3_mend 48 = .ok (.iload_n 2, 1) := by decide +kernel
theorem dX3_mend_49 : decode cX3_mend 49 = .ok (.aload_n 0, 1) := by decide +kernel
theorem dX3_mend_50 : decode cX3_mend 50 = .ok (.getfield 21, 3) := by decide +kernel
theorem dX3_mend_53 : decode cX3_mend 53 = .ok (.iload_n 2, 1) := by decide +kernel
theorem dX3_mend_54 : decode cX3_mend 54 = .ok (.invokevirtual 130, 3) := by decide +kernel
theorem dX3_mend_57 : decode cX3_mend 57 = .ok (.invokevirtual 71, 3) := by decide +kernel
theorem dX3_mend_60 : decode cX3_mend 60 = .ok (.iload_n 2, 1) := by decide +kernel
theorem dX3_mend_61 : decode cX3_mend 61 = .ok (.ireturn, 1) := by decide +kernel
set_option maxRecDepth 20000 in
theorem ggX3_level_X1_solve : GoodIn wsX3_level wsX1_solve := goodIn_r _ [6, 7, 8, 9, 10, 11, 12, 13, 14, 15, 5, 16, 17, 18, 19, 20, 21, 22, 23, 24, 25, 26, 27, 28, 29, 30, 31, 32, 33, 34, 35, 36, 37, 38, 39, 40, 41, 42, 43, 44, 45, 46, 47, 48, 49, 50, 51, 52, 53, 54, 55, 56, 57, 58, 59, 60, 61, 62, 63, 64, 65, 66, 67, 68, 69, 70, 71, 72, 73, 74, 75, 76, 77, 78, 79, 80, 81, 82, 83, 84, 85, 86, 87, 88, 89, 90, 91, 92, 93, 94, 95, 96, 97, 98, 99, 100, 101, 102, 103, 104, 105, 106, 107, 108, 109, 110, 111, 123, 124, 125, 126, 127, 128, 129, 130, 131, 132, 133, 134, 135, 136] (by decide +kernel) (by decide +kernel)
set_option maxRecDepth 20000 in
theorem gX3_level_X1_solve : GoodIn wsX3_level (wsV RX3 133 RX1 yX1_solve wsX1_solve) := goodIn_app (goodIn_of _ (by decide +kernel)) ggX3_level_X1_solve
set_option maxRecDepth 20000 in
theorem ggX3_level_X1_isSolved : GoodIn wsX3_level wsX1_isSolved := goodIn_r _ [115, 22, 17, 23, 24, 25, 26, 27, 28, 29, 30, 31, 32, 33, 34, 35, 36, 71, 72, 5, 73, 74, 75, 76, 77, 78, 79, 80, 123, 124, 125, 126, 127, 128, 129, 130, 131, 132, 133, 134, 135, 136] (by decide +kernel) (by decide +kernel)
set_option maxRecDepth 20000 in
theorem gX3_level_X1_isSolved : GoodIn wsX3_level (wsV RX3 136 RX1 yX1_isSolved wsX1_isSolved) := goodIn_app (goodIn_of _ (by decide +kernel)) ggX3_level_X1_isSolved
set_option maxRecDepth 20000 in
theorem ggX3_level_X1_greatestRule : GoodIn wsX3_level wsX1_greatestRule := goodIn_r _ [119, 8, 123, 124, 125, 126, 127] (by decide +kernel) (by decide +kernel)
set_option maxRecDepth 20000 in
theorem gX3_level_X1_greatestRule : GoodIn wsX3_level (wsV RX3 139 RX1 yX1_greatestRule wsX1_greatestRule) := goodIn_app (goodIn_of _ (by decide +kernel)) ggX3_level_X1_greatestRule
theorem dX3_level_0 : decode cX3_level 0 = .ok (.aload_n 0, 1) := by decide +kernel
theorem dX3_level_1 : decode cX3_level 1 = .ok (.getfield 28, 3) := by decide +kernel
theorem dX3_level_4 : decode cX3_level 4 = .ok (.iconst 3, 1) := by decide +kernel
theorem dX3_level_5 : decode cX3_level 5 = .ok (.invokevirtual 133, 3) := by decide +kernel
theorem dX3_level_8 : decode cX3_level 8 = .ok (.aload_n 0, 1) := by decide +kernel
theorem dX3_level_9 : decode cX3_level 9 = .ok (.getfield 28, 3) := by decide +kernel
theorem dX3_level_12 : decode cX3_level 12 = .ok (.invokevirtual 136, 3) := by decide +kernel
theorem dX3_level_15 : decode cX3_level 15 = .ok (.ifCond .eq 13, 3) := by decide +kernel
theorem dX3_level_18 : decode cX3_level 18 = .ok (.aload_n 0, 1) := by decide +kernel
theorem dX3_level_19 : decode cX3_level 19 = .ok (.getfield 28, 3) := by decide +kernel
theorem dX3_level_22 : decode cX3_level 22 = .ok (.invokevirtual 139, 3) := by decide +kernel
theorem dX3_level_25 : decode cX3_level 25 = .ok (.goto 4, 3) := by decide +kernel
theorem dX3_level_28 : decode cX3_level 28 = .ok (.iconst (-1), 1) := by decide +kernel
theorem dX3_level_29 : decode cX3_level 29 = .ok (.ireturn, 1) := by decide +kernel
set_option maxRecDepth 20000 in
theorem ggX3_candidates_X3_needCell : GoodIn wsX3_candidates wsX3_needCell := goodIn_ca (goodIn_r _ [8, 9, 10, 11, 12, 13, 14, 15, 16, 17, 126, 127, 128, 129, 130, 131, 132, 133, 134, 135, 136, 137] (by decide +kernel) (by decide +kernel)) (goodIn_sub (fun _ h => List.mem_cons_of_mem _ (List.mem_append_right _ h)) (by decide +kernel))
set_option maxRecDepth 20000 in
theorem gX3_candidates_X3_needCell : GoodIn wsX3_candidates (wsV RX3 43 RX3 yX3_needCell wsX3_needCell) := goodIn_app (goodIn_of _ (by decide +kernel)) ggX3_candidates_X3_needCell
set_option maxRecDepth 20000 in
theorem ggX3_candidates_X1_solve : GoodIn wsX3_candidates wsX1_solve := goodIn_r _ [22, 23, 24, 25, 26, 27, 28, 29, 30, 31, 21, 32, 33, 34, 35, 36, 37, 38, 39, 40, 41, 15, 42, 43, 44, 13, 14, 16, 17, 45, 7, 46, 47, 48, 49, 50, 51, 52, 53, 54, 55, 56, 57, 58, 59, 60, 61, 62, 63, 64, 65, 66, 67, 68, 69, 70, 71, 72, 73, 74, 75, 76, 77, 78, 79, 80, 81, 82, 83, 84, 85, 86, 87, 88, 89, 90, 91, 92, 93, 94, 95, 96, 97, 98, 99, 100, 101, 102, 103, 104, 105, 106, 107, 108, 109, 110, 111, 112, 113, 114, 115, 116, 117, 118, 119, 120, 121, 138, 139, 140, 141, 142, 129, 130, 131, 132, 133, 134, 135, 136, 137] (by decide +kernel) (by decide +kernel)
set_option maxRecDepth 20000 in
theorem gX3_candidates_X1_solve : GoodIn wsX3_candidates (wsV RX3 133 RX1 yX1_solve wsX1_solve) := goodIn_app (goodIn_of _ (by decide +kernel)) ggX3_candidates_X1_solve
set_option maxRecDepth 20000 in
theorem ggX3_candidates_X1_setAt : GoodIn wsX3_candidates wsX1_setAt := goodIn_r _ [125, 33, 45, 7, 46, 138, 139, 140, 141, 142] (by decide +kernel) (by decide +kernel)
set_option maxRecDepth 20000 in
theorem gX3_candidates_X1_setAt : GoodIn wsX3_candidates (wsV RX3 144 RX1 yX1_setAt wsX1_setAt) := goodIn_app (goodIn_of _ (by decide +kernel)) ggX3_candidates_X1_setAt
theorem dX3_candidates_0 : decode cX3_candidates 0 = .ok (.aload_n 0, 1) := by decide +kernel
theorem dX3_candidates_1 : decode cX3_candidates 1 = .ok (.iload_n 1, 1) := by decide +kernel
theorem dX3_candidates_2 : decode cX3_candidates 2 = .ok (.invokevirtual 43, 3) := by decide +kernel
theorem dX3_candidates_5 : decode cX3_candidates 5 = .ok (.iload_n 2, 1) := by decide +kernel
theorem dX3_candidates_6 : decode cX3_candidates 6 = .ok (.ifCond .lt 8, 3) := by decide +kernel
theorem dX3_candidates_9 : decode cX3_candidates 9 = .ok (.iload_n 2, 1) := by decide +kernel
theorem dX3_candidates_10 : decode cX3_candidates 10 = .ok (.iconst 3, 1) := by decide +kernel
theorem dX3_candidates_11 : decode cX3_candidates 11 = .ok (.if_icmp .le 13, 3) := by decide +kernel
theorem dX3_candidates_14 : decode cX3_candidates 14 = .ok (.new 36, 3) := by decide +kernel
theorem dX3_candidates_17 : decode cX3_candidates 17 = .ok (.dup, 1) := by decide +kernel
theorem dX3_candidates_18 : decode cX3_candidates 18 = .ok (.ldc 142, 2) := by decide +kernel
theorem dX3_candidates_20 : decode cX3_candidates 20 = .ok (.invokespecial 40, 3) := by decide +kernel
theorem dX3_candidates_23 : decode cX3_candidates 23 = .ok (.athrow, 1) := by decide +kernel
theorem dX3_candidates_24 : decode cX3_candidates 24 = .ok (.aload_n 0, 1) := by decide +kernel
theorem dX3_candidates_25 : decode cX3_candidates 25 = .ok (.getfield 28, 3) := by decide +kernel
theorem dX3_candidates_28 : decode cX3_candidates 28 = .ok (.iload_n 2, 1) := by decide +kernel
theorem dX3_candidates_29 : decode cX3_candidates 29 = .ok (.invokevirtual 133, 3) := by decide +kernel
theorem dX3_candidates_32 : decode cX3_candidates 32 = .ok (.aload_n 0, 1) := by decide +kernel
theorem dX3_candidates_33 : decode cX3_candidates 33 = .ok (.getfield 28, 3) := by decide +kernel
theorem dX3_candidates_36 : decode cX3_candidates 36 = .ok (.iload_n 1, 1) := by decide +kernel
theorem dX3_candidates_37 : decode cX3_candidates 37 = .ok (.invokevirtual 144, 3) := by decide +kernel
theorem dX3_candidates_40 : decode cX3_candidates 40 = .ok (.ireturn, 1) := by decide +kernel
set_option maxRecDepth 20000 in
theorem ggX3_hint_X1_solveToHint : GoodIn wsX3_hint wsX1_solveToHint := goodIn_r _ [6, 7, 8, 9, 5, 10, 11, 12, 13, 14, 15, 16, 17, 18, 19, 20, 21, 22, 23, 24, 25, 26, 27, 28, 29, 30, 31, 32, 33, 34, 35, 36, 37, 38, 39, 40, 41, 42, 43, 44, 45, 46, 47, 48, 49, 50, 51, 52, 53, 54, 55, 56, 57, 58, 59, 60, 61, 62, 63, 64, 65, 66, 67, 68, 69, 70, 71, 72, 73, 74, 75, 76, 77, 78, 79, 80, 81, 82, 83, 84, 85, 86, 87, 88, 89, 90, 91, 92, 93, 94, 95, 96, 97, 98, 99, 100, 101, 102, 103, 104, 105, 106, 107, 108, 109, 110, 111, 112, 113, 114, 115, 116, 117, 118, 119, 124, 125, 126, 127, 128, 129, 130, 131, 132, 133, 134, 135, 136, 137] (by decide +kernel) (by decide +kernel)
set_option maxRecDepth 20000 in
theorem gX3_hint_X1_solveToHint : GoodIn wsX3_hint (wsV RX3 147 RX1 yX1_solveToHint wsX1_solveToHint) := goodIn_app (goodIn_of _ (by decide +kernel)) ggX3_hint_X1_solveToHint
set_option maxRecDepth 20000 in
theorem ggX3_hint_X1_firstFound : GoodIn wsX3_hint wsX1_firstFound := goodIn_r _ [119, 26, 21, 41, 42, 43, 30, 44, 32, 33, 34, 35, 36, 37, 38, 39, 40, 75, 76, 5, 77, 78, 79, 80, 81, 82, 83, 84, 124, 125, 126, 127, 128, 129, 130, 131, 132, 133, 134, 135, 136, 137] (by decide +kernel) (by decide +kernel)
set_option maxRecDepth 20000 in
theorem gX3_hint_X1_firstFound : GoodIn wsX3_hint (wsV RX3 150 RX1 yX1_firstFound wsX1_firstFound) := goodIn_app (goodIn_of _ (by decide +kernel)) ggX3_hint_X1_firstFound
theorem dX3_hint_0 : decode cX3_hint 0 = .ok (.aload_n 0, 1) := by decide +kernel
theorem dX3_hint_1 : decode cX3_hint 1 = .ok (.getfield 28, 3) := by decide +kernel
theorem dX3_hint_4 : decode cX3_hint 4 = .ok (.invokevirtual 147, 3) := by decide +kernel
theorem dX3_hint_7 : decode cX3_hint 7 = .ok (.pop, 1) := by decide +kernel
theorem dX3_hint_8 : decode cX3_hint 8 = .ok (.aload_n 0, 1) := by decide +kernel
theorem dX3_hint_9 : decode cX3_hint 9 = .ok (.getfield 28, 3) := by decide +kernel
theorem dX3_hint_12 : decode cX3_hint 12 = .ok (.invokevirtual 150, 3) := by decide +kernel
theorem dX3_hint_15 : decode cX3_hint 15 = .ok (.ireturn, 1) := by decide +kernel
set_option maxRecDepth 20000 in
theorem ggX3_hintRules_X1_solveToHint : GoodIn wsX3_hintRules wsX1_solveToHint := goodIn_r _ [6, 7, 8, 9, 5, 10, 11, 12, 13, 14, 15, 16, 17, 18, 19, 20, 21, 22, 23, 24, 25, 26, 27, 28, 29, 30, 31, 32, 33, 34, 35, 36, 37, 38, 39, 40, 41, 42, 43, 44, 45, 46, 47, 48, 49, 50, 51, 52, 53, 54, 55, 56, 57, 58, 59, 60, 61, 62, 63, 64, 65, 66, 67, 68, 69, 70, 71, 72, 73, 74, 75, 76, 77, 78, 79, 80, 81, 82, 83, 84, 85, 86, 87, 88, 89, 90, 91, 92, 93, 94, 95, 96, 97, 98, 99, 100, 101, 102, 103, 104, 105, 106, 107, 108, 109, 110, 111, 112, 113, 114, 115, 116, 117, 118, 119, 123, 124, 125, 126, 127, 128, 129, 130, 131, 132, 133, 134, 135, 136] (by decide +kernel) (by decide +kernel)
set_option maxRecDepth 20000 in
theorem gX3_hintRules_X1_solveToHint : GoodIn wsX3_hintRules (wsV RX3 147 RX1 yX1_solveToHint wsX1_solveToHint) := goodIn_app (goodIn_of _ (by decide +kernel)) ggX3_hintRules_X1_solveToHint
theorem dX3_hintRules_0 : decode cX3_hintRules 0 = .ok (.aload_n 0, 1) := by decide +kernel
theorem dX3_hintRules_1 : decode cX3_hintRules 1 = .ok (.getfield 28, 3) := by decide +kernel
theorem dX3_hintRules_4 : decode cX3_hintRules 4 = .ok (.invokevirtual 147, 3) := by decide +kernel
theorem dX3_hintRules_7 : decode cX3_hintRules 7 = .ok (.ireturn, 1) := by decide +kernel
set_option maxRecDepth 20000 in
theorem ggX3_needCell_X0_hasCell : GoodIn wsX3_needCell wsX0_hasCell := goodIn_r _ [8, 9, 13, 14, 15, 16, 17, 18, 19, 20, 21] (by decide +kernel) (by decide +kernel)
set_option maxRecDepth 20000 in
theorem gX3_needCell_X0_hasCell : GoodIn wsX3_needCell (wsV RX3 153 RX0 yX0_hasCell wsX0_hasCell) := goodIn_app (goodIn_of _ (by decide +kernel)) ggX3_needCell_X0_hasCell
theorem dX3_needCell_0 : decode cX3_needCell 0 = .ok (.aload_n 0, 1) := by decide +kernel
theorem dX3_needCell_1 : decode cX3_needCell 1 = .ok (.getfield 12, 3) := by decide +kernel
theorem dX3_needCell_4 : decode cX3_needCell 4 = .ok (.iload_n 1, 1) := by decide +kernel
theorem dX3_needCell_5 : decode cX3_needCell 5 = .ok (.invokevirtual 153, 3) := by decide +kernel
theorem dX3_needCell_8 : decode cX3_needCell 8 = .ok (.ifCond .ne 13, 3) := by decide +kernel
theorem dX3_needCell_11 : decode cX3_needCell 11 = .ok (.new 156, 3) := by decide +kernel
theorem dX3_needCell_14 : decode cX3_needCell 14 = .ok (.dup, 1) := by decide +kernel
theorem dX3_needCell_15 : decode cX3_needCell 15 = .ok (.ldc 158, 2) := by decide +kernel
theorem dX3_needCell_17 : decode cX3_needCell 17 = .ok (.invokespecial 160, 3) := by decide +kernel
theorem dX3_needCell_20 : decode cX3_needCell 20 = .ok (.athrow, 1) := by decide +kernel
theorem dX3_needCell_21 : decode cX3_needCell 21 = .ok (.return_, 1) := by decide +kernel
set_option maxRecDepth 20000 in
theorem ggX3_needRun_X0_hasRun : GoodIn wsX3_needRun wsX0_hasRun := goodIn_r _ [8, 9, 13, 14, 15, 16, 17, 18, 19, 20, 21] (by decide +kernel) (by decide +kernel)
set_option maxRecDepth 20000 in
theorem gX3_needRun_X0_hasRun : GoodIn wsX3_needRun (wsV RX3 161 RX0 yX0_hasRun wsX0_hasRun) := goodIn_app (goodIn_of _ (by decide +kernel)) ggX3_needRun_X0_hasRun
theorem dX3_needRun_0 : decode cX3_needRun 0 = .ok (.aload_n 0, 1) := by decide +kernel
theorem dX3_needRun_1 : decode cX3_needRun 1 = .ok (.getfield 12, 3) := by decide +kernel
theorem dX3_needRun_4 : decode cX3_needRun 4 = .ok (.iload_n 1, 1) := by decide +kernel
theorem dX3_needRun_5 : decode cX3_needRun 5 = .ok (.invokevirtual 161, 3) := by decide +kernel
theorem dX3_needRun_8 : decode cX3_needRun 8 = .ok (.ifCond .ne 13, 3) := by decide +kernel
theorem dX3_needRun_11 : decode cX3_needRun 11 = .ok (.new 156, 3) := by decide +kernel
theorem dX3_needRun_14 : decode cX3_needRun 14 = .ok (.dup, 1) := by decide +kernel
theorem dX3_needRun_15 : decode cX3_needRun 15 = .ok (.ldc 164, 2) := by decide +kernel
theorem dX3_needRun_17 : decode cX3_needRun 17 = .ok (.invokespecial 160, 3) := by decide +kernel
theorem dX3_needRun_20 : decode cX3_needRun 20 = .ok (.athrow, 1) := by decide +kernel
theorem dX3_needRun_21 : decode cX3_needRun 21 = .ok (.return_, 1) := by decide +kernel
theorem dX3_at_0 : decode cX3_at 0 = .ok (.iload_n 1, 1) := by decide +kernel
theorem dX3_at_1 : decode cX3_at 1 = .ok (.ifCond .lt 15, 3) := by decide +kernel
theorem dX3_at_4 : decode cX3_at 4 = .ok (.iload_n 1, 1) := by decide +kernel
theorem dX3_at_5 : decode cX3_at 5 = .ok (.aload_n 0, 1) := by decide +kernel
theorem dX3_at_6 : decode cX3_at 6 = .ok (.arraylength, 1) := by decide +kernel
theorem dX3_at_7 : decode cX3_at 7 = .ok (.if_icmp .ge 9, 3) := by decide +kernel
theorem dX3_at_10 : decode cX3_at 10 = .ok (.aload_n 0, 1) := by decide +kernel
theorem dX3_at_11 : decode cX3_at 11 = .ok (.iload_n 1, 1) := by decide +kernel
theorem dX3_at_12 : decode cX3_at 12 = .ok (.iaload, 1) := by decide +kernel
theorem dX3_at_13 : decode cX3_at 13 = .ok (.goto 4, 3) := by decide +kernel
theorem dX3_at_16 : decode cX3_at 16 = .ok (.iconst 0, 1) := by decide +kernel
theorem dX3_at_17 : decode cX3_at 17 = .ok (.ireturn, 1) := by decide +kernel
theorem dX3_put_0 : decode cX3_put 0 = .ok (.iload_n 1, 1) := by decide +kernel
theorem dX3_put_1 : decode cX3_put 1 = .ok (.ifCond .lt 13, 3) := by decide +kernel
theorem dX3_put_4 : decode cX3_put 4 = .ok (.iload_n 1, 1) := by decide +kernel
theorem dX3_put_5 : decode cX3_put 5 = .ok (.aload_n 0, 1) := by decide +kernel
theorem dX3_put_6 : decode cX3_put 6 = .ok (.arraylength, 1) := by decide +kernel
theorem dX3_put_7 : decode cX3_put 7 = .ok (.if_icmp .ge 7, 3) := by decide +kernel
theorem dX3_put_10 : decode cX3_put 10 = .ok (.aload_n 0, 1) := by decide +kernel
theorem dX3_put_11 : decode cX3_put 11 = .ok (.iload_n 1, 1) := by decide +kernel
theorem dX3_put_12 : decode cX3_put 12 = .ok (.iload_n 2, 1) := by decide +kernel
theorem dX3_put_13 : decode cX3_put 13 = .ok (.iastore, 1) := by decide +kernel
theorem dX3_put_14 : decode cX3_put 14 = .ok (.return_, 1) := by decide +kernel
end
section
/-! OUR OWN ROWS: contracts over whole worlds, calls that put the callee's cells back in their places, the ends of methods -/
def nestT : List (String × Nat × MethodName) := [(RX0, 50, yX3_at), (RX0, 54, yX3_put), (RX1, 54, yX3_at), (RX1, 74, yX3_put), (RX2, 41, yX3_at), (RX2, 60, yX3_put), (RX3, 11, yX0_init)]
def KK (D : va_G) (cI cZ : ClassId) (U : State) : Prop := va_K D vwCl [(cI, .int), (cZ, .boolean)] U ∧ ∀ q ∈ nestT, va_Nw (.methodLinkNest q.1 q.2.1 q.2.2 RX3) U
theorem KK.same {D : va_G} {cI cZ : ClassId} {u U : State} (h : u.vm = U.vm) (k : KK D cI cZ u) : KK D cI cZ U := ⟨va_K.moved (by rw [h]; exact Vm.Alike.refl _) k.1, fun q hq => va_Nw.same rfl h (k.2 q hq)⟩
theorem KK.warm {D : va_G} {cI cZ : ClassId} {s U : State} (hW : s.WarmedH U.vm) (k : KK D cI cZ s) : KK D cI cZ U := ⟨va_K.moved hW.alike k.1, fun q hq => va_Nw.warmM hW (k.2 q hq)⟩
abbrev PC (D : va_G) (cI cZ : ClassId) (sz : Nat) (av : List Value) (w : va_W) : Array Value → State → Prop := va_Pc av (fun U => U.heap.size = sz ∧ va_P D vwCl w U.heap ∧ KK D cI cZ U ∧ va_D (fun _ => True) w)
abbrev QB (D : va_G) (cI cZ : ClassId) (A : Nat → Prop) (w1 : va_W) : Unit → State → Prop := fun _ t => va_P D vwCl w1 t.heap ∧ KK D cI cZ t ∧ va_D A w1
abbrev QI (D : va_G) (cI cZ : ClassId) (sz : Nat) (w0 : va_W) (r : Int32) (w1 : va_W) : Array Value → State → Outcome → State → Prop := va_Qi (S := Unit) (fun v _ => v = r) (QB D cI cZ (va_A w0 sz) w1) (va_A w0 sz)
abbrev QV (D : va_G) (cI cZ : ClassId) (sz : Nat) (w0 : va_W) (w1 : va_W) : Array Value → State → Outcome → State → Prop := va_Qv (S := Unit) (fun _ => True) (QB D cI cZ (va_A w0 sz) w1) (va_A w0 sz)
theorem PC_blind {D : va_G} {cI cZ : ClassId} {sz : Nat} {av : List Value} {w : va_W} : FrameBlind (PC D cI cZ sz av w) := fun _ U g mk h => ⟨h.1, h.2.1, h.2.2.1, h.2.2.2.1.same (U := U.calling g mk _) rfl, h.2.2.2.2⟩
/-! the cells of a callee, put back -/
theorem fset_get : ∀ (z : List (Nat × (Nat × va_E))) (ws : va_W) (k : Nat) (q : Nat × va_E), (z.foldl (fun w x => w.set x.1 x.2) ws)[k]? = some q → (k ∉ z.map Prod.fst ∧ ws[k]? = some q) ∨ (k, q) ∈ z
  | [], ws, k, q, h => Or.inl ⟨List.not_mem_nil, h⟩
  | (i, e) :: z, ws, k, q, h => by
    rcases fset_get z (ws.set i e) k q h with ⟨h1, h2⟩ | h1
    · by_cases hk : i = k
      · subst hk
        by_cases hl : i < ws.length
        · rw [List.getElem?_set_self hl] at h2
          cases h2
          exact Or.inr List.mem_cons_self
        · rw [List.getElem?_eq_none (by rw [List.length_set]; omega)] at h2
          cases h2
      · rw [List.getElem?_set_ne hk] at h2
        refine Or.inl ⟨fun hm => ?_, h2⟩
        rcases List.mem_cons.mp hm with h3 | h3
        · exact hk h3.symm
        · exact h1 h3
    · exact Or.inr (List.mem_cons_of_mem _ h1)
theorem va_back {A0 : Nat → Prop} {D : va_G} {cl : List vw_C} {ws wc w1 ws' : va_W} {H H1 : Heap} (hP : va_P D cl ws H) (hD : va_D A0 ws) (isC : List Nat) (hC : isC.map (fun i => ws[i]?) = wc.map some) (ha : w1.map Prod.fst = wc.map Prod.fst)
    (hz : (isC.zip w1).foldl (fun w x => w.set x.1 x.2) ws = ws') (hk : ∀ q : Nat, q < H.size → ¬ va_A wc H.size q → H1[q]? = H[q]?) (hP1 : va_P D cl w1 H1) : va_P D cl ws' H1 ∧ va_D A0 ws' := by
  have hl1 : isC.length = wc.length := by have := congrArg List.length hC; simpa using this
  have hl2 : w1.length = wc.length := by have := congrArg List.length ha; simpa using this
  have hfst : (isC.zip w1).map Prod.fst = isC := List.map_fst_zip (by omega)
  have atC : ∀ (j i : Nat), isC[j]? = some i → ∀ q, w1[j]? = some q → ∃ q0, ws[i]? = some q0 ∧ q0.1 = q.1 ∧ wc[j]? = some q0 := by
    intro j i hi q hq
    have h1 : (isC.map (fun i => ws[i]?))[j]? = (wc.map some)[j]? := by rw [hC]
    rw [List.getElem?_map, List.getElem?_map, hi] at h1
    have h2 : (w1.map Prod.fst)[j]? = (wc.map Prod.fst)[j]? := by rw [ha]
    rw [List.getElem?_map, List.getElem?_map, hq] at h2
    cases hw : wc[j]? with
    | none => rw [hw] at h2; cases h2
    | some q0 =>
      rw [hw] at h1 h2
      exact ⟨q0, Option.some.inj h1, (Option.some.inj h2).symm, rfl⟩
  have inZ : ∀ (k : Nat) (q : Nat × va_E), (k, q) ∈ isC.zip w1 → ∃ j : Nat, isC[j]? = some k ∧ w1[j]? = some q := by
    intro k q hm
    obtain ⟨j, hj⟩ := List.getElem?_of_mem hm
    rw [List.getElem?_zip_eq_some] at hj
    exact ⟨j, hj⟩
  subst hz
  refine ⟨fun k q hq => ?_, fun i j x y hi hj hxy => ?_, fun k q hq => ?_⟩
  · rcases fset_get _ _ _ _ hq with ⟨h1, h2⟩ | h1
    · rw [hfst] at h1
      have hlt := (hP k q h2).lt
      refine (hP k q h2).kept (hk q.1 hlt fun hA => ?_)
      rcases hA with ⟨k2, e, h⟩ | h
      · have h3 : (isC.map (fun i => ws[i]?))[k2]? = some (some (q.1, e)) := by rw [hC, List.getElem?_map, h]; rfl
        rw [List.getElem?_map] at h3
        cases hi : isC[k2]? with
        | none => rw [hi] at h3; cases h3
        | some i =>
          rw [hi] at h3
          have h4 := hD.1 k i q (q.1, e) h2 (Option.some.inj h3) rfl
          subst h4
          exact h1 (List.mem_of_getElem? hi)
      · omega
    · obtain ⟨j, -, h3⟩ := inZ k q h1
      exact hP1 j q h3
  · have key : ∀ (k : Nat) (q : Nat × va_E), ((isC.zip w1).foldl (fun w x => w.set x.1 x.2) ws)[k]? = some q → ∃ q0, ws[k]? = some q0 ∧ q0.1 = q.1 := by
      intro k q hq
      rcases fset_get _ _ _ _ hq with ⟨h1, h2⟩ | h1
      · exact ⟨q, h2, rfl⟩
      · obtain ⟨j, h3, h4⟩ := inZ k q h1
        obtain ⟨q0, g1, g2, -⟩ := atC j k h3 q h4
        exact ⟨q0, g1, g2⟩
    obtain ⟨x0, a1, a2⟩ := key i x hi
    obtain ⟨y0, b1, b2⟩ := key j y hj
    exact hD.1 i j x0 y0 a1 b1 (a2.trans (hxy.trans b2.symm))
  · rcases fset_get _ _ _ _ hq with ⟨h1, h2⟩ | h1
    · exact hD.2 k q h2
    · obtain ⟨j, h3, h4⟩ := inZ k q h1
      obtain ⟨q0, g1, g2, -⟩ := atC j k h3 q h4
      rw [← g2]
      exact hD.2 k q0 g1
section CLS
variable {p : Program} {l : Launch} {e : Env} {R : Room} {s : State} {m : MethodId} {args : Array Value} {below : List Frame} {meth : Method} {c : Code} {H : Heap} {locs : List Loc} {cells slots : Nat} {Q : State → Prop}
variable {pc : Nat} {ls : Array Slot} {rest st0 : List Value} {A0 : Nat → Prop} {y : MethodName} {bytes cc : ByteArray} {maxL nL n index mc ms : Nat} {ret : Option FieldType} {wsy : List Cond} {rm : Room} {Ts : List Cond} {own C host : String} {b : Addr} {As : List Value}
variable {D : va_G} {cI cZ : ClassId} {ws wc w1 : va_W} {r : Int32}
theorem pc_pre (hK : KK D cI cZ s) (hP : va_P D vwCl ws H) {A0 : Nat → Prop} (hD : va_D A0 ws) (isC : List Nat) (hn : va_nd isC = true) (hC : isC.map (fun i => ws[i]?) = wc.map some) {av : List Value} :
    ∀ U : State, U.heap = H → s.WarmedH U.vm → PC D cI cZ H.size av wc av.toArray U := by
  intro U hU hW
  have hf : isC.filterMap (fun i => ws[i]?) = wc := by
    have h1 : (isC.map (fun i => ws[i]?)).filterMap id = (wc.map some).filterMap id := by rw [hC]
    rw [List.filterMap_map, List.filterMap_map] at h1
    simpa [Function.comp_def] using h1
  exact ⟨rfl, by rw [hU], by rw [hU]; exact hP.sub isC hf, hK.warm hW, (hD.sub isC hn hC).weaken (fun _ _ _ _ => trivial)⟩
/-- behind a call with an int: the callee's cells are put back -/
theorem cl_run_i (ws' : va_W) (hr : va_Run p l e R s m args below meth c H locs cells slots mc ms (F0 m pc ls st0) rest (QI D cI cZ H.size wc r w1 (As.toArray)) (va_A wc H.size))
    (hP : va_P D vwCl ws H) (hD : va_D A0 ws) (hS : va_S A0 s.heap H locs) (hA : ∀ q, s.heap.size ≤ q → A0 q) (isC : List Nat) (hC : isC.map (fun i => ws[i]?) = wc.map some) (ha : w1.map Prod.fst = wc.map Prod.fst)
    (hz : (isC.zip w1).foldl (fun w x => w.set x.1 x.2) ws = ws')
    (kk : ∀ (H1 : Heap) (locs1 : List Loc), va_P D vwCl ws' H1 → va_D A0 ws' → va_S A0 s.heap H1 locs1 → W p l e R s m args below meth c H1 locs1 (cells + mc) (slots + ms) Q (F0 m (pc + 3) ls (.int r :: rest))) : W p l e R s m args below meth c H locs cells slots Q (F0 m pc ls st0) := by
  have hF := va_free hD hS hA isC hC
  refine va_calli hr hS (fun q _ h => hF q h) hF (fun r' u t H1 locs1 ht hvm hw hB hz1 hk1 hS1 => ?_)
  have hw' : r' = r := hw
  subst hw'
  have hP1 : va_P D vwCl w1 H1 := by rw [← ht]; exact hB.1
  obtain ⟨g1, g2⟩ := va_back hP hD isC hC ha hz hk1 hP1
  exact kk H1 locs1 g1 g2 hS1
theorem cl_run_v (ws' : va_W) (hr : va_Run p l e R s m args below meth c H locs cells slots mc ms (F0 m pc ls st0) rest (QV D cI cZ H.size wc w1 (As.toArray)) (va_A wc H.size))
    (hP : va_P D vwCl ws H) (hD : va_D A0 ws) (hS : va_S A0 s.heap H locs) (hA : ∀ q, s.heap.size ≤ q → A0 q) (isC : List Nat) (hC : isC.map (fun i => ws[i]?) = wc.map some) (ha : w1.map Prod.fst = wc.map Prod.fst)
    (hz : (isC.zip w1).foldl (fun w x => w.set x.1 x.2) ws = ws')
    (kk : ∀ (H1 : Heap) (locs1 : List Loc), va_P D vwCl ws' H1 → va_D A0 ws' → va_S A0 s.heap H1 locs1 → W p l e R s m args below meth c H1 locs1 (cells + mc) (slots + ms) Q (F0 m (pc + 3) ls rest)) : W p l e R s m args below meth c H locs cells slots Q (F0 m pc ls st0) := by
  have hF := va_free hD hS hA isC hC
  refine va_callv hr hS (fun q _ h => hF q h) hF (fun u t H1 locs1 ht hvm hw hB hz1 hk1 hS1 => ?_)
  have hP1 : va_P D vwCl w1 H1 := by rw [← ht]; exact hB.1
  obtain ⟨g1, g2⟩ := va_back hP hD isC hC ha hz hk1 hP1
  exact kk H1 locs1 g1 g2 hS1
/-- invokevirtual of a method that answers an int -/
theorem clV_i (ws' : va_W) (S : CallFix p m c cc nL s args Ts own) (hM : Met l y wsy rm (PC D cI cZ H.size (.ref b :: As) wc) (QI D cI cZ H.size wc r w1) mc ms (va_A wc H.size)) (cw : CallW R s args own C index y bytes maxL ret wsy rm mc ms n)
    (hK : KK D cI cZ s) (hP : va_P D vwCl ws H) (hD : va_D A0 ws) (hS : va_S A0 s.heap H locs) (hA : ∀ q, s.heap.size ≤ q → A0 q) (hsize : ls.size = nL) (isC : List Nat) (hnd : va_nd isC = true) (hC : isC.map (fun i => ws[i]?) = wc.map some) (ha : w1.map Prod.fst = wc.map Prod.fst)
    (hz : (isC.zip w1).foldl (fun w x => w.set x.1 x.2) ws = ws') (ci q0 : Nat) {q : vw_C} {fs : List Value} (hcl : vwCl[ci]? = some q) (hCn : q.1 = C) (hq0 : ws[q0]? = some (b, .inr (ci, fs))) (hn : As.length = n) (hstack : st0 = As.reverse ++ .ref b :: rest) (hW : (rest.map fun v => v.category).sum ≤ 8) (hdg : decode cc pc = .ok (.invokevirtual index, 3)) (hf : cells + mc ≤ R.cells ∧ slots + ms ≤ R.slots)
    (kk : ∀ (H1 : Heap) (locs1 : List Loc), va_P D vwCl ws' H1 → va_D A0 ws' → va_S A0 s.heap H1 locs1 → W p l e R s m args below meth c H1 locs1 (cells + mc) (slots + ms) Q (F0 m (pc + 3) ls (.int r :: rest))) : W p l e R s m args below meth c H locs cells slots Q (F0 m pc ls st0) := by
  subst hCn
  refine cl_run_i (As := .ref b :: As) ws' (va_runV (As := As) (rest := rest) S hM cw ⟨PC_blind, va_recv hK.1 hP hcl hq0, pc_pre hK hP hD isC hnd hC⟩ rfl hn hsize hstack (lv_room hW) hdg hf) hP hD hS hA isC hC ha hz kk
theorem clV_v (ws' : va_W) (S : CallFix p m c cc nL s args Ts own) (hM : Met l y wsy rm (PC D cI cZ H.size (.ref b :: As) wc) (QV D cI cZ H.size wc w1) mc ms (va_A wc H.size)) (cw : CallW R s args own C index y bytes maxL ret wsy rm mc ms n)
    (hK : KK D cI cZ s) (hP : va_P D vwCl ws H) (hD : va_D A0 ws) (hS : va_S A0 s.heap H locs) (hA : ∀ q, s.heap.size ≤ q → A0 q) (hsize : ls.size = nL) (isC : List Nat) (hnd : va_nd isC = true) (hC : isC.map (fun i => ws[i]?) = wc.map some) (ha : w1.map Prod.fst = wc.map Prod.fst)
    (hz : (isC.zip w1).foldl (fun w x => w.set x.1 x.2) ws = ws') (ci q0 : Nat) {q : vw_C} {fs : List Value} (hcl : vwCl[ci]? = some q) (hCn : q.1 = C) (hq0 : ws[q0]? = some (b, .inr (ci, fs))) (hn : As.length = n) (hstack : st0 = As.reverse ++ .ref b :: rest) (hW : (rest.map fun v => v.category).sum ≤ 8) (hdg : decode cc pc = .ok (.invokevirtual index, 3)) (hf : cells + mc ≤ R.cells ∧ slots + ms ≤ R.slots)
    (kk : ∀ (H1 : Heap) (locs1 : List Loc), va_P D vwCl ws' H1 → va_D A0 ws' → va_S A0 s.heap H1 locs1 → W p l e R s m args below meth c H1 locs1 (cells + mc) (slots + ms) Q (F0 m (pc + 3) ls rest)) : W p l e R s m args below meth c H locs cells slots Q (F0 m pc ls st0) := by
  subst hCn
  refine cl_run_v (As := .ref b :: As) ws' (va_runV (As := As) (rest := rest) S hM cw ⟨PC_blind, va_recv hK.1 hP hcl hq0, pc_pre hK hP hD isC hnd hC⟩ rfl hn hsize hstack (lv_room hW) hdg hf) hP hD hS hA isC hC ha hz kk
/-- invokestatic -/
theorem clS_i (ws' : va_W) (S : CallFix p m c cc nL s args Ts own) (hM : Met l y wsy rm (PC D cI cZ H.size As wc) (QI D cI cZ H.size wc r w1) mc ms (va_A wc H.size)) (cw : CallB R s args own index y bytes maxL ret wsy rm mc ms n ∧ (Cond.static y).before args s = true)
    (hK : KK D cI cZ s) (hP : va_P D vwCl ws H) (hD : va_D A0 ws) (hS : va_S A0 s.heap H locs) (hA : ∀ q, s.heap.size ≤ q → A0 q) (hsize : ls.size = nL) (isC : List Nat) (hnd : va_nd isC = true) (hC : isC.map (fun i => ws[i]?) = wc.map some) (ha : w1.map Prod.fst = wc.map Prod.fst)
    (hz : (isC.zip w1).foldl (fun w x => w.set x.1 x.2) ws = ws') (hn : As.length = n) (hstack : st0 = As.reverse ++ rest) (hW : (rest.map fun v => v.category).sum ≤ 8) (hdg : decode cc pc = .ok (.invokestatic index, 3)) (hf : cells + mc ≤ R.cells ∧ slots + ms ≤ R.slots)
    (kk : ∀ (H1 : Heap) (locs1 : List Loc), va_P D vwCl ws' H1 → va_D A0 ws' → va_S A0 s.heap H1 locs1 → W p l e R s m args below meth c H1 locs1 (cells + mc) (slots + ms) Q (F0 m (pc + 3) ls (.int r :: rest))) : W p l e R s m args below meth c H locs cells slots Q (F0 m pc ls st0) :=
  cl_run_i (As := As) ws' (va_runS (As := As) (rest := rest) S hM cw ⟨PC_blind, pc_pre hK hP hD isC hnd hC⟩ rfl hn hsize hstack (lv_room hW) hdg hf) hP hD hS hA isC hC ha hz kk
theorem clS_v (ws' : va_W) (S : CallFix p m c cc nL s args Ts own) (hM : Met l y wsy rm (PC D cI cZ H.size As wc) (QV D cI cZ H.size wc w1) mc ms (va_A wc H.size)) (cw : CallB R s args own index y bytes maxL ret wsy rm mc ms n ∧ (Cond.static y).before args s = true)
    (hK : KK D cI cZ s) (hP : va_P D vwCl ws H) (hD : va_D A0 ws) (hS : va_S A0 s.heap H locs) (hA : ∀ q, s.heap.size ≤ q → A0 q) (hsize : ls.size = nL) (isC : List Nat) (hnd : va_nd isC = true) (hC : isC.map (fun i => ws[i]?) = wc.map some) (ha : w1.map Prod.fst = wc.map Prod.fst)
    (hz : (isC.zip w1).foldl (fun w x => w.set x.1 x.2) ws = ws') (hn : As.length = n) (hstack : st0 = As.reverse ++ rest) (hW : (rest.map fun v => v.category).sum ≤ 8) (hdg : decode cc pc = .ok (.invokestatic index, 3)) (hf : cells + mc ≤ R.cells ∧ slots + ms ≤ R.slots)
    (kk : ∀ (H1 : Heap) (locs1 : List Loc), va_P D vwCl ws' H1 → va_D A0 ws' → va_S A0 s.heap H1 locs1 → W p l e R s m args below meth c H1 locs1 (cells + mc) (slots + ms) Q (F0 m (pc + 3) ls rest)) : W p l e R s m args below meth c H locs cells slots Q (F0 m pc ls st0) :=
  cl_run_v (As := As) ws' (va_runS (As := As) (rest := rest) S hM cw ⟨PC_blind, pc_pre hK hP hD isC hnd hC⟩ rfl hn hsize hstack (lv_room hW) hdg hf) hP hD hS hA isC hC ha hz kk
/-- invokestatic of a nest mate's private method -/
theorem clN_i (ws' : va_W) (S : CallFix p m c cc nL s args Ts own) (hM : Met l y wsy rm (PC D cI cZ H.size As wc) (QI D cI cZ H.size wc r w1) mc ms (va_A wc H.size)) (cw : va_CN R s args own index y host bytes maxL ret wsy rm mc ms n ∧ (Cond.static y).before args s = true ∧ True)
    (hK : KK D cI cZ s) (hP : va_P D vwCl ws H) (hD : va_D A0 ws) (hS : va_S A0 s.heap H locs) (hA : ∀ q, s.heap.size ≤ q → A0 q) (hsize : ls.size = nL) (isC : List Nat) (hnd : va_nd isC = true) (hC : isC.map (fun i => ws[i]?) = wc.map some) (ha : w1.map Prod.fst = wc.map Prod.fst)
    (hz : (isC.zip w1).foldl (fun w x => w.set x.1 x.2) ws = ws') (hn : As.length = n) (hstack : st0 = As.reverse ++ rest) (hW : (rest.map fun v => v.category).sum ≤ 8) (hdg : decode cc pc = .ok (.invokestatic index, 3)) (hf : cells + mc ≤ R.cells ∧ slots + ms ≤ R.slots)
    (kk : ∀ (H1 : Heap) (locs1 : List Loc), va_P D vwCl ws' H1 → va_D A0 ws' → va_S A0 s.heap H1 locs1 → W p l e R s m args below meth c H1 locs1 (cells + mc) (slots + ms) Q (F0 m (pc + 3) ls (.int r :: rest))) : W p l e R s m args below meth c H locs cells slots Q (F0 m pc ls st0) :=
  cl_run_i (As := As) ws' (va_runSN (As := As) (rest := rest) S hM cw ⟨PC_blind, pc_pre hK hP hD isC hnd hC⟩ rfl hn hsize hstack (lv_room hW) hdg hf) hP hD hS hA isC hC ha hz kk
theorem clN_v (ws' : va_W) (S : CallFix p m c cc nL s args Ts own) (hM : Met l y wsy rm (PC D cI cZ H.size As wc) (QV D cI cZ H.size wc w1) mc ms (va_A wc H.size)) (cw : va_CN R s args own index y host bytes maxL ret wsy rm mc ms n ∧ (Cond.static y).before args s = true ∧ True)
    (hK : KK D cI cZ s) (hP : va_P D vwCl ws H) (hD : va_D A0 ws) (hS : va_S A0 s.heap H locs) (hA : ∀ q, s.heap.size ≤ q → A0 q) (hsize : ls.size = nL) (isC : List Nat) (hnd : va_nd isC = true) (hC : isC.map (fun i => ws[i]?) = wc.map some) (ha : w1.map Prod.fst = wc.map Prod.fst)
    (hz : (isC.zip w1).foldl (fun w x => w.set x.1 x.2) ws = ws') (hn : As.length = n) (hstack : st0 = As.reverse ++ rest) (hW : (rest.map fun v => v.category).sum ≤ 8) (hdg : decode cc pc = .ok (.invokestatic index, 3)) (hf : cells + mc ≤ R.cells ∧ slots + ms ≤ R.slots)
    (kk : ∀ (H1 : Heap) (locs1 : List Loc), va_P D vwCl ws' H1 → va_D A0 ws' → va_S A0 s.heap H1 locs1 → W p l e R s m args below meth c H1 locs1 (cells + mc) (slots + ms) Q (F0 m (pc + 3) ls rest)) : W p l e R s m args below meth c H locs cells slots Q (F0 m pc ls st0) :=
  cl_run_v (As := As) ws' (va_runSN (As := As) (rest := rest) S hM cw ⟨PC_blind, pc_pre hK hP hD isC hnd hC⟩ rfl hn hsize hstack (lv_room hW) hdg hf) hP hD hS hA isC hC ha hz kk
end CLS
/-! a method's start: everything that is not looked into is a variable -/
section MKS
variable {l : Launch} {y : MethodName} {ws ws' : List Cond} {rm : Room} {cc : ByteArray} {maxL : Nat} {D : va_G} {cI cZ : ClassId} {sz : Nat} {av : List Value} {w0 w1 : va_W} {r : Int32} {lv0 : List (Nat × Value)}
theorem mk_i (hy : plainName y.cls = true) (hw : ws = Cond.code y cc maxL (some .int) :: ws') (hn : (lg_sl av).length ≤ maxL) (hlv : lv_args 0 av = lv0)
    (body : ∀ (p : Program) (e : Env) (s : State) (m : MethodId) (args : Array Value) (below : List Frame) (meth : Method) (c : Code) (ls : Array Slot) (A : Nat → Prop) (Q : State → Prop) (H : Heap), p.tables.exec = Jvm.exec → c.code = cc → c.maxLocals = maxL → s.vm.findClass y.cls = some m.cls → (∀ w ∈ ws, w.before args s = true) → KK D cI cZ s → va_P D vwCl w0 H → va_D A w0 → (∀ q, s.heap.size ≤ q → A q) → va_S A s.heap H [] → lv_has ls maxL lv0 →
      (∀ (H : Heap) (locs : List Loc) (v : Int32) (w1' : va_W) (pc : Nat) (ls' : Array Slot), v = r → w1' = w1 → va_P D vwCl w1' H → va_D A w1' → va_S A s.heap H locs → decode cc pc = .ok (.ireturn, 1) → W p l e rm s m args below meth c H locs 0 0 Q (F0 m pc ls' [.int v])) →
      W p l e rm s m args below meth c H [] 0 0 Q (F0 m 0 ls [])) : Met l y ws rm (PC D cI cZ sz av w0) (QI D cI cZ sz w0 r w1) 0 0 (va_A w0 sz) := by
  refine Met.ofW (cc := cc) (maxL := maxL) (ret := some .int) hy hw ?_
  intro p e s m args below meth c s₁ B hml hv
  obtain ⟨hargs, hsz, hP, hK, hD0⟩ := hv
  have hts := atoms_spec (ws := ws) B.pre
  have hown : s.vm.findClass y.cls = some m.cls := findClass_of_methodNamed B.named
  have hl := lv_entry av (n := maxL) hn
  subst hsz
  subst hargs
  rw [lg_entry_eq]
  rw [hlv] at hl
  refine body p e s m _ below meth c _ (va_A w0 s.heap.size) _ _ B.exec B.bytes hml hown hts hK hP hD0.self (fun q h => Or.inr h) va_S.rf hl ?_
  intro H locs v w1' pc ls' hv hw1 hP hD hS hdg
  subst hw1
  exact W.iret (v := v) B.exec B.bytes B.returns (fun t ht hW => ⟨⟨v, (), rfl, hv, by rw [ht]; exact hP, hK.warm hW, hD⟩, hS.F ht⟩) hS.2.2 hdg B.notSynchronized
theorem mk_z (hy : plainName y.cls = true) (hw : ws = Cond.code y cc maxL (some .boolean) :: ws') (hn : (lg_sl av).length ≤ maxL) (hlv : lv_args 0 av = lv0)
    (body : ∀ (p : Program) (e : Env) (s : State) (m : MethodId) (args : Array Value) (below : List Frame) (meth : Method) (c : Code) (ls : Array Slot) (A : Nat → Prop) (Q : State → Prop) (H : Heap), p.tables.exec = Jvm.exec → c.code = cc → c.maxLocals = maxL → s.vm.findClass y.cls = some m.cls → (∀ w ∈ ws, w.before args s = true) → KK D cI cZ s → va_P D vwCl w0 H → va_D A w0 → (∀ q, s.heap.size ≤ q → A q) → va_S A s.heap H [] → lv_has ls maxL lv0 →
      (∀ (H : Heap) (locs : List Loc) (v : Int32) (w1' : va_W) (pc : Nat) (ls' : Array Slot), v = 0 ∨ v = 1 → v = r → w1' = w1 → va_P D vwCl w1' H → va_D A w1' → va_S A s.heap H locs → decode cc pc = .ok (.ireturn, 1) → W p l e rm s m args below meth c H locs 0 0 Q (F0 m pc ls' [.int v])) →
      W p l e rm s m args below meth c H [] 0 0 Q (F0 m 0 ls [])) : Met l y ws rm (PC D cI cZ sz av w0) (QI D cI cZ sz w0 r w1) 0 0 (va_A w0 sz) := by
  refine Met.ofW (cc := cc) (maxL := maxL) (ret := some .boolean) hy hw ?_
  intro p e s m args below meth c s₁ B hml hv
  obtain ⟨hargs, hsz, hP, hK, hD0⟩ := hv
  have hts := atoms_spec (ws := ws) B.pre
  have hown : s.vm.findClass y.cls = some m.cls := findClass_of_methodNamed B.named
  have hl := lv_entry av (n := maxL) hn
  subst hsz
  subst hargs
  rw [lg_entry_eq]
  rw [hlv] at hl
  refine body p e s m _ below meth c _ (va_A w0 s.heap.size) _ _ B.exec B.bytes hml hown hts hK hP hD0.self (fun q h => Or.inr h) va_S.rf hl ?_
  intro H locs v w1' pc ls' h01 hv hw1 hP hD hS hdg
  subst hw1
  exact W.zret (v := v) (ty := .boolean) B.exec B.bytes B.returns (by rcases h01 with h | h <;> (subst h; rfl)) (fun t ht hW => ⟨⟨v, (), rfl, hv, by rw [ht]; exact hP, hK.warm hW, hD⟩, hS.F ht⟩) hS.2.2 hdg B.notSynchronized
theorem mk_v (hy : plainName y.cls = true) (hw : ws = Cond.code y cc maxL none :: ws') (hn : (lg_sl av).length ≤ maxL) (hlv : lv_args 0 av = lv0)
    (body : ∀ (p : Program) (e : Env) (s : State) (m : MethodId) (args : Array Value) (below : List Frame) (meth : Method) (c : Code) (ls : Array Slot) (A : Nat → Prop) (Q : State → Prop) (H : Heap), p.tables.exec = Jvm.exec → c.code = cc → c.maxLocals = maxL → s.vm.findClass y.cls = some m.cls → (∀ w ∈ ws, w.before args s = true) → KK D cI cZ s → va_P D vwCl w0 H → va_D A w0 → (∀ q, s.heap.size ≤ q → A q) → va_S A s.heap H [] → lv_has ls maxL lv0 →
      (∀ (H : Heap) (locs : List Loc) (w1' : va_W) (pc : Nat) (ls' : Array Slot), w1' = w1 → va_P D vwCl w1' H → va_D A w1' → va_S A s.heap H locs → decode cc pc = .ok (.return_, 1) → W p l e rm s m args below meth c H locs 0 0 Q (F0 m pc ls' [])) →
      W p l e rm s m args below meth c H [] 0 0 Q (F0 m 0 ls [])) : Met l y ws rm (PC D cI cZ sz av w0) (QV D cI cZ sz w0 w1) 0 0 (va_A w0 sz) := by
  refine Met.ofW (cc := cc) (maxL := maxL) (ret := none) hy hw ?_
  intro p e s m args below meth c s₁ B hml hv
  obtain ⟨hargs, hsz, hP, hK, hD0⟩ := hv
  have hts := atoms_spec (ws := ws) B.pre
  have hown : s.vm.findClass y.cls = some m.cls := findClass_of_methodNamed B.named
  have hl := lv_entry av (n := maxL) hn
  subst hsz
  subst hargs
  rw [lg_entry_eq]
  rw [hlv] at hl
  refine body p e s m _ below meth c _ (va_A w0 s.heap.size) _ _ B.exec B.bytes hml hown hts hK hP hD0.self (fun q h => Or.inr h) va_S.rf hl ?_
  intro H locs w1' pc ls' hw1 hP hD hS hdg
  subst hw1
  exact W.vret B.exec B.bytes B.returns (fun t ht hW => ⟨⟨(), rfl, trivial, by rw [ht]; exact hP, hK.warm hW, hD⟩, hS.F ht⟩) hS.2.2 hdg B.notSynchronized
end MKS
end
section

/-! the words of the plain functions -/
abbrev inR (i : Int32) (n : Nat) : Prop := ¬ (i < 0 ∨ n ≤ i.toNatClampNeg)
def gd {α : Type} (c : Prop) [Decidable c] (x : Option α) : Option α := if c then x else none
def jn {γ : Type} {β : Type} (b : γ) (f : γ → β) : β := f b
theorem gd_some {α : Type} {c : Prop} [Decidable c] {x : Option α} {r : α} (h : gd c x = some r) : c ∧ x = some r := by
  unfold gd at h
  split at h
  · exact ⟨by assumption, h⟩
  · cases h
theorem jn_some {γ : Type} {β : Type} {b : γ} {f : γ → β} {r : β} (h : jn b f = r) : ∃ k, k = b ∧ f k = r := ⟨b, rfl, h⟩
theorem ite_t {β : Type} {c : Prop} [Decidable c] {a b r : β} (h : c) (hf : (if c then a else b) = r) : a = r := by rw [if_pos h] at hf; exact hf
theorem ite_f {β : Type} {c : Prop} [Decidable c] {a b r : β} (h : ¬ c) (hf : (if c then a else b) = r) : b = r := by rw [if_neg h] at hf; exact hf
def f_X3_at (n : Nat) (row : Nat → Int32) (x1 : Int32) : Int32 := if x1 < 0 then 0 else if nI n ≤ x1 then 0 else row x1.toNatClampNeg
def f_X3_put (n : Nat) (row : Nat → Int32) (x1 x2 : Int32) : Nat → Int32 := if x1 < 0 then row else if nI n ≤ x1 then row else upd row x1.toNatClampNeg x2
abbrev wB (cI : ClassId) (ad : Nat → Nat) (size rc : Int32) (g fs st ln su rr cr : Nat → Int32) : va_W := [((ad 0), .inr (0, [.int size, .int rc, .ref (ad 1), .ref (ad 2), .ref (ad 3), .ref (ad 4), .ref (ad 5), .ref (ad 6), .ref (ad 7)])), ((ad 1), .inl (cI, 16, .inl g)), ((ad 2), .inl (cI, 8, .inl fs)), ((ad 3), .inl (cI, 8, .inl st)), ((ad 4), .inl (cI, 8, .inl ln)), ((ad 5), .inl (cI, 8, .inl su)), ((ad 6), .inl (cI, 16, .inl rr)), ((ad 7), .inl (cI, 16, .inl cr))]
abbrev wT (cI : ClassId) (ad : Nat → Nat) (size rc : Int32) (g fs st ln su rr cr : Nat → Int32) (bc : Int32) (bl td fi fa : Nat → Int32) : va_W := [((ad 0), .inr (0, [.int size, .int rc, .ref (ad 1), .ref (ad 2), .ref (ad 3), .ref (ad 4), .ref (ad 5), .ref (ad 6), .ref (ad 7)])), ((ad 1), .inl (cI, 16, .inl g)), ((ad 2), .inl (cI, 8, .inl fs)), ((ad 3), .inl (cI, 8, .inl st)), ((ad 4), .inl (cI, 8, .inl ln)), ((ad 5), .inl (cI, 8, .inl su)), ((ad 6), .inl (cI, 16, .inl rr)), ((ad 7), .inl (cI, 16, .inl cr)), ((ad 8), .inr (2, [.ref (ad 0), .int bc, .ref (ad 9), .ref (ad 10), .ref (ad 11), .ref (ad 12)])), ((ad 9), .inl (cI, 16, .inl bl)), ((ad 10), .inl (cI, 16, .inl td)), ((ad 11), .inl (cI, 16, .inl fi)), ((ad 12), .inl (cI, 16, .inl fa))]
abbrev wS (cI : ClassId) (ad : Nat → Nat) (size rc : Int32) (g fs st ln su rr cr : Nat → Int32) (tk gr : Int32) (se sr : Nat → Int32) : va_W := [((ad 0), .inr (0, [.int size, .int rc, .ref (ad 1), .ref (ad 2), .ref (ad 3), .ref (ad 4), .ref (ad 5), .ref (ad 6), .ref (ad 7)])), ((ad 1), .inl (cI, 16, .inl g)), ((ad 2), .inl (cI, 8, .inl fs)), ((ad 3), .inl (cI, 8, .inl st)), ((ad 4), .inl (cI, 8, .inl ln)), ((ad 5), .inl (cI, 8, .inl su)), ((ad 6), .inl (cI, 16, .inl rr)), ((ad 7), .inl (cI, 16, .inl cr)), ((ad 13), .inr (1, [.ref (ad 0), .ref (ad 14), .ref (ad 15), .int tk, .int gr])), ((ad 14), .inl (cI, 16, .inl se)), ((ad 15), .inl (cI, 4, .inl sr))]
abbrev wG (cI : ClassId) (ad : Nat → Nat) (size rc : Int32) (g fs st ln su rr cr : Nat → Int32) (bc : Int32) (bl td fi fa : Nat → Int32) (tk gr : Int32) (se sr : Nat → Int32) : va_W := [((ad 0), .inr (0, [.int size, .int rc, .ref (ad 1), .ref (ad 2), .ref (ad 3), .ref (ad 4), .ref (ad 5), .ref (ad 6), .ref (ad 7)])), ((ad 1), .inl (cI, 16, .inl g)), ((ad 2), .inl (cI, 8, .inl fs)), ((ad 3), .inl (cI, 8, .inl st)), ((ad 4), .inl (cI, 8, .inl ln)), ((ad 5), .inl (cI, 8, .inl su)), ((ad 6), .inl (cI, 16, .inl rr)), ((ad 7), .inl (cI, 16, .inl cr)), ((ad 8), .inr (2, [.ref (ad 0), .int bc, .ref (ad 9), .ref (ad 10), .ref (ad 11), .ref (ad 12)])), ((ad 9), .inl (cI, 16, .inl bl)), ((ad 10), .inl (cI, 16, .inl td)), ((ad 11), .inl (cI, 16, .inl fi)), ((ad 12), .inl (cI, 16, .inl fa)), ((ad 13), .inr (1, [.ref (ad 0), .ref (ad 14), .ref (ad 15), .int tk, .int gr])), ((ad 14), .inl (cI, 16, .inl se)), ((ad 15), .inl (cI, 4, .inl sr)), ((ad 16), .inr (3, [.ref (ad 0), .ref (ad 8), .ref (ad 13)]))]
abbrev wM (cI : ClassId) (cZ : ClassId) (md : Nat → Nat) (mth msz mrn mmy mdf mgu mhs mlv : Int32) (mba mgi mfi mle mst msu mtr mdi mfa mca : Nat → Int32) : va_W := [((md 0), .inr (4, [.int mth, .int msz, .ref (md 1), .ref (md 2), .int mrn, .ref (md 3), .ref (md 4), .ref (md 5), .ref (md 6), .ref (md 7), .int mmy, .ref (md 8), .ref (md 9), .int mdf, .int mgu, .ref (md 10), .int mhs, .int mlv])), ((md 1), .inl (cZ, 16, .inl mba)), ((md 2), .inl (cI, 16, .inl mgi)), ((md 3), .inl (cI, 8, .inl mfi)), ((md 4), .inl (cI, 8, .inl mle)), ((md 5), .inl (cI, 8, .inl mst)), ((md 6), .inl (cI, 8, .inl msu)), ((md 7), .inl (cI, 16, .inl mtr)), ((md 8), .inl (cI, 16, .inl mdi)), ((md 9), .inl (cI, 16, .inl mfa)), ((md 10), .inl (cI, 16, .inl mca))]
abbrev wBX (cI : ClassId) (ad : Nat → Nat) (xa : Nat) (size rc : Int32) (g fs st ln su rr cr xf : Nat → Int32) : va_W := [((ad 0), .inr (0, [.int size, .int rc, .ref (ad 1), .ref (ad 2), .ref (ad 3), .ref (ad 4), .ref (ad 5), .ref (ad 6), .ref (ad 7)])), ((ad 1), .inl (cI, 16, .inl g)), ((ad 2), .inl (cI, 8, .inl fs)), ((ad 3), .inl (cI, 8, .inl st)), ((ad 4), .inl (cI, 8, .inl ln)), ((ad 5), .inl (cI, 8, .inl su)), ((ad 6), .inl (cI, 16, .inl rr)), ((ad 7), .inl (cI, 16, .inl cr)), (xa, .inl (cI, 16, .inl xf))]
abbrev wR (cI : ClassId) (a n : Nat) (row : Nat → Int32) : va_W := [(a, .inl (cI, n, .inl row))]
abbrev wE : va_W := []
theorem nar01 {v : Int32} (h : v = 0 ∨ v = 1) : narrow .boolean (.int v) = .int v := by rcases h with h | h <;> (subst h; rfl)
theorem inR_of {i : Int32} {n : Nat} (hn : n < 2 ^ 31) (h1 : ¬ i < 0) (h2 : ¬ nI n ≤ i) : vp_in i n := by
  intro h
  rcases h with h | h
  · exact h1 h
  · apply h2
    rw [Int32.le_iff_toInt_le, nI_toInt hn]
    have h3 : ¬ i.toInt < 0 := fun q => h1 (by rw [Int32.lt_iff_toInt_lt]; exact q)
    have h4 : i.toNatClampNeg = i.toInt.toNat := rfl
    omega
end
section
def f_J7_fill_53178_L5 (c1_5 : Int32) (c3_5 : Int32) (n : Nat) : Nat → Int32 → (Nat → Int32) → Option ((Nat → Int32))
  | 0, _, _ => none
  | n5 + 1, v2_5, row_5 =>
    (if c3_5 ≤ v2_5 then some row_5 else gd (inR v2_5 n) <| f_J7_fill_53178_L5 c1_5 c3_5 n n5 (v2_5 + 1) (upd row_5 ((v2_5 : Int32)).toNatClampNeg c1_5))
def f_J7_fill_53178 (N : Nat) (n : Nat) (row : Nat → Int32) (p1 : Int32) : Option ((Nat → Int32)) :=
  f_J7_fill_53178_L5 p1 (nI n) n N 0 row
def f_X0_hasCell (size : Int32) (p1 : Int32) : (Int32) :=
  jn (fun (_ : Unit) => 0) fun k34 => (if p1 < 0 then k34 () else (if 16 ≤ p1 then k34 () else (if size ≤ (p1 / 4) then k34 () else (if size ≤ (p1 - p1 / 4 * 4) then k34 () else 1))))
def f_X0_isOpen (size : Int32) (g : Nat → Int32) (p1 : Int32) : (Int32) :=
  jn (fun (_ : Unit) => 0) fun k24 => (if (f_X0_hasCell size p1) = 0 then k24 () else (if (f_X3_at 16 g p1) = (-1) then k24 () else 1))
def f_X0_addRun_L45 (c1_45 : Int32) (c2_45 : Int32) (c3_45 : Int32) (rc : Int32) (k86 : (Nat → Int32) → (Nat → Int32) → Option (Int32 × (Nat → Int32) × (Nat → Int32) × (Nat → Int32) × (Nat → Int32) × (Nat → Int32))) : Nat → Int32 → (Nat → Int32) → (Nat → Int32) → Option (Int32 × (Nat → Int32) × (Nat → Int32) × (Nat → Int32) × (Nat → Int32) × (Nat → Int32))
  | 0, _, _, _ => none
  | n45 + 1, v4_45, rr_45, cr_45 =>
    (if c3_45 ≤ v4_45 then k86 rr_45 cr_45 else (if c2_45 = 1 then f_X0_addRun_L45 c1_45 c2_45 c3_45 rc k86 n45 (v4_45 + 1) (f_X3_put 16 rr_45 (c1_45 + (v4_45 * c2_45)) rc) cr_45 else f_X0_addRun_L45 c1_45 c2_45 c3_45 rc k86 n45 (v4_45 + 1) rr_45 (f_X3_put 16 cr_45 (c1_45 + (v4_45 * c2_45)) rc)))
def f_X0_addRun (N : Nat) (rc : Int32) (fs : Nat → Int32) (st : Nat → Int32) (ln : Nat → Int32) (rr : Nat → Int32) (cr : Nat → Int32) (p1 : Int32) (p2 : Int32) (p3 : Int32) : Option (Int32 × (Nat → Int32) × (Nat → Int32) × (Nat → Int32) × (Nat → Int32) × (Nat → Int32)) :=
  (if 2 ≤ p3 then jn (fun (rr_86 : Nat → Int32) (cr_86 : Nat → Int32) => some ((rc + 1), (f_X3_put 8 fs rc p1), (f_X3_put 8 st rc p2), (f_X3_put 8 ln rc p3), rr_86, cr_86)) fun k86 => f_X0_addRun_L45 p1 p2 p3 rc k86 N 0 rr cr else some (rc, fs, st, ln, rr, cr))
def f_X0_findRunsOfLine_L5 (N : Nat) (c1_5 : Int32) (c2_5 : Int32) (size : Int32) (g : Nat → Int32) : Nat → Int32 → Int32 → Int32 → (Nat → Int32) → (Nat → Int32) → (Nat → Int32) → (Nat → Int32) → (Nat → Int32) → Option (Int32 × (Nat → Int32) × (Nat → Int32) × (Nat → Int32) × (Nat → Int32) × (Nat → Int32))
  | 0, _, _, _, _, _, _, _, _ => none
  | n5 + 1, v3_5, v4_5, rc_5, fs_5, st_5, ln_5, rr_5, cr_5 =>
    (if size < v4_5 then some (rc_5, fs_5, st_5, ln_5, rr_5, cr_5) else jn (fun (v3_58 : Int32) (rc_58 : Int32) (fs_58 : Nat → Int32) (st_58 : Nat → Int32) (ln_58 : Nat → Int32) (rr_58 : Nat → Int32) (cr_58 : Nat → Int32) => f_X0_findRunsOfLine_L5 N c1_5 c2_5 size g n5 v3_58 (v4_5 + 1) rc_58 fs_58 st_58 ln_58 rr_58 cr_58) fun k58 => jn (fun (_ : Unit) => (f_X0_addRun N rc_5 fs_5 st_5 ln_5 rr_5 cr_5 (c1_5 + ((v4_5 - v3_5) * c2_5)) c2_5 v3_5).bind fun x53 => k58 0 x53.1 x53.2.1 x53.2.2.1 x53.2.2.2.1 x53.2.2.2.2.1 x53.2.2.2.2.2) fun k42 => (if size ≤ v4_5 then k42 () else (if (f_X0_isOpen size g (c1_5 + (v4_5 * c2_5))) = 0 then k42 () else k58 (v3_5 + 1) rc_5 fs_5 st_5 ln_5 rr_5 cr_5)))
def f_X0_findRunsOfLine (N : Nat) (size : Int32) (rc : Int32) (g : Nat → Int32) (fs : Nat → Int32) (st : Nat → Int32) (ln : Nat → Int32) (rr : Nat → Int32) (cr : Nat → Int32) (p1 : Int32) (p2 : Int32) : Option (Int32 × (Nat → Int32) × (Nat → Int32) × (Nat → Int32) × (Nat → Int32) × (Nat → Int32)) :=
  f_X0_findRunsOfLine_L5 N p1 p2 size g N 0 0 rc fs st ln rr cr
def f_X0_findRuns_L55 (N : Nat) (size : Int32) (g : Nat → Int32) (su : Nat → Int32) : Nat → Int32 → Int32 → (Nat → Int32) → (Nat → Int32) → (Nat → Int32) → (Nat → Int32) → (Nat → Int32) → Option (Int32 × (Nat → Int32) × (Nat → Int32) × (Nat → Int32) × (Nat → Int32) × (Nat → Int32) × (Nat → Int32))
  | 0, _, _, _, _, _, _, _ => none
  | n55 + 1, v1_55, rc_55, fs_55, st_55, ln_55, rr_55, cr_55 =>
    (if size ≤ v1_55 then some (rc_55, fs_55, st_55, ln_55, su, rr_55, cr_55) else (f_X0_findRunsOfLine N size rc_55 g fs_55 st_55 ln_55 rr_55 cr_55 v1_55 4).bind fun x66 => f_X0_findRuns_L55 N size g su n55 (v1_55 + 1) x66.1 x66.2.1 x66.2.2.1 x66.2.2.2.1 x66.2.2.2.2.1 x66.2.2.2.2.2)
def f_X0_findRuns_L31 (N : Nat) (size : Int32) (g : Nat → Int32) (k53 : Int32 → (Nat → Int32) → (Nat → Int32) → (Nat → Int32) → (Nat → Int32) → (Nat → Int32) → Option (Int32 × (Nat → Int32) × (Nat → Int32) × (Nat → Int32) × (Nat → Int32) × (Nat → Int32) × (Nat → Int32))) : Nat → Int32 → Int32 → (Nat → Int32) → (Nat → Int32) → (Nat → Int32) → (Nat → Int32) → (Nat → Int32) → Option (Int32 × (Nat → Int32) × (Nat → Int32) × (Nat → Int32) × (Nat → Int32) × (Nat → Int32) × (Nat → Int32))
  | 0, _, _, _, _, _, _, _ => none
  | n31 + 1, v1_31, rc_31, fs_31, st_31, ln_31, rr_31, cr_31 =>
    (if size ≤ v1_31 then k53 rc_31 fs_31 st_31 ln_31 rr_31 cr_31 else (f_X0_findRunsOfLine N size rc_31 g fs_31 st_31 ln_31 rr_31 cr_31 (v1_31 * 4) 1).bind fun x44 => f_X0_findRuns_L31 N size g k53 n31 (v1_31 + 1) x44.1 x44.2.1 x44.2.2.1 x44.2.2.2.1 x44.2.2.2.2.1 x44.2.2.2.2.2)
def f_X0_findRuns (N : Nat) (size : Int32) (rc : Int32) (g : Nat → Int32) (fs : Nat → Int32) (st : Nat → Int32) (ln : Nat → Int32) (su : Nat → Int32) (rr : Nat → Int32) (cr : Nat → Int32) : Option (Int32 × (Nat → Int32) × (Nat → Int32) × (Nat → Int32) × (Nat → Int32) × (Nat → Int32) × (Nat → Int32)) :=
  (f_J7_fill_53178 N 8 su 0).bind fun x10 => (f_J7_fill_53178 N 16 rr (-1)).bind fun x18 => (f_J7_fill_53178 N 16 cr (-1)).bind fun x26 => jn (fun (rc_53 : Int32) (fs_53 : Nat → Int32) (st_53 : Nat → Int32) (ln_53 : Nat → Int32) (rr_53 : Nat → Int32) (cr_53 : Nat → Int32) => f_X0_findRuns_L55 N size g x10 N 0 rc_53 fs_53 st_53 ln_53 rr_53 cr_53) fun k53 => f_X0_findRuns_L31 N size g k53 N 0 0 fs st ln x18 x26
def f_X0_clear (N : Nat) (size : Int32) (rc : Int32) (g : Nat → Int32) (fs : Nat → Int32) (st : Nat → Int32) (ln : Nat → Int32) (su : Nat → Int32) (rr : Nat → Int32) (cr : Nat → Int32) (p1 : Int32) : Option (Int32 × Int32 × (Nat → Int32) × (Nat → Int32) × (Nat → Int32) × (Nat → Int32) × (Nat → Int32) × (Nat → Int32) × (Nat → Int32)) :=
  (f_J7_fill_53178 N 16 g 0).bind fun x10 => (f_X0_findRuns N p1 rc x10 fs st ln su rr cr).bind fun x14 => some (p1, x14.1, x10, x14.2.1, x14.2.2.1, x14.2.2.2.1, x14.2.2.2.2.1, x14.2.2.2.2.2.1, x14.2.2.2.2.2.2)
def f_X0_turn (N : Nat) (size : Int32) (rc : Int32) (g : Nat → Int32) (fs : Nat → Int32) (st : Nat → Int32) (ln : Nat → Int32) (su : Nat → Int32) (rr : Nat → Int32) (cr : Nat → Int32) (p1 : Int32) : Option (Int32 × (Nat → Int32) × (Nat → Int32) × (Nat → Int32) × (Nat → Int32) × (Nat → Int32) × (Nat → Int32) × (Nat → Int32)) :=
  jn (fun (t0_18 : Int32) => (f_X0_findRuns N size rc (f_X3_put 16 g p1 t0_18) fs st ln su rr cr).bind fun x22 => some (x22.1, (f_X3_put 16 g p1 t0_18), x22.2.1, x22.2.2.1, x22.2.2.2.1, x22.2.2.2.2.1, x22.2.2.2.2.2.1, x22.2.2.2.2.2.2)) fun k18 => (if (f_X0_isOpen size g p1) = 0 then k18 0 else k18 (-1))
def f_X0_oppositeOf (size : Int32) (p1 : Int32) : (Int32) :=
  ((((size - 1) - (p1 / 4)) * 4) + ((size - 1) - (p1 - p1 / 4 * 4)))
def f_X0_countOpen_L4 (size : Int32) (g : Nat → Int32) : Nat → Int32 → Int32 → Option (Int32)
  | 0, _, _ => none
  | n4 + 1, v1_4, v2_4 =>
    (if 16 ≤ v2_4 then some v1_4 else jn (fun (v1_21 : Int32) => f_X0_countOpen_L4 size g n4 v1_21 (v2_4 + 1)) fun k21 => (if (f_X0_isOpen size g v2_4) = 0 then k21 v1_4 else k21 (v1_4 + 1)))
def f_X0_countOpen (N : Nat) (size : Int32) (g : Nat → Int32) : Option (Int32) :=
  f_X0_countOpen_L4 size g N 0 0
def f_X0_countBarred (N : Nat) (size : Int32) (g : Nat → Int32) : Option (Int32) :=
  (f_X0_countOpen N size g).bind fun x10 => some ((size * size) - x10)
def f_X0_givenAt (g : Nat → Int32) (p1 : Int32) : (Int32) :=
  (f_X3_at 16 g p1)
def f_X0_putGiven (g : Nat → Int32) (p1 : Int32) (p2 : Int32) : ((Nat → Int32)) :=
  (f_X3_put 16 g p1 p2)
def f_X0_hasRun (rc : Int32) (p1 : Int32) : (Int32) :=
  jn (fun (_ : Unit) => 0) fun k16 => (if p1 < 0 then k16 () else (if rc ≤ p1 then k16 () else 1))
def f_X0_sumAt (su : Nat → Int32) (p1 : Int32) : (Int32) :=
  (f_X3_at 8 su p1)
def f_X0_putSum (su : Nat → Int32) (p1 : Int32) (p2 : Int32) : ((Nat → Int32)) :=
  (f_X3_put 8 su p1 p2)
def f_X0_isBlank (size : Int32) (g : Nat → Int32) (p1 : Int32) : (Int32) :=
  jn (fun (_ : Unit) => 0) fun k23 => (if (f_X0_hasCell size p1) = 0 then k23 () else (if (f_X3_at 16 g p1) = 0 then 1 else k23 ()))
def f_X0_countBlanks_L4 (size : Int32) (g : Nat → Int32) : Nat → Int32 → Int32 → Option (Int32)
  | 0, _, _ => none
  | n4 + 1, v1_4, v2_4 =>
    (if 16 ≤ v2_4 then some v1_4 else jn (fun (v1_21 : Int32) => f_X0_countBlanks_L4 size g n4 v1_21 (v2_4 + 1)) fun k21 => (if (f_X0_isBlank size g v2_4) = 0 then k21 v1_4 else k21 (v1_4 + 1)))
def f_X0_countBlanks (N : Nat) (size : Int32) (g : Nat → Int32) : Option (Int32) :=
  f_X0_countBlanks_L4 size g N 0 0
def f_X0_isFilled (N : Nat) (size : Int32) (g : Nat → Int32) : Option (Int32) :=
  (f_X0_countBlanks N size g).bind fun x1 => (if x1 = 0 then some 1 else some 0)
def f_X0_lengthAt (ln : Nat → Int32) (p1 : Int32) : (Int32) :=
  (f_X3_at 8 ln p1)
def f_X0_cellAt (fs : Nat → Int32) (st : Nat → Int32) (p1 : Int32) (p2 : Int32) : (Int32) :=
  ((f_X3_at 8 fs p1) + (p2 * (f_X3_at 8 st p1)))
def f_X0_hasTwice_L12 (c1_12 : Int32) (c4_12 : Int32) (fs : Nat → Int32) (st : Nat → Int32) (xf : Nat → Int32) : Nat → Int32 → Int32 → Option (Int32)
  | 0, _, _ => none
  | n12 + 1, v3_12, v5_12 =>
    (if c4_12 ≤ v5_12 then some 0 else (if (v3_12 &&& (1 <<< ((f_X3_at 16 xf (f_X0_cellAt fs st c1_12 v5_12)) &&& 31))) = 0 then f_X0_hasTwice_L12 c1_12 c4_12 fs st xf n12 (v3_12 ||| (1 <<< ((f_X3_at 16 xf (f_X0_cellAt fs st c1_12 v5_12)) &&& 31))) (v5_12 + 1) else some 1))
def f_X0_hasTwice (N : Nat) (fs : Nat → Int32) (st : Nat → Int32) (ln : Nat → Int32) (xf : Nat → Int32) (p1 : Int32) : Option (Int32) :=
  f_X0_hasTwice_L12 p1 (f_X0_lengthAt ln p1) fs st xf N 0 0
def f_X0_givesTwice_L2 (N : Nat) (rc : Int32) (g : Nat → Int32) (fs : Nat → Int32) (st : Nat → Int32) (ln : Nat → Int32) : Nat → Int32 → Option (Int32)
  | 0, _ => none
  | n2 + 1, v1_2 =>
    (if rc ≤ v1_2 then some 0 else (f_X0_hasTwice N fs st ln g v1_2).bind fun x16 => (if x16 = 0 then f_X0_givesTwice_L2 N rc g fs st ln n2 (v1_2 + 1) else some 1))
def f_X0_givesTwice (N : Nat) (rc : Int32) (g : Nat → Int32) (fs : Nat → Int32) (st : Nat → Int32) (ln : Nat → Int32) : Option (Int32) :=
  f_X0_givesTwice_L2 N rc g fs st ln N 0
def f_X0_totalOf_L12 (c1_12 : Int32) (c4_12 : Int32) (fs : Nat → Int32) (st : Nat → Int32) (xf : Nat → Int32) : Nat → Int32 → Int32 → Option (Int32)
  | 0, _, _ => none
  | n12 + 1, v3_12, v5_12 =>
    (if c4_12 ≤ v5_12 then some v3_12 else f_X0_totalOf_L12 c1_12 c4_12 fs st xf n12 (v3_12 + (f_X3_at 16 xf (f_X0_cellAt fs st c1_12 v5_12))) (v5_12 + 1))
def f_X0_totalOf (N : Nat) (fs : Nat → Int32) (st : Nat → Int32) (ln : Nat → Int32) (xf : Nat → Int32) (p1 : Int32) : Option (Int32) :=
  f_X0_totalOf_L12 p1 (f_X0_lengthAt ln p1) fs st xf N 0 0
def f_X0_sumAndEmpty_L35 (size : Int32) (su : Nat → Int32) : Nat → Int32 → (Nat → Int32) → Option ((Nat → Int32) × (Nat → Int32))
  | 0, _, _ => none
  | n35 + 1, v1_35, g_35 =>
    (if 16 ≤ v1_35 then some (g_35, su) else jn (fun (g_58 : Nat → Int32) => f_X0_sumAndEmpty_L35 size su n35 (v1_35 + 1) g_58) fun k58 => (if (f_X0_isOpen size g_35 v1_35) = 0 then k58 g_35 else k58 (f_X3_put 16 g_35 v1_35 0)))
def f_X0_sumAndEmpty_L2 (N : Nat) (rc : Int32) (g : Nat → Int32) (fs : Nat → Int32) (st : Nat → Int32) (ln : Nat → Int32) (k33 : (Nat → Int32) → Option ((Nat → Int32) × (Nat → Int32))) : Nat → Int32 → (Nat → Int32) → Option ((Nat → Int32) × (Nat → Int32))
  | 0, _, _ => none
  | n2 + 1, v1_2, su_2 =>
    (if rc ≤ v1_2 then k33 su_2 else (f_X0_totalOf N fs st ln g v1_2).bind fun x21 => f_X0_sumAndEmpty_L2 N rc g fs st ln k33 n2 (v1_2 + 1) (f_X3_put 8 su_2 v1_2 x21))
def f_X0_sumAndEmpty (N : Nat) (size : Int32) (rc : Int32) (g : Nat → Int32) (fs : Nat → Int32) (st : Nat → Int32) (ln : Nat → Int32) (su : Nat → Int32) : Option ((Nat → Int32) × (Nat → Int32)) :=
  jn (fun (su_33 : Nat → Int32) => f_X0_sumAndEmpty_L35 size su_33 N 0 g) fun k33 => f_X0_sumAndEmpty_L2 N rc g fs st ln k33 N 0 su
def f_X0_countRuns (rc : Int32) : (Int32) :=
  rc
def f_X0_firstAt (fs : Nat → Int32) (p1 : Int32) : (Int32) :=
  (f_X3_at 8 fs p1)
def f_X2_start_L7 (size : Int32) (g : Nat → Int32) : Nat → Int32 → Int32 → (Nat → Int32) → (Nat → Int32) → (Nat → Int32) → Option (Int32 × (Nat → Int32) × (Nat → Int32) × (Nat → Int32))
  | 0, _, _, _, _, _ => none
  | n7 + 1, v1_7, bc_7, bl_7, td_7, fi_7 =>
    (if 16 ≤ v1_7 then some (bc_7, bl_7, td_7, fi_7) else jn (fun (t0_50 : Int32) => jn (fun (bc_86 : Int32) (bl_86 : Nat → Int32) => f_X2_start_L7 size g n7 (v1_7 + 1) bc_86 bl_86 (f_X3_put 16 td_7 v1_7 0) (f_X3_put 16 fi_7 v1_7 t0_50)) fun k86 => (if (f_X0_isBlank size g v1_7) = 0 then k86 bc_7 bl_7 else k86 (bc_7 + 1) (f_X3_put 16 bl_7 bc_7 v1_7))) fun k50 => (if (f_X0_isOpen size g v1_7) = 0 then k50 0 else k50 (f_X0_givenAt g v1_7)))
def f_X2_start (N : Nat) (size : Int32) (g : Nat → Int32) (bc : Int32) (bl : Nat → Int32) (td : Nat → Int32) (fi : Nat → Int32) : Option (Int32 × (Nat → Int32) × (Nat → Int32) × (Nat → Int32)) :=
  f_X2_start_L7 size g N 0 0 bl td fi
def f_X0_isAnswer_L2 (N : Nat) (rc : Int32) (fs : Nat → Int32) (st : Nat → Int32) (ln : Nat → Int32) (su : Nat → Int32) (xf : Nat → Int32) : Nat → Int32 → Option (Int32)
  | 0, _ => none
  | n2 + 1, v2_2 =>
    (if rc ≤ v2_2 then some 1 else (f_X0_hasTwice N fs st ln xf v2_2).bind fun x19 => (if x19 = 0 then jn (fun (_ : Unit) => f_X0_isAnswer_L2 N rc fs st ln su xf n2 (v2_2 + 1)) fun k41 => (if (f_X0_sumAt su v2_2) = 0 then k41 () else (f_X0_totalOf N fs st ln xf v2_2).bind fun x32 => (if x32 = (f_X0_sumAt su v2_2) then k41 () else some 0)) else some 0))
def f_X0_isAnswer (N : Nat) (rc : Int32) (fs : Nat → Int32) (st : Nat → Int32) (ln : Nat → Int32) (su : Nat → Int32) (xf : Nat → Int32) : Option (Int32) :=
  f_X0_isAnswer_L2 N rc fs st ln su xf N 0
def f_X0_rowRunOf (rr : Nat → Int32) (p1 : Int32) : (Int32) :=
  (f_X3_at 16 rr p1)
def f_X2_suits_L25 (c1_25 : Int32) (c2_25 : Int32) (c5_25 : Int32) (fs : Nat → Int32) (st : Nat → Int32) (fi : Nat → Int32) (k80 : Int32 → Int32 → Option (Int32)) : Nat → Int32 → Int32 → Int32 → Option (Int32)
  | 0, _, _, _ => none
  | n25 + 1, v3_25, v4_25, v6_25 =>
    (if c5_25 ≤ v6_25 then k80 v3_25 v4_25 else (if (f_X3_at 16 fi (f_X0_cellAt fs st c1_25 v6_25)) = c2_25 then some 0 else jn (fun (v3_67 : Int32) => f_X2_suits_L25 c1_25 c2_25 c5_25 fs st fi k80 n25 v3_67 (v4_25 + (f_X3_at 16 fi (f_X0_cellAt fs st c1_25 v6_25))) (v6_25 + 1)) fun k67 => (if (f_X3_at 16 fi (f_X0_cellAt fs st c1_25 v6_25)) = 0 then k67 (v3_25 + 1) else k67 v3_25)))
def f_X2_suits (N : Nat) (fs : Nat → Int32) (st : Nat → Int32) (ln : Nat → Int32) (su : Nat → Int32) (fi : Nat → Int32) (p1 : Int32) (p2 : Int32) : Option (Int32) :=
  (if p1 = (-1) then some 1 else jn (fun (v3_80 : Int32) (v4_80 : Int32) => (if (f_X0_sumAt su p1) = 0 then some 1 else (if v3_80 ≤ 1 then (if v4_80 = (f_X0_sumAt su p1) then some 1 else some 0) else (if (f_X0_sumAt su p1) < v4_80 then some 0 else some 1)))) fun k80 => f_X2_suits_L25 p1 p2 (f_X0_lengthAt ln p1) fs st fi k80 N 0 p2 0)
def f_X0_columnRunOf (cr : Nat → Int32) (p1 : Int32) : (Int32) :=
  (f_X3_at 16 cr p1)
def f_X2_tryNext (N : Nat) (fs : Nat → Int32) (st : Nat → Int32) (ln : Nat → Int32) (su : Nat → Int32) (rr : Nat → Int32) (cr : Nat → Int32) (td : Nat → Int32) (fi : Nat → Int32) (p1 : Int32) : Option (Int32 × (Nat → Int32) × (Nat → Int32)) :=
  (f_X2_suits N fs st ln su (f_X3_put 16 fi p1 0) (f_X0_rowRunOf rr p1) ((f_X3_at 16 td p1) + 1)).bind fun x39 => (if x39 = 0 then some (0, (f_X3_put 16 td p1 ((f_X3_at 16 td p1) + 1)), (f_X3_put 16 fi p1 0)) else (f_X2_suits N fs st ln su (f_X3_put 16 fi p1 0) (f_X0_columnRunOf cr p1) ((f_X3_at 16 td p1) + 1)).bind fun x55 => (if x55 = 0 then some (0, (f_X3_put 16 td p1 ((f_X3_at 16 td p1) + 1)), (f_X3_put 16 fi p1 0)) else some (1, (f_X3_put 16 td p1 ((f_X3_at 16 td p1) + 1)), (f_X3_put 16 (f_X3_put 16 fi p1 0) p1 ((f_X3_at 16 td p1) + 1)))))
def f_X2_keepFirstAnswer_L2 (fi : Nat → Int32) : Nat → Int32 → (Nat → Int32) → Option ((Nat → Int32))
  | 0, _, _ => none
  | n2 + 1, v1_2, fa_2 =>
    (if 16 ≤ v1_2 then some fa_2 else f_X2_keepFirstAnswer_L2 fi n2 (v1_2 + 1) (f_X3_put 16 fa_2 v1_2 (f_X3_at 16 fi v1_2)))
def f_X2_keepFirstAnswer (N : Nat) (fi : Nat → Int32) (fa : Nat → Int32) : Option ((Nat → Int32)) :=
  f_X2_keepFirstAnswer_L2 fi N 0 fa
def f_X2_backFrom_L2 (bl : Nat → Int32) : Nat → Int32 → (Nat → Int32) → (Nat → Int32) → Option (Int32 × (Nat → Int32) × (Nat → Int32))
  | 0, _, _, _ => none
  | n2 + 1, v2_2, td_2, fi_2 =>
    (if v2_2 < 0 then some (v2_2, td_2, fi_2) else (if (f_X3_at 16 td_2 (f_X3_at 16 bl v2_2)) < 9 then some (v2_2, td_2, fi_2) else f_X2_backFrom_L2 bl n2 (v2_2 + (-1)) (f_X3_put 16 td_2 (f_X3_at 16 bl v2_2) 0) (f_X3_put 16 fi_2 (f_X3_at 16 bl v2_2) 0)))
def f_X2_backFrom (N : Nat) (bl : Nat → Int32) (td : Nat → Int32) (fi : Nat → Int32) (p1 : Int32) : Option (Int32 × (Nat → Int32) × (Nat → Int32)) :=
  f_X2_backFrom_L2 bl N p1 td fi
def f_X2_find_L38 (N : Nat) (c1_38 : Int32) (rc : Int32) (fs : Nat → Int32) (st : Nat → Int32) (ln : Nat → Int32) (su : Nat → Int32) (rr : Nat → Int32) (cr : Nat → Int32) (bc : Int32) (bl : Nat → Int32) : Nat → Int32 → Int32 → Int32 → (Nat → Int32) → (Nat → Int32) → (Nat → Int32) → Option (Int32 × Int32 × (Nat → Int32) × (Nat → Int32) × (Nat → Int32) × (Nat → Int32))
  | 0, _, _, _, _, _, _ => none
  | n38 + 1, v2_38, v3_38, v4_38, td_38, fi_38, fa_38 =>
    (if 20000 ≤ v4_38 then some ((-1), bc, bl, td_38, fi_38, fa_38) else (f_X2_tryNext N fs st ln su rr cr td_38 fi_38 (f_X3_at 16 bl v3_38)).bind fun x55 => jn (fun (v2_119 : Int32) (v3_119 : Int32) (fa_119 : Nat → Int32) => (f_X2_backFrom N bl x55.2.1 x55.2.2 v3_119).bind fun x121 => (if 0 ≤ x121.1 then f_X2_find_L38 N c1_38 rc fs st ln su rr cr bc bl n38 v2_119 x121.1 (v4_38 + 1) x121.2.1 x121.2.2 fa_119 else some (v2_119, bc, bl, x121.2.1, x121.2.2, fa_119))) fun k119 => jn (fun (_ : Unit) => (if x55.1 = 0 then k119 v2_38 v3_38 fa_38 else (f_X0_isAnswer N rc fs st ln su x55.2.2).bind fun x94 => (if x94 = 0 then k119 v2_38 v3_38 fa_38 else jn (fun (fa_112 : Nat → Int32) => (if (v2_38 + 1) < c1_38 then k119 (v2_38 + 1) v3_38 fa_112 else some ((v2_38 + 1), bc, bl, x55.2.1, x55.2.2, fa_112))) fun k112 => (if (v2_38 + 1) = 1 then (f_X2_keepFirstAnswer N x55.2.2 fa_38).bind fun x109 => k112 x109 else k112 fa_38)))) fun k81 => (if x55.1 = 0 then k81 () else (if bc ≤ (v3_38 + 1) then k81 () else k119 v2_38 (v3_38 + 1) fa_38)))
def f_X2_find (N : Nat) (size : Int32) (rc : Int32) (g : Nat → Int32) (fs : Nat → Int32) (st : Nat → Int32) (ln : Nat → Int32) (su : Nat → Int32) (rr : Nat → Int32) (cr : Nat → Int32) (bc : Int32) (bl : Nat → Int32) (td : Nat → Int32) (fi : Nat → Int32) (fa : Nat → Int32) (p1 : Int32) : Option (Int32 × Int32 × (Nat → Int32) × (Nat → Int32) × (Nat → Int32) × (Nat → Int32)) :=
  (f_X2_start N size g bc bl td fi).bind fun x1 => (if x1.1 = 0 then (f_X0_isAnswer N rc fs st ln su x1.2.2.2).bind fun x19 => (if x19 = 0 then some (0, x1.1, x1.2.1, x1.2.2.1, x1.2.2.2, fa) else some (1, x1.1, x1.2.1, x1.2.2.1, x1.2.2.2, fa)) else f_X2_find_L38 N p1 rc fs st ln su rr cr x1.1 x1.2.1 N 0 0 0 x1.2.2.1 x1.2.2.2 fa)
def f_X2_fillBy_L4 (bc : Int32) (bl : Nat → Int32) : Nat → Int32 → Int32 → (Nat → Int32) → Option ((Nat → Int32))
  | 0, _, _, _ => none
  | n4 + 1, v2_4, v3_4, fi_4 =>
    (if bc ≤ v3_4 then some fi_4 else f_X2_fillBy_L4 bc bl n4 (v2_4 / 9) (v3_4 + 1) (f_X3_put 16 fi_4 (f_X3_at 16 bl v3_4) ((v2_4 - v2_4 / 9 * 9) + 1)))
def f_X2_fillBy (N : Nat) (bc : Int32) (bl : Nat → Int32) (fi : Nat → Int32) (p1 : Int32) : Option ((Nat → Int32)) :=
  f_X2_fillBy_L4 bc bl N p1 0 fi
def f_X2_countByAll_L31 (N : Nat) (c1_31 : Int32) (rc : Int32) (fs : Nat → Int32) (st : Nat → Int32) (ln : Nat → Int32) (su : Nat → Int32) (bc : Int32) (bl : Nat → Int32) (td : Nat → Int32) : Nat → Int32 → Int32 → (Nat → Int32) → Option (Int32 × Int32 × (Nat → Int32) × (Nat → Int32) × (Nat → Int32))
  | 0, _, _, _ => none
  | n31 + 1, v2_31, v3_31, fi_31 =>
    (if c1_31 ≤ v3_31 then some (v2_31, bc, bl, td, fi_31) else (f_X2_fillBy N bc bl fi_31 v3_31).bind fun x38 => (f_X0_isAnswer N rc fs st ln su x38).bind fun x49 => jn (fun (v2_58 : Int32) => f_X2_countByAll_L31 N c1_31 rc fs st ln su bc bl td n31 v2_58 (v3_31 + 1) x38) fun k58 => (if x49 = 0 then k58 v2_31 else k58 (v2_31 + 1)))
def f_X2_countByAll_L8 (bc : Int32) (k27 : Int32 → Option (Int32 × Int32 × (Nat → Int32) × (Nat → Int32) × (Nat → Int32))) : Nat → Int32 → Int32 → Option (Int32 × Int32 × (Nat → Int32) × (Nat → Int32) × (Nat → Int32))
  | 0, _, _ => none
  | n8 + 1, v1_8, v2_8 =>
    (if bc ≤ v2_8 then k27 v1_8 else f_X2_countByAll_L8 bc k27 n8 (v1_8 * 9) (v2_8 + 1))
def f_X2_countByAll (N : Nat) (size : Int32) (rc : Int32) (g : Nat → Int32) (fs : Nat → Int32) (st : Nat → Int32) (ln : Nat → Int32) (su : Nat → Int32) (bc : Int32) (bl : Nat → Int32) (td : Nat → Int32) (fi : Nat → Int32) : Option (Int32 × Int32 × (Nat → Int32) × (Nat → Int32) × (Nat → Int32)) :=
  (f_X2_start N size g bc bl td fi).bind fun x1 => jn (fun (v1_27 : Int32) => f_X2_countByAll_L31 N v1_27 rc fs st ln su x1.1 x1.2.1 x1.2.2.1 N 0 0 x1.2.2.2) fun k27 => f_X2_countByAll_L8 x1.1 k27 N 1 0
def f_X2_firstUnlike_L2 (fi : Nat → Int32) (fa : Nat → Int32) : Nat → Int32 → Option (Int32)
  | 0, _ => none
  | n2 + 1, v1_2 =>
    (if 16 ≤ v1_2 then some (-1) else (if (f_X3_at 16 fa v1_2) = (f_X3_at 16 fi v1_2) then f_X2_firstUnlike_L2 fi fa n2 (v1_2 + 1) else some v1_2))
def f_X2_firstUnlike (N : Nat) (fi : Nat → Int32) (fa : Nat → Int32) : Option (Int32) :=
  f_X2_firstUnlike_L2 fi fa N 0
def f_X2_firstAnswerAt (fa : Nat → Int32) (p1 : Int32) : (Int32) :=
  (f_X3_at 16 fa p1)
def f_X1_firstSetOf (size : Int32) (g : Nat → Int32) (p1 : Int32) : (Int32) :=
  (if (f_X0_isOpen size g p1) = 0 then 0 else (if (f_X0_isBlank size g p1) = 0 then (1 <<< ((f_X0_givenAt g p1) &&& 31)) else 1022))
def f_X1_start_L7 (size : Int32) (g : Nat → Int32) (gr : Int32) : Nat → Int32 → (Nat → Int32) → Option (Int32 × (Nat → Int32))
  | 0, _, _ => none
  | n7 + 1, v1_7, se_7 =>
    (if 16 ≤ v1_7 then some (gr, se_7) else f_X1_start_L7 size g gr n7 (v1_7 + 1) (f_X3_put 16 se_7 v1_7 (f_X1_firstSetOf size g v1_7)))
def f_X1_start (N : Nat) (size : Int32) (g : Nat → Int32) (gr : Int32) (se : Nat → Int32) : Option (Int32 × (Nat → Int32)) :=
  f_X1_start_L7 size g 0 N 0 se
def f_J6_bitCount_0f7a4 (p0 : Int32) : (Int32) :=
  ((((((((p0 - ((((p0 : Int32).toUInt32 >>> ((1 : Int32).toUInt32 &&& Int32.toUInt32 31)).toInt32) &&& 1431655765)) &&& 858993459) + (((((p0 - ((((p0 : Int32).toUInt32 >>> ((1 : Int32).toUInt32 &&& Int32.toUInt32 31)).toInt32) &&& 1431655765)) : Int32).toUInt32 >>> ((2 : Int32).toUInt32 &&& Int32.toUInt32 31)).toInt32) &&& 858993459)) + ((((((p0 - ((((p0 : Int32).toUInt32 >>> ((1 : Int32).toUInt32 &&& Int32.toUInt32 31)).toInt32) &&& 1431655765)) &&& 858993459) + (((((p0 - ((((p0 : Int32).toUInt32 >>> ((1 : Int32).toUInt32 &&& Int32.toUInt32 31)).toInt32) &&& 1431655765)) : Int32).toUInt32 >>> ((2 : Int32).toUInt32 &&& Int32.toUInt32 31)).toInt32) &&& 858993459)) : Int32).toUInt32 >>> ((4 : Int32).toUInt32 &&& Int32.toUInt32 31)).toInt32)) &&& 252645135) + ((((((((p0 - ((((p0 : Int32).toUInt32 >>> ((1 : Int32).toUInt32 &&& Int32.toUInt32 31)).toInt32) &&& 1431655765)) &&& 858993459) + (((((p0 - ((((p0 : Int32).toUInt32 >>> ((1 : Int32).toUInt32 &&& Int32.toUInt32 31)).toInt32) &&& 1431655765)) : Int32).toUInt32 >>> ((2 : Int32).toUInt32 &&& Int32.toUInt32 31)).toInt32) &&& 858993459)) + ((((((p0 - ((((p0 : Int32).toUInt32 >>> ((1 : Int32).toUInt32 &&& Int32.toUInt32 31)).toInt32) &&& 1431655765)) &&& 858993459) + (((((p0 - ((((p0 : Int32).toUInt32 >>> ((1 : Int32).toUInt32 &&& Int32.toUInt32 31)).toInt32) &&& 1431655765)) : Int32).toUInt32 >>> ((2 : Int32).toUInt32 &&& Int32.toUInt32 31)).toInt32) &&& 858993459)) : Int32).toUInt32 >>> ((4 : Int32).toUInt32 &&& Int32.toUInt32 31)).toInt32)) &&& 252645135) : Int32).toUInt32 >>> ((8 : Int32).toUInt32 &&& Int32.toUInt32 31)).toInt32)) + (((((((((p0 - ((((p0 : Int32).toUInt32 >>> ((1 : Int32).toUInt32 &&& Int32.toUInt32 31)).toInt32) &&& 1431655765)) &&& 858993459) + (((((p0 - ((((p0 : Int32).toUInt32 >>> ((1 : Int32).toUInt32 &&& Int32.toUInt32 31)).toInt32) &&& 1431655765)) : Int32).toUInt32 >>> ((2 : Int32).toUInt32 &&& Int32.toUInt32 31)).toInt32) &&& 858993459)) + ((((((p0 - ((((p0 : Int32).toUInt32 >>> ((1 : Int32).toUInt32 &&& Int32.toUInt32 31)).toInt32) &&& 1431655765)) &&& 858993459) + (((((p0 - ((((p0 : Int32).toUInt32 >>> ((1 : Int32).toUInt32 &&& Int32.toUInt32 31)).toInt32) &&& 1431655765)) : Int32).toUInt32 >>> ((2 : Int32).toUInt32 &&& Int32.toUInt32 31)).toInt32) &&& 858993459)) : Int32).toUInt32 >>> ((4 : Int32).toUInt32 &&& Int32.toUInt32 31)).toInt32)) &&& 252645135) + ((((((((p0 - ((((p0 : Int32).toUInt32 >>> ((1 : Int32).toUInt32 &&& Int32.toUInt32 31)).toInt32) &&& 1431655765)) &&& 858993459) + (((((p0 - ((((p0 : Int32).toUInt32 >>> ((1 : Int32).toUInt32 &&& Int32.toUInt32 31)).toInt32) &&& 1431655765)) : Int32).toUInt32 >>> ((2 : Int32).toUInt32 &&& Int32.toUInt32 31)).toInt32) &&& 858993459)) + ((((((p0 - ((((p0 : Int32).toUInt32 >>> ((1 : Int32).toUInt32 &&& Int32.toUInt32 31)).toInt32) &&& 1431655765)) &&& 858993459) + (((((p0 - ((((p0 : Int32).toUInt32 >>> ((1 : Int32).toUInt32 &&& Int32.toUInt32 31)).toInt32) &&& 1431655765)) : Int32).toUInt32 >>> ((2 : Int32).toUInt32 &&& Int32.toUInt32 31)).toInt32) &&& 858993459)) : Int32).toUInt32 >>> ((4 : Int32).toUInt32 &&& Int32.toUInt32 31)).toInt32)) &&& 252645135) : Int32).toUInt32 >>> ((8 : Int32).toUInt32 &&& Int32.toUInt32 31)).toInt32)) : Int32).toUInt32 >>> ((16 : Int32).toUInt32 &&& Int32.toUInt32 31)).toInt32)) &&& 63)
def f_X1_isSingle (p0 : Int32) : (Int32) :=
  (if (f_J6_bitCount_0f7a4 p0) = 1 then 1 else 0)
def f_X1_take (tk : Int32) (se : Nat → Int32) (p1 : Int32) (p2 : Int32) : (Int32 × (Nat → Int32)) :=
  (if ((f_X3_at 16 se p1) &&& p2) = 0 then (tk, se) else (1, (f_X3_put 16 se p1 ((f_X3_at 16 se p1) &&& (p2 ^^^ (-1))))))
def f_X1_takeSingles_L48 (c1_48 : Int32) (c2_48 : Int32) (c3_48 : Int32) (c4_48 : Int32) (fs : Nat → Int32) (st : Nat → Int32) (k82 : Int32 → (Nat → Int32) → Option (Int32 × (Nat → Int32))) : Nat → Int32 → Int32 → (Nat → Int32) → Option (Int32 × (Nat → Int32))
  | 0, _, _, _ => none
  | n48 + 1, v5_48, tk_48, se_48 =>
    (if c2_48 ≤ v5_48 then k82 tk_48 se_48 else jn (fun (tk_76 : Int32) (se_76 : Nat → Int32) => f_X1_takeSingles_L48 c1_48 c2_48 c3_48 c4_48 fs st k82 n48 (v5_48 + 1) tk_76 se_76) fun k76 => (if v5_48 = c3_48 then k76 tk_48 se_48 else jn (f_X1_take tk_48 se_48 (f_X0_cellAt fs st c1_48 v5_48) c4_48) fun x73 => k76 x73.1 x73.2))
def f_X1_takeSingles_L11 (N : Nat) (c1_11 : Int32) (c2_11 : Int32) (fs : Nat → Int32) (st : Nat → Int32) : Nat → Int32 → Int32 → (Nat → Int32) → Option (Int32 × (Nat → Int32))
  | 0, _, _, _ => none
  | n11 + 1, v3_11, tk_11, se_11 =>
    (if c2_11 ≤ v3_11 then some (tk_11, se_11) else jn (fun (tk_82 : Int32) (se_82 : Nat → Int32) => f_X1_takeSingles_L11 N c1_11 c2_11 fs st n11 (v3_11 + 1) tk_82 se_82) fun k82 => (if (f_X1_isSingle (f_X3_at 16 se_11 (f_X0_cellAt fs st c1_11 v3_11))) = 0 then k82 tk_11 se_11 else f_X1_takeSingles_L48 c1_11 c2_11 v3_11 (f_X3_at 16 se_11 (f_X0_cellAt fs st c1_11 v3_11)) fs st k82 N 0 tk_11 se_11))
def f_X1_takeSingles (N : Nat) (fs : Nat → Int32) (st : Nat → Int32) (ln : Nat → Int32) (tk : Int32) (se : Nat → Int32) (p1 : Int32) : Option (Int32 × (Nat → Int32)) :=
  f_X1_takeSingles_L11 N p1 (f_X0_lengthAt ln p1) fs st N 0 tk se
def f_X1_sumOfSet_L4 (c0_4 : Int32) : Nat → Int32 → Int32 → Option (Int32)
  | 0, _, _ => none
  | n4 + 1, v1_4, v2_4 =>
    (if 9 < v2_4 then some v1_4 else jn (fun (v1_22 : Int32) => f_X1_sumOfSet_L4 c0_4 n4 v1_22 (v2_4 + 1)) fun k22 => (if (c0_4 &&& (1 <<< (v2_4 &&& 31))) = 0 then k22 v1_4 else k22 (v1_4 + v2_4)))
def f_X1_sumOfSet (N : Nat) (p0 : Int32) : Option (Int32) :=
  f_X1_sumOfSet_L4 p0 N 0 1
def f_X1_digitsOfSets_L5 (N : Nat) (c0_5 : Int32) (c1_5 : Int32) (c2_5 : Int32) : Nat → Int32 → Int32 → Option (Int32)
  | 0, _, _ => none
  | n5 + 1, v3_5, v4_5 =>
    (if 1022 < v4_5 then some v3_5 else jn (fun (v3_44 : Int32) => f_X1_digitsOfSets_L5 N c0_5 c1_5 c2_5 n5 v3_44 (v4_5 + 2)) fun k44 => (if (f_J6_bitCount_0f7a4 v4_5) = c0_5 then (if (v4_5 &&& c2_5) = c2_5 then (f_X1_sumOfSet N v4_5).bind fun x32 => (if x32 = c1_5 then k44 (v3_5 ||| v4_5) else k44 v3_5) else k44 v3_5) else k44 v3_5))
def f_X1_digitsOfSets (N : Nat) (p0 : Int32) (p1 : Int32) (p2 : Int32) : Option (Int32) :=
  f_X1_digitsOfSets_L5 N p0 p1 p2 N 0 0
def f_X1_takeOutsideSets_L76 (c1_76 : Int32) (c2_76 : Int32) (c4_76 : Int32) (fs : Nat → Int32) (st : Nat → Int32) : Nat → Int32 → Int32 → (Nat → Int32) → Option (Int32 × (Nat → Int32))
  | 0, _, _, _ => none
  | n76 + 1, v5_76, tk_76, se_76 =>
    (if c2_76 ≤ v5_76 then some (tk_76, se_76) else jn (f_X1_take tk_76 se_76 (f_X0_cellAt fs st c1_76 v5_76) (1022 &&& (c4_76 ^^^ (-1)))) fun x101 => f_X1_takeOutsideSets_L76 c1_76 c2_76 c4_76 fs st n76 (v5_76 + 1) x101.1 x101.2)
def f_X1_takeOutsideSets_L14 (c1_14 : Int32) (c2_14 : Int32) (fs : Nat → Int32) (st : Nat → Int32) (se : Nat → Int32) (k58 : Int32 → Option (Int32 × (Nat → Int32))) : Nat → Int32 → Int32 → Option (Int32 × (Nat → Int32))
  | 0, _, _ => none
  | n14 + 1, v3_14, v4_14 =>
    (if c2_14 ≤ v4_14 then k58 v3_14 else jn (fun (v3_52 : Int32) => f_X1_takeOutsideSets_L14 c1_14 c2_14 fs st se k58 n14 v3_52 (v4_14 + 1)) fun k52 => (if (f_X1_isSingle (f_X3_at 16 se (f_X0_cellAt fs st c1_14 v4_14))) = 0 then k52 v3_14 else k52 (v3_14 ||| (f_X3_at 16 se (f_X0_cellAt fs st c1_14 v4_14)))))
def f_X1_takeOutsideSets (N : Nat) (fs : Nat → Int32) (st : Nat → Int32) (ln : Nat → Int32) (su : Nat → Int32) (tk : Int32) (se : Nat → Int32) (p1 : Int32) : Option (Int32 × (Nat → Int32)) :=
  jn (fun (v3_58 : Int32) => (f_X1_digitsOfSets N (f_X0_lengthAt ln p1) (f_X0_sumAt su p1) v3_58).bind fun x68 => f_X1_takeOutsideSets_L76 p1 (f_X0_lengthAt ln p1) x68 fs st N 0 tk se) fun k58 => f_X1_takeOutsideSets_L14 p1 (f_X0_lengthAt ln p1) fs st se k58 N 0 0
def f_X1_canMake_L37 (c1_37 : Int32) (c2_37 : Int32) (c3_37 : Int32) (c4_37 : Int32) (rec : Int32 → Int32 → Int32 → Option Int32) : Nat → Int32 → Option (Int32)
  | 0, _ => none
  | n37 + 1, v5_37 =>
    (if 9 < v5_37 then some 0 else (if c2_37 < v5_37 then some 0 else jn (fun (_ : Unit) => f_X1_canMake_L37 c1_37 c2_37 c3_37 c4_37 rec n37 (v5_37 + 1)) fun k84 => (if (c4_37 &&& (1 <<< (v5_37 &&& 31))) = 0 then k84 () else (rec (c1_37 - 1) (c2_37 - v5_37) (c3_37 ||| (1 <<< (v5_37 &&& 31)))).bind fun x76 => (if x76 = 0 then k84 () else some 1))))
def f_X1_canMake_1 (N : Nat) (n : Nat) (row : Nat → Int32) (rec : Int32 → Int32 → Int32 → Option Int32) (p1 : Int32) (p2 : Int32) (p3 : Int32) : Option (Int32) :=
  (if 0 < p1 then (if p1 ≤ 4 then f_X1_canMake_L37 p1 p2 p3 ((f_X3_at n row (p1 - 1)) &&& (p3 ^^^ (-1))) rec N 1 else some 0) else (if p2 = 0 then some 1 else some 0))
def f_X1_canMake (N : Nat) : Nat → Nat → (Nat → Int32) → Int32 → Int32 → Int32 → Option (Int32)
  | 0, _, _, _, _, _ => none
  | d + 1, n, row, p1, p2, p3 => f_X1_canMake_1 N n row (f_X1_canMake N d n row) p1 p2 p3
def f_X1_takeUnfit_L67 (N : Nat) (c1_67 : Int32) (c2_67 : Int32) (c3_67 : Int32) (c4_67 : Int32) (su : Nat → Int32) (k139 : Int32 → (Nat → Int32) → (Nat → Int32) → Option (Int32 × (Nat → Int32) × (Nat → Int32))) : Nat → Int32 → Int32 → (Nat → Int32) → (Nat → Int32) → Option (Int32 × (Nat → Int32) × (Nat → Int32))
  | 0, _, _, _, _ => none
  | n67 + 1, v5_67, tk_67, se_67, sr_67 =>
    (if 9 < v5_67 then k139 tk_67 se_67 sr_67 else jn (fun (tk_133 : Int32) (se_133 : Nat → Int32) => f_X1_takeUnfit_L67 N c1_67 c2_67 c3_67 c4_67 su k139 n67 (v5_67 + 1) tk_133 se_133 (f_X3_put 4 sr_67 c3_67 ((f_X3_at 16 se_67 c4_67) &&& (1 <<< (v5_67 &&& 31))))) fun k133 => (if ((f_X3_at 16 se_67 c4_67) &&& (1 <<< (v5_67 &&& 31))) = 0 then k133 tk_67 se_67 else (f_X1_canMake N 6 4 (f_X3_put 4 sr_67 c3_67 ((f_X3_at 16 se_67 c4_67) &&& (1 <<< (v5_67 &&& 31)))) c2_67 (f_X0_sumAt su c1_67) 0).bind fun x119 => (if x119 = 0 then jn (f_X1_take tk_67 se_67 c4_67 ((f_X3_at 16 se_67 c4_67) &&& (1 <<< (v5_67 &&& 31)))) fun x130 => k133 x130.1 x130.2 else k133 tk_67 se_67)))
def f_X1_takeUnfit_L48 (N : Nat) (c1_48 : Int32) (c2_48 : Int32) (fs : Nat → Int32) (st : Nat → Int32) (su : Nat → Int32) : Nat → Int32 → Int32 → (Nat → Int32) → (Nat → Int32) → Option (Int32 × (Nat → Int32) × (Nat → Int32))
  | 0, _, _, _, _ => none
  | n48 + 1, v3_48, tk_48, se_48, sr_48 =>
    (if c2_48 ≤ v3_48 then some (tk_48, se_48, sr_48) else jn (fun (tk_139 : Int32) (se_139 : Nat → Int32) (sr_139 : Nat → Int32) => f_X1_takeUnfit_L48 N c1_48 c2_48 fs st su n48 (v3_48 + 1) tk_139 se_139 (f_X3_put 4 sr_139 v3_48 (f_X3_at 16 se_139 (f_X0_cellAt fs st c1_48 v3_48)))) fun k139 => f_X1_takeUnfit_L67 N c1_48 c2_48 v3_48 (f_X0_cellAt fs st c1_48 v3_48) su k139 N 1 tk_48 se_48 sr_48)
def f_X1_takeUnfit_L11 (c1_11 : Int32) (c2_11 : Int32) (fs : Nat → Int32) (st : Nat → Int32) (se : Nat → Int32) (k46 : (Nat → Int32) → Option (Int32 × (Nat → Int32) × (Nat → Int32))) : Nat → Int32 → (Nat → Int32) → Option (Int32 × (Nat → Int32) × (Nat → Int32))
  | 0, _, _ => none
  | n11 + 1, v3_11, sr_11 =>
    (if c2_11 ≤ v3_11 then k46 sr_11 else f_X1_takeUnfit_L11 c1_11 c2_11 fs st se k46 n11 (v3_11 + 1) (f_X3_put 4 sr_11 v3_11 (f_X3_at 16 se (f_X0_cellAt fs st c1_11 v3_11))))
def f_X1_takeUnfit (N : Nat) (fs : Nat → Int32) (st : Nat → Int32) (ln : Nat → Int32) (su : Nat → Int32) (tk : Int32) (se : Nat → Int32) (sr : Nat → Int32) (p1 : Int32) : Option (Int32 × (Nat → Int32) × (Nat → Int32)) :=
  jn (fun (sr_46 : Nat → Int32) => f_X1_takeUnfit_L48 N p1 (f_X0_lengthAt ln p1) fs st su N 0 tk se sr_46) fun k46 => f_X1_takeUnfit_L11 p1 (f_X0_lengthAt ln p1) fs st se k46 N 0 sr
def f_X1_goThrough_L15 (N : Nat) (c1_15 : Int32) (c2_15 : Int32) (fs : Nat → Int32) (st : Nat → Int32) (ln : Nat → Int32) (su : Nat → Int32) : Nat → Int32 → Int32 → (Nat → Int32) → (Nat → Int32) → Option (Int32 × (Nat → Int32) × (Nat → Int32))
  | 0, _, _, _, _ => none
  | n15 + 1, v3_15, tk_15, se_15, sr_15 =>
    (if c2_15 ≤ v3_15 then some (tk_15, se_15, sr_15) else jn (fun (tk_62 : Int32) (se_62 : Nat → Int32) (sr_62 : Nat → Int32) => f_X1_goThrough_L15 N c1_15 c2_15 fs st ln su n15 (v3_15 + 1) tk_62 se_62 sr_62) fun k62 => (if c1_15 = 1 then (f_X1_takeSingles N fs st ln tk_15 se_15 v3_15).bind fun x27 => k62 x27.1 x27.2 sr_15 else (if (f_X0_sumAt su v3_15) = 0 then k62 tk_15 se_15 sr_15 else (if c1_15 = 2 then (f_X1_takeOutsideSets N fs st ln su tk_15 se_15 v3_15).bind fun x51 => k62 x51.1 x51.2 sr_15 else (f_X1_takeUnfit N fs st ln su tk_15 se_15 sr_15 v3_15).bind fun x59 => k62 x59.1 x59.2.1 x59.2.2))))
def f_X1_goThrough (N : Nat) (rc : Int32) (fs : Nat → Int32) (st : Nat → Int32) (ln : Nat → Int32) (su : Nat → Int32) (tk : Int32) (se : Nat → Int32) (sr : Nat → Int32) (p1 : Int32) : Option (Int32 × (Nat → Int32) × (Nat → Int32)) :=
  f_X1_goThrough_L15 N p1 (f_X0_countRuns rc) fs st ln su N 0 0 se sr
def f_X1_hasEmptyCell_L2 (size : Int32) (g : Nat → Int32) (se : Nat → Int32) : Nat → Int32 → Option (Int32)
  | 0, _ => none
  | n2 + 1, v1_2 =>
    (if 16 ≤ v1_2 then some 0 else jn (fun (_ : Unit) => f_X1_hasEmptyCell_L2 size g se n2 (v1_2 + 1)) fun k32 => (if (f_X0_isOpen size g v1_2) = 0 then k32 () else (if (f_X3_at 16 se v1_2) = 0 then some 1 else k32 ())))
def f_X1_hasEmptyCell (N : Nat) (size : Int32) (g : Nat → Int32) (se : Nat → Int32) : Option (Int32) :=
  f_X1_hasEmptyCell_L2 size g se N 0
def f_X1_solve_L8 (N : Nat) (c1_8 : Int32) (size : Int32) (rc : Int32) (g : Nat → Int32) (fs : Nat → Int32) (st : Nat → Int32) (ln : Nat → Int32) (su : Nat → Int32) : Nat → Int32 → Int32 → Int32 → Int32 → (Nat → Int32) → (Nat → Int32) → Option (Int32 × Int32 × (Nat → Int32) × (Nat → Int32))
  | 0, _, _, _, _, _, _ => none
  | n8 + 1, v2_8, v3_8, tk_8, gr_8, se_8, sr_8 =>
    (if 1000 ≤ v3_8 then some (tk_8, gr_8, se_8, sr_8) else (if c1_8 < v2_8 then some (tk_8, gr_8, se_8, sr_8) else (f_X1_goThrough N rc fs st ln su tk_8 se_8 sr_8 v2_8).bind fun x22 => jn (fun (gr_44 : Int32) => (f_X1_hasEmptyCell N size g x22.2.1).bind fun x45 => (if x45 = 0 then jn (fun (t0_66 : Int32) => f_X1_solve_L8 N c1_8 size rc g fs st ln su n8 t0_66 (v3_8 + 1) x22.1 gr_44 x22.2.1 x22.2.2) fun k66 => (if x22.1 = 0 then k66 (v2_8 + 1) else k66 1) else some (x22.1, gr_44, x22.2.1, x22.2.2))) fun k44 => (if x22.1 = 0 then k44 gr_8 else k44 (if gr_8 < v2_8 then v2_8 else gr_8))))
def f_X1_solve (N : Nat) (size : Int32) (rc : Int32) (g : Nat → Int32) (fs : Nat → Int32) (st : Nat → Int32) (ln : Nat → Int32) (su : Nat → Int32) (tk : Int32) (gr : Int32) (se : Nat → Int32) (sr : Nat → Int32) (p1 : Int32) : Option (Int32 × Int32 × (Nat → Int32) × (Nat → Int32)) :=
  (f_X1_start N size g gr se).bind fun x1 => f_X1_solve_L8 N p1 size rc g fs st ln su N 1 0 tk x1.1 x1.2 sr
def f_X1_isSolved_L2 (size : Int32) (g : Nat → Int32) (se : Nat → Int32) : Nat → Int32 → Option (Int32)
  | 0, _ => none
  | n2 + 1, v1_2 =>
    (if 16 ≤ v1_2 then some 1 else jn (fun (_ : Unit) => f_X1_isSolved_L2 size g se n2 (v1_2 + 1)) fun k35 => (if (f_X0_isOpen size g v1_2) = 0 then k35 () else (if (f_X1_isSingle (f_X3_at 16 se v1_2)) = 0 then some 0 else k35 ())))
def f_X1_isSolved (N : Nat) (size : Int32) (g : Nat → Int32) (se : Nat → Int32) : Option (Int32) :=
  f_X1_isSolved_L2 size g se N 0
def f_X1_greatestRule (gr : Int32) : (Int32) :=
  gr
def f_X1_setAt (se : Nat → Int32) (p1 : Int32) : (Int32) :=
  (f_X3_at 16 se p1)
def f_X1_firstFound_L2 (size : Int32) (g : Nat → Int32) (se : Nat → Int32) : Nat → Int32 → Option (Int32)
  | 0, _ => none
  | n2 + 1, v1_2 =>
    (if 16 ≤ v1_2 then some (-1) else jn (fun (_ : Unit) => f_X1_firstFound_L2 size g se n2 (v1_2 + 1)) fun k35 => (if (f_X0_isBlank size g v1_2) = 0 then k35 () else (if (f_X1_isSingle (f_X3_at 16 se v1_2)) = 0 then k35 () else some v1_2)))
def f_X1_firstFound (N : Nat) (size : Int32) (g : Nat → Int32) (se : Nat → Int32) : Option (Int32) :=
  f_X1_firstFound_L2 size g se N 0
def f_X1_solveToHint_L2 (N : Nat) (size : Int32) (rc : Int32) (g : Nat → Int32) (fs : Nat → Int32) (st : Nat → Int32) (ln : Nat → Int32) (su : Nat → Int32) : Nat → Int32 → Int32 → Int32 → (Nat → Int32) → (Nat → Int32) → Option (Int32 × Int32 × Int32 × (Nat → Int32) × (Nat → Int32))
  | 0, _, _, _, _, _ => none
  | n2 + 1, v1_2, tk_2, gr_2, se_2, sr_2 =>
    (if 3 < v1_2 then some ((-1), tk_2, gr_2, se_2, sr_2) else (f_X1_solve N size rc g fs st ln su tk_2 gr_2 se_2 sr_2 v1_2).bind fun x9 => (f_X1_firstFound N size g x9.2.2.1).bind fun x13 => (if x13 = (-1) then f_X1_solveToHint_L2 N size rc g fs st ln su n2 (v1_2 + 1) x9.1 x9.2.1 x9.2.2.1 x9.2.2.2 else some (v1_2, x9.1, x9.2.1, x9.2.2.1, x9.2.2.2)))
def f_X1_solveToHint (N : Nat) (size : Int32) (rc : Int32) (g : Nat → Int32) (fs : Nat → Int32) (st : Nat → Int32) (ln : Nat → Int32) (su : Nat → Int32) (tk : Int32) (gr : Int32) (se : Nat → Int32) (sr : Nat → Int32) : Option (Int32 × Int32 × Int32 × (Nat → Int32) × (Nat → Int32)) :=
  f_X1_solveToHint_L2 N size rc g fs st ln su N 1 tk gr se sr
end
section
theorem dJ7_fill_53178_0 : decode cJ7_fill_53178 0 = .ok (.iconst 0, 1) := by decide +kernel
theorem dJ7_fill_53178_1 : decode cJ7_fill_53178 1 = .ok (.istore_n 2, 1) := by decide +kernel
theorem dJ7_fill_53178_2 : decode cJ7_fill_53178 2 = .ok (.aload_n 0, 1) := by decide +kernel
theorem dJ7_fill_53178_3 : decode cJ7_fill_53178 3 = .ok (.arraylength, 1) := by decide +kernel
theorem dJ7_fill_53178_4 : decode cJ7_fill_53178 4 = .ok (.istore_n 3, 1) := by decide +kernel
theorem dJ7_fill_53178_5 : decode cJ7_fill_53178 5 = .ok (.iload_n 2, 1) := by decide +kernel
theorem dJ7_fill_53178_6 : decode cJ7_fill_53178 6 = .ok (.iload_n 3, 1) := by decide +kernel
theorem dJ7_fill_53178_7 : decode cJ7_fill_53178 7 = .ok (.if_icmp .ge 13, 3) := by decide +kernel
theorem dJ7_fill_53178_10 : decode cJ7_fill_53178 10 = .ok (.aload_n 0, 1) := by decide +kernel
theorem dJ7_fill_53178_11 : decode cJ7_fill_53178 11 = .ok (.iload_n 2, 1) := by decide +kernel
theorem dJ7_fill_53178_12 : decode cJ7_fill_53178 12 = .ok (.iload_n 1, 1) := by decide +kernel
theorem dJ7_fill_53178_13 : decode cJ7_fill_53178 13 = .ok (.iastore, 1) := by decide +kernel
theorem dJ7_fill_53178_14 : decode cJ7_fill_53178 14 = .ok (.iinc 2 1, 3) := by decide +kernel
theorem dJ7_fill_53178_17 : decode cJ7_fill_53178 17 = .ok (.goto (-12), 3) := by decide +kernel
theorem dJ7_fill_53178_20 : decode cJ7_fill_53178 20 = .ok (.return_, 1) := by decide +kernel
theorem dJ6_bitCount_0f7a4_0 : decode cJ6_bitCount_0f7a4 0 = .ok (.iload_n 0, 1) := by decide +kernel
theorem dJ6_bitCount_0f7a4_1 : decode cJ6_bitCount_0f7a4 1 = .ok (.iload_n 0, 1) := by decide +kernel
theorem dJ6_bitCount_0f7a4_2 : decode cJ6_bitCount_0f7a4 2 = .ok (.iconst 1, 1) := by decide +kernel
theorem dJ6_bitCount_0f7a4_3 : decode cJ6_bitCount_0f7a4 3 = .ok (.iushr, 1) := by decide +kernel
theorem dJ6_bitCount_0f7a4_4 : decode cJ6_bitCount_0f7a4 4 = .ok (.ldc_w 265, 3) := by decide +kernel
theorem dJ6_bitCount_0f7a4_7 : decode cJ6_bitCount_0f7a4 7 = .ok (.iand, 1) := by decide +kernel
theorem dJ6_bitCount_0f7a4_8 : decode cJ6_bitCount_0f7a4 8 = .ok (.isub, 1) := by decide +kernel
theorem dJ6_bitCount_0f7a4_9 : decode cJ6_bitCount_0f7a4 9 = .ok (.istore_n 0, 1) := by decide +kernel
theorem dJ6_bitCount_0f7a4_10 : decode cJ6_bitCount_0f7a4 10 = .ok (.iload_n 0, 1) := by decide +kernel
theorem dJ6_bitCount_0f7a4_11 : decode cJ6_bitCount_0f7a4 11 = .ok (.ldc_w 266, 3) := by decide +kernel
theorem dJ6_bitCount_0f7a4_14 : decode cJ6_bitCount_0f7a4 14 = .ok (.iand, 1) := by decide +kernel
theorem dJ6_bitCount_0f7a4_15 : decode cJ6_bitCount_0f7a4 15 = .ok (.iload_n 0, 1) := by decide +kernel
theorem dJ6_bitCount_0f7a4_16 : decode cJ6_bitCount_0f7a4 16 = .ok (.iconst 2, 1) := by decide +kernel
theorem dJ6_bitCount_0f7a4_17 : decode cJ6_bitCount_0f7a4 17 = .ok (.iushr, 1) := by decide +kernel
theorem dJ6_bitCount_0f7a4_18 : decode cJ6_bitCount_0f7a4 18 = .ok (.ldc_w 266, 3) := by decide +kernel
theorem dJ6_bitCount_0f7a4_21 : decode cJ6_bitCount_0f7a4 21 = .ok (.iand, 1) := by decide +kernel
theorem dJ6_bitCount_0f7a4_22 : decode cJ6_bitCount_0f7a4 22 = .ok (.iadd, 1) := by decide +kernel
theorem dJ6_bitCount_0f7a4_23 : decode cJ6_bitCount_0f7a4 23 = .ok (.istore_n 0, 1) := by decide +kernel
theorem dJ6_bitCount_0f7a4_24 : decode cJ6_bitCount_0f7a4 24 = .ok (.iload_n 0, 1) := by decide +kernel
theorem dJ6_bitCount_0f7a4_25 : decode cJ6_bitCount_0f7a4 25 = .ok (.iload_n 0, 1) := by decide +kernel
theorem dJ6_bitCount_0f7a4_26 : decode cJ6_bitCount_0f7a4 26 = .ok (.iconst 4, 1) := by decide +kernel
theorem dJ6_bitCount_0f7a4_27 : decode cJ6_bitCount_0f7a4 27 = .ok (.iushr, 1) := by decide +kernel
theorem dJ6_bitCount_0f7a4_28 : decode cJ6_bitCount_0f7a4 28 = .ok (.iadd, 1) := by decide +kernel
theorem dJ6_bitCount_0f7a4_29 : decode cJ6_bitCount_0f7a4 29 = .ok (.ldc_w 267, 3) := by decide +kernel
theorem dJ6_bitCount_0f7a4_32 : decode cJ6_bitCount_0f7a4 32 = .ok (.iand, 1) := by decide +kernel
theorem dJ6_bitCount_0f7a4_33 : decode cJ6_bitCount_0f7a4 33 = .ok (.istore_n 0, 1) := by decide +kernel
theorem dJ6_bitCount_0f7a4_34 : decode cJ6_bitCount_0f7a4 34 = .ok (.iload_n 0, 1) := by decide +kernel
theorem dJ6_bitCount_0f7a4_35 : decode cJ6_bitCount_0f7a4 35 = .ok (.iload_n 0, 1) := by decide +kernel
theorem dJ6_bitCount_0f7a4_36 : decode cJ6_bitCount_0f7a4 36 = .ok (.bipush 8, 2) := by decide +kernel
theorem dJ6_bitCount_0f7a4_38 : decode cJ6_bitCount_0f7a4 38 = .ok (.iushr, 1) := by decide +kernel
theorem dJ6_bitCount_0f7a4_39 : decode cJ6_bitCount_0f7a4 39 = .ok (.iadd, 1) := by decide +kernel
theorem dJ6_bitCount_0f7a4_40 : decode cJ6_bitCount_0f7a4 40 = .ok (.istore_n 0, 1) := by decide +kernel
theorem dJ6_bitCount_0f7a4_41 : decode cJ6_bitCount_0f7a4 41 = .ok (.iload_n 0, 1) := by decide +kernel
theorem dJ6_bitCount_0f7a4_42 : decode cJ6_bitCount_0f7a4 42 = .ok (.iload_n 0, 1) := by decide +kernel
theorem dJ6_bitCount_0f7a4_43 : decode cJ6_bitCount_0f7a4 43 = .ok (.bipush 16, 2) := by decide +kernel
theorem dJ6_bitCount_0f7a4_45 : decode cJ6_bitCount_0f7a4 45 = .ok (.iushr, 1) := by decide +kernel
theorem dJ6_bitCount_0f7a4_46 : decode cJ6_bitCount_0f7a4 46 = .ok (.iadd, 1) := by decide +kernel
theorem dJ6_bitCount_0f7a4_47 : decode cJ6_bitCount_0f7a4 47 = .ok (.istore_n 0, 1) := by decide +kernel
theorem dJ6_bitCount_0f7a4_48 : decode cJ6_bitCount_0f7a4 48 = .ok (.iload_n 0, 1) := by decide +kernel
theorem dJ6_bitCount_0f7a4_49 : decode cJ6_bitCount_0f7a4 49 = .ok (.bipush 63, 2) := by decide +kernel
theorem dJ6_bitCount_0f7a4_51 : decode cJ6_bitCount_0f7a4 51 = .ok (.iand, 1) := by decide +kernel
theorem dJ6_bitCount_0f7a4_52 : decode cJ6_bitCount_0f7a4 52 = .ok (.ireturn, 1) := by decide +kernel
def rm_X3_at : Room := { frames := 0, cells := 0, slots := 0, locals := 0 }
def rm_X3_put : Room := { frames := 0, cells := 0, slots := 0, locals := 0 }
set_option maxRecDepth 100000 in
set_option maxHeartbeats 4000000 in
theorem K_X3_at (l : Launch) (D : va_G) (cI cZ : ClassId) (a n : Nat) (hn : n < 2 ^ 31) (sz : Nat) (row : Nat → Int32) (x1 : Int32) (r : Int32) (hf : f_X3_at n row x1 = r) : Met l yX3_at wsX3_at rm_X3_at (PC D cI cZ sz [.ref a, .int x1] (wR cI a n row)) (QI D cI cZ sz (wR cI a n row) r (wR cI a n row)) 0 0 (va_A (wR cI a n row) sz) := by
  refine mk_i (cc := cX3_at) (maxL := 2) (lv0 := [(0, .ref a), (1, .int x1)]) (by decide) rfl (Nat.le_of_ble_eq_true rfl) rfl ?_
  intro p e s m args below meth c ls A Q H hx hb hml hown hts hK hP hD hA hS hl hR
  refine lv_iload_n hx hb dX3_at_0 rfl (lv_at hl 1 rfl) ?_
  refine lv_if_lt (tgt := 16) hx hb dX3_at_1 (by decide) (fun c_1 => ?_) (fun c_1 => ?_)
  · refine lv_iconst (v := 0) hx hb dX3_at_16 (by decide) ?_
    exact hR _ _ _ _ _ _ (by rw [← hf, f_X3_at, if_pos c_1]) rfl hP hD hS dX3_at_17
  · refine lv_iload_n hx hb dX3_at_4 rfl (lv_at hl 1 rfl) ?_
    refine lv_aload_n hx hb dX3_at_5 rfl (lv_at hl 0 rfl) ?_
    refine va_alen (v := nI n) hx hb hK.1 hP 0 0 rfl rfl rfl dX3_at_6 ?_
    refine lv_icmp_ge (tgt := 16) hx hb dX3_at_7 (by decide) (fun c_7 => ?_) (fun c_7 => ?_)
    · refine lv_iconst (v := 0) hx hb dX3_at_16 (by decide) ?_
      exact hR _ _ _ _ _ _ (by rw [← hf, f_X3_at, if_neg c_1, if_pos c_7]) rfl hP hD hS dX3_at_17
    · refine lv_aload_n hx hb dX3_at_10 rfl (lv_at hl 0 rfl) ?_
      refine lv_iload_n hx hb dX3_at_11 rfl (lv_at hl 1 rfl) ?_
      refine va_iald hx hb hK.1 hP 0 0 rfl rfl (inR_of hn c_1 c_7) dX3_at_12 ?_
      refine lv_goto (tgt := 17) hx hb dX3_at_13 (by decide) ?_
      exact hR _ _ _ _ _ _ (by rw [← hf, f_X3_at, if_neg c_1, if_neg c_7]) rfl hP hD hS dX3_at_17
set_option maxRecDepth 100000 in
set_option maxHeartbeats 4000000 in
theorem K_X3_put (l : Launch) (D : va_G) (cI cZ : ClassId) (a n : Nat) (hn : n < 2 ^ 31) (sz : Nat) (row : Nat → Int32) (x1 x2 : Int32) (r : Nat → Int32) (hf : f_X3_put n row x1 x2 = r) : Met l yX3_put wsX3_put rm_X3_put (PC D cI cZ sz [.ref a, .int x1, .int x2] (wR cI a n row)) (QV D cI cZ sz (wR cI a n row) (wR cI a n r)) 0 0 (va_A (wR cI a n row) sz) := by
  refine mk_v (cc := cX3_put) (maxL := 3) (lv0 := [(0, .ref a), (1, .int x1), (2, .int x2)]) (by decide) rfl (Nat.le_of_ble_eq_true rfl) rfl ?_
  intro p e s m args below meth c ls A Q H hx hb hml hown hts hK hP hD hA hS hl hR
  refine lv_iload_n hx hb dX3_put_0 rfl (lv_at hl 1 rfl) ?_
  refine lv_if_lt (tgt := 14) hx hb dX3_put_1 (by decide) (fun c_1 => ?_) (fun c_1 => ?_)
  · exact hR _ _ _ _ _ (by rw [← hf, f_X3_put, if_pos c_1]) hP hD hS dX3_put_14
  · refine lv_iload_n hx hb dX3_put_4 rfl (lv_at hl 1 rfl) ?_
    refine lv_aload_n hx hb dX3_put_5 rfl (lv_at hl 0 rfl) ?_
    refine va_alen (v := nI n) hx hb hK.1 hP 0 0 rfl rfl rfl dX3_put_6 ?_
    refine lv_icmp_ge (tgt := 14) hx hb dX3_put_7 (by decide) (fun c_7 => ?_) (fun c_7 => ?_)
    · exact hR _ _ _ _ _ (by rw [← hf, f_X3_put, if_neg c_1, if_pos c_7]) hP hD hS dX3_put_14
    · refine lv_aload_n hx hb dX3_put_10 rfl (lv_at hl 0 rfl) ?_
      refine lv_iload_n hx hb dX3_put_11 rfl (lv_at hl 1 rfl) ?_
      refine lv_iload_n hx hb dX3_put_12 rfl (lv_at hl 2 rfl) ?_
      refine va_iast hx hb hK.1 hP hD hS 0 0 rfl rfl (inR_of hn c_1 c_7) dX3_put_13 (fun H locs hP hD hS => ?_)
      have hP : va_P D vwCl (wR cI a n (upd row x1.toNatClampNeg x2)) H := hP
      have hD : va_D A (wR cI a n (upd row x1.toNatClampNeg x2)) := hD
      exact hR _ _ _ _ _ (by rw [← hf, f_X3_put, if_neg c_1, if_neg c_7]) hP hD hS dX3_put_14
def rm_J7_fill_53178 : Room := { frames := 0, cells := 0, slots := 0, locals := 0 }
set_option maxRecDepth 100000 in
set_option maxHeartbeats 8000000 in
theorem K_J7_fill_53178 (l : Launch) (D : va_G) (cI cZ : ClassId) (a n : Nat) (hn : n < 2 ^ 31) (sz : Nat) (N : Nat) (row : Nat → Int32) (p1 : Int32) (r : ((Nat → Int32))) (hf : f_J7_fill_53178 N n row p1 = some r) : Met l yJ7_fill_53178 wsJ7_fill_53178 rm_J7_fill_53178 (PC D cI cZ sz [.ref a, .int p1] (wR cI a n row)) (QV D cI cZ sz (wR cI a n row) (wR cI a n r)) 0 0 (va_A (wR cI a n row) sz) := by
  refine mk_v (cc := cJ7_fill_53178) (maxL := 4) (lv0 := [(0, .ref a), (1, .int p1)]) (by decide) rfl (Nat.le_of_ble_eq_true rfl) rfl ?_
  intro p e s m args below meth c ls A Q H hx hb hml hown hts hK hP hD hA hS hl hR
  rw [f_J7_fill_53178] at hf
  refine lv_iconst (v := 0) hx hb dJ7_fill_53178_0 (by decide) ?_
  refine lv_istore_n (lv' := [(2, .int 0), (0, .ref a), (1, .int p1)]) hx hb dJ7_fill_53178_1 rfl hl (by decide) rfl (fun ls hl => ?_)
  refine lv_aload_n hx hb dJ7_fill_53178_2 rfl (lv_at hl 1 rfl) ?_
  refine va_alen (v := (nI n)) hx hb hK.1 hP 0 0 rfl rfl rfl dJ7_fill_53178_3 ?_
  refine lv_istore_n (lv' := [(3, .int (nI n)), (2, .int 0), (0, .ref a), (1, .int p1)]) hx hb dJ7_fill_53178_4 rfl hl (by decide) rfl (fun ls hl => ?_)
  have l5 : ∀ (nn : Nat) (v2_5 : Int32) (row_5 : Nat → Int32), f_J7_fill_53178_L5 p1 (nI n) n nn v2_5 row_5 = some r → ∀ (H : Heap) (locs : List Loc) (ls : Array Slot), va_P D vwCl (wR cI a n row_5) H → va_D A (wR cI a n row_5) → va_S A s.heap H locs → lv_has ls 4 [(0, .ref a), (1, .int p1), (2, .int v2_5), (3, .int (nI n))] → W p l e rm_J7_fill_53178 s m args below meth c H locs 0 0 Q (F0 m 5 ls []) := by
    intro nn
    induction nn with
    | zero => intro _ _ hf; exact nomatch (show (none : Option _) = some r from hf)
    | succ n5 ih5 =>
      intro v2_5 row_5 hf H locs ls hP hD hS hl
      rw [f_J7_fill_53178_L5.eq_2] at hf
      refine lv_iload_n hx hb dJ7_fill_53178_5 rfl (lv_at hl 2 rfl) ?_
      refine lv_iload_n hx hb dJ7_fill_53178_6 rfl (lv_at hl 3 rfl) ?_
      refine lv_icmp_ge (tgt := 20) hx hb dJ7_fill_53178_7 (by decide) (fun c_7 => ?_) (fun c_7 => ?_)
      · have hf := ite_t c_7 hf
        cases hf
        exact hR _ _ _ _ _ rfl hP hD hS dJ7_fill_53178_20
      · have hf := ite_f c_7 hf
        refine lv_aload_n hx hb dJ7_fill_53178_10 rfl (lv_at hl 0 rfl) ?_
        refine lv_iload_n hx hb dJ7_fill_53178_11 rfl (lv_at hl 2 rfl) ?_
        refine lv_iload_n hx hb dJ7_fill_53178_12 rfl (lv_at hl 1 rfl) ?_
        obtain ⟨hz13, hf⟩ := gd_some hf
        refine va_iast hx hb hK.1 hP hD hS 0 0 rfl rfl hz13 dJ7_fill_53178_13 (fun H locs hP hD hS => ?_)
        have hP : va_P D vwCl (wR cI a n (upd row_5 ((v2_5 : Int32)).toNatClampNeg p1)) H := hP
        have hD : va_D A (wR cI a n (upd row_5 ((v2_5 : Int32)).toNatClampNeg p1)) := hD
        refine lv_iinc (v := (v2_5 + 1)) (lv' := [(2, .int (v2_5 + 1)), (0, .ref a), (1, .int p1), (3, .int (nI n))]) hx hb dJ7_fill_53178_14 hl (k := 2) rfl rfl (by decide) rfl (fun ls hl => ?_)
        refine lv_goto (tgt := 5) hx hb dJ7_fill_53178_17 (by decide) ?_
        exact ih5 (v2_5 + 1) (upd row_5 ((v2_5 : Int32)).toNatClampNeg p1) hf _ _ _ hP hD hS (lv_sub hl [1, 2, 0, 3] rfl)
  exact l5 N 0 row hf _ _ _ hP hD hS (lv_sub hl [2, 3, 1, 0] rfl)
def rm_J6_bitCount_0f7a4 : Room := { frames := 0, cells := 0, slots := 0, locals := 0 }
set_option maxRecDepth 100000 in
set_option maxHeartbeats 8000000 in
theorem K_J6_bitCount_0f7a4 (l : Launch) (D : va_G) (cI cZ : ClassId)  (sz : Nat)  (p0 : Int32) (r : (Int32)) (hf : f_J6_bitCount_0f7a4 p0 = r) : Met l yJ6_bitCount_0f7a4 wsJ6_bitCount_0f7a4 rm_J6_bitCount_0f7a4 (PC D cI cZ sz [.int p0] (wE)) (QI D cI cZ sz (wE) r (wE)) 0 0 (va_A (wE) sz) := by
  refine mk_i (cc := cJ6_bitCount_0f7a4) (maxL := 1) (lv0 := [(0, .int p0)]) (by decide) rfl (Nat.le_of_ble_eq_true rfl) rfl ?_
  intro p e s m args below meth c ls A Q H hx hb hml hown hts hK hP hD hA hS hl hR
  rw [f_J6_bitCount_0f7a4] at hf
  refine lv_iload_n hx hb dJ6_bitCount_0f7a4_0 rfl (lv_at hl 0 rfl) ?_
  refine lv_iload_n hx hb dJ6_bitCount_0f7a4_1 rfl (lv_at hl 0 rfl) ?_
  refine lv_iconst (v := 1) hx hb dJ6_bitCount_0f7a4_2 (by decide) ?_
  refine lv_iushr (v := ((p0 : Int32).toUInt32 >>> ((1 : Int32).toUInt32 &&& Int32.toUInt32 31)).toInt32) hx hb dJ6_bitCount_0f7a4_3 rfl ?_
  refine lv_ldcw (v := 1431655765) hx hb hown (hts (.constant RJ6 265 1431655765) (by decide +kernel)) dJ6_bitCount_0f7a4_4 ?_
  refine lv_iand hx hb dJ6_bitCount_0f7a4_7 ?_
  refine lv_isub hx hb dJ6_bitCount_0f7a4_8 ?_
  refine lv_istore_n (lv' := [(0, .int (p0 - ((((p0 : Int32).toUInt32 >>> ((1 : Int32).toUInt32 &&& Int32.toUInt32 31)).toInt32) &&& 1431655765)))]) hx hb dJ6_bitCount_0f7a4_9 rfl hl (by decide) rfl (fun ls hl => ?_)
  refine lv_iload_n hx hb dJ6_bitCount_0f7a4_10 rfl (lv_at hl 0 rfl) ?_
  refine lv_ldcw (v := 858993459) hx hb hown (hts (.constant RJ6 266 858993459) (by decide +kernel)) dJ6_bitCount_0f7a4_11 ?_
  refine lv_iand hx hb dJ6_bitCount_0f7a4_14 ?_
  refine lv_iload_n hx hb dJ6_bitCount_0f7a4_15 rfl (lv_at hl 0 rfl) ?_
  refine lv_iconst (v := 2) hx hb dJ6_bitCount_0f7a4_16 (by decide) ?_
  refine lv_iushr (v := (((p0 - ((((p0 : Int32).toUInt32 >>> ((1 : Int32).toUInt32 &&& Int32.toUInt32 31)).toInt32) &&& 1431655765)) : Int32).toUInt32 >>> ((2 : Int32).toUInt32 &&& Int32.toUInt32 31)).toInt32) hx hb dJ6_bitCount_0f7a4_17 rfl ?_
  refine lv_ldcw (v := 858993459) hx hb hown (hts (.constant RJ6 266 858993459) (by decide +kernel)) dJ6_bitCount_0f7a4_18 ?_
  refine lv_iand hx hb dJ6_bitCount_0f7a4_21 ?_
  refine lv_iadd hx hb dJ6_bitCount_0f7a4_22 ?_
  refine lv_istore_n (lv' := [(0, .int (((p0 - ((((p0 : Int32).toUInt32 >>> ((1 : Int32).toUInt32 &&& Int32.toUInt32 31)).toInt32) &&& 1431655765)) &&& 858993459) + (((((p0 - ((((p0 : Int32).toUInt32 >>> ((1 : Int32).toUInt32 &&& Int32.toUInt32 31)).toInt32) &&& 1431655765)) : Int32).toUInt32 >>> ((2 : Int32).toUInt32 &&& Int32.toUInt32 31)).toInt32) &&& 858993459)))]) hx hb dJ6_bitCount_0f7a4_23 rfl hl (by decide) rfl (fun ls hl => ?_)
  refine lv_iload_n hx hb dJ6_bitCount_0f7a4_24 rfl (lv_at hl 0 rfl) ?_
  refine lv_iload_n hx hb dJ6_bitCount_0f7a4_25 rfl (lv_at hl 0 rfl) ?_
  refine lv_iconst (v := 4) hx hb dJ6_bitCount_0f7a4_26 (by decide) ?_
  refine lv_iushr (v := (((((p0 - ((((p0 : Int32).toUInt32 >>> ((1 : Int32).toUInt32 &&& Int32.toUInt32 31)).toInt32) &&& 1431655765)) &&& 858993459) + (((((p0 - ((((p0 : Int32).toUInt32 >>> ((1 : Int32).toUInt32 &&& Int32.toUInt32 31)).toInt32) &&& 1431655765)) : Int32).toUInt32 >>> ((2 : Int32).toUInt32 &&& Int32.toUInt32 31)).toInt32) &&& 858993459)) : Int32).toUInt32 >>> ((4 : Int32).toUInt32 &&& Int32.toUInt32 31)).toInt32) hx hb dJ6_bitCount_0f7a4_27 rfl ?_
  refine lv_iadd hx hb dJ6_bitCount_0f7a4_28 ?_
  refine lv_ldcw (v := 252645135) hx hb hown (hts (.constant RJ6 267 252645135) (by decide +kernel)) dJ6_bitCount_0f7a4_29 ?_
  refine lv_iand hx hb dJ6_bitCount_0f7a4_32 ?_
  refine lv_istore_n (lv' := [(0, .int (((((p0 - ((((p0 : Int32).toUInt32 >>> ((1 : Int32).toUInt32 &&& Int32.toUInt32 31)).toInt32) &&& 1431655765)) &&& 858993459) + (((((p0 - ((((p0 : Int32).toUInt32 >>> ((1 : Int32).toUInt32 &&& Int32.toUInt32 31)).toInt32) &&& 1431655765)) : Int32).toUInt32 >>> ((2 : Int32).toUInt32 &&& Int32.toUInt32 31)).toInt32) &&& 858993459)) + ((((((p0 - ((((p0 : Int32).toUInt32 >>> ((1 : Int32).toUInt32 &&& Int32.toUInt32 31)).toInt32) &&& 1431655765)) &&& 858993459) + (((((p0 - ((((p0 : Int32).toUInt32 >>> ((1 : Int32).toUInt32 &&& Int32.toUInt32 31)).toInt32) &&& 1431655765)) : Int32).toUInt32 >>> ((2 : Int32).toUInt32 &&& Int32.toUInt32 31)).toInt32) &&& 858993459)) : Int32).toUInt32 >>> ((4 : Int32).toUInt32 &&& Int32.toUInt32 31)).toInt32)) &&& 252645135))]) hx hb dJ6_bitCount_0f7a4_33 rfl hl (by decide) rfl (fun ls hl => ?_)
  refine lv_iload_n hx hb dJ6_bitCount_0f7a4_34 rfl (lv_at hl 0 rfl) ?_
  refine lv_iload_n hx hb dJ6_bitCount_0f7a4_35 rfl (lv_at hl 0 rfl) ?_
  refine lv_bipush (v := 8) hx hb dJ6_bitCount_0f7a4_36 (by decide) ?_
  refine lv_iushr (v := (((((((p0 - ((((p0 : Int32).toUInt32 >>> ((1 : Int32).toUInt32 &&& Int32.toUInt32 31)).toInt32) &&& 1431655765)) &&& 858993459) + (((((p0 - ((((p0 : Int32).toUInt32 >>> ((1 : Int32).toUInt32 &&& Int32.toUInt32 31)).toInt32) &&& 1431655765)) : Int32).toUInt32 >>> ((2 : Int32).toUInt32 &&& Int32.toUInt32 31)).toInt32) &&& 858993459)) + ((((((p0 - ((((p0 : Int32).toUInt32 >>> ((1 : Int32).toUInt32 &&& Int32.toUInt32 31)).toInt32) &&& 1431655765)) &&& 858993459) + (((((p0 - ((((p0 : Int32).toUInt32 >>> ((1 : Int32).toUInt32 &&& Int32.toUInt32 31)).toInt32) &&& 1431655765)) : Int32).toUInt32 >>> ((2 : Int32).toUInt32 &&& Int32.toUInt32 31)).toInt32) &&& 858993459)) : Int32).toUInt32 >>> ((4 : Int32).toUInt32 &&& Int32.toUInt32 31)).toInt32)) &&& 252645135) : Int32).toUInt32 >>> ((8 : Int32).toUInt32 &&& Int32.toUInt32 31)).toInt32) hx hb dJ6_bitCount_0f7a4_38 rfl ?_
  refine lv_iadd hx hb dJ6_bitCount_0f7a4_39 ?_
  refine lv_istore_n (lv' := [(0, .int ((((((p0 - ((((p0 : Int32).toUInt32 >>> ((1 : Int32).toUInt32 &&& Int32.toUInt32 31)).toInt32) &&& 1431655765)) &&& 858993459) + (((((p0 - ((((p0 : Int32).toUInt32 >>> ((1 : Int32).toUInt32 &&& Int32.toUInt32 31)).toInt32) &&& 1431655765)) : Int32).toUInt32 >>> ((2 : Int32).toUInt32 &&& Int32.toUInt32 31)).toInt32) &&& 858993459)) + ((((((p0 - ((((p0 : Int32).toUInt32 >>> ((1 : Int32).toUInt32 &&& Int32.toUInt32 31)).toInt32) &&& 1431655765)) &&& 858993459) + (((((p0 - ((((p0 : Int32).toUInt32 >>> ((1 : Int32).toUInt32 &&& Int32.toUInt32 31)).toInt32) &&& 1431655765)) : Int32).toUInt32 >>> ((2 : Int32).toUInt32 &&& Int32.toUInt32 31)).toInt32) &&& 858993459)) : Int32).toUInt32 >>> ((4 : Int32).toUInt32 &&& Int32.toUInt32 31)).toInt32)) &&& 252645135) + ((((((((p0 - ((((p0 : Int32).toUInt32 >>> ((1 : Int32).toUInt32 &&& Int32.toUInt32 31)).toInt32) &&& 1431655765)) &&& 858993459) + (((((p0 - ((((p0 : Int32).toUInt32 >>> ((1 : Int32).toUInt32 &&& Int32.toUInt32 31)).toInt32) &&& 1431655765)) : Int32).toUInt32 >>> ((2 : Int32).toUInt32 &&& Int32.toUInt32 31)).toInt32) &&& 858993459)) + ((((((p0 - ((((p0 : Int32).toUInt32 >>> ((1 : Int32).toUInt32 &&& Int32.toUInt32 31)).toInt32) &&& 1431655765)) &&& 858993459) + (((((p0 - ((((p0 : Int32).toUInt32 >>> ((1 : Int32).toUInt32 &&& Int32.toUInt32 31)).toInt32) &&& 1431655765)) : Int32).toUInt32 >>> ((2 : Int32).toUInt32 &&& Int32.toUInt32 31)).toInt32) &&& 858993459)) : Int32).toUInt32 >>> ((4 : Int32).toUInt32 &&& Int32.toUInt32 31)).toInt32)) &&& 252645135) : Int32).toUInt32 >>> ((8 : Int32).toUInt32 &&& Int32.toUInt32 31)).toInt32)))]) hx hb dJ6_bitCount_0f7a4_40 rfl hl (by decide) rfl (fun ls hl => ?_)
  refine lv_iload_n hx hb dJ6_bitCount_0f7a4_41 rfl (lv_at hl 0 rfl) ?_
  refine lv_iload_n hx hb dJ6_bitCount_0f7a4_42 rfl (lv_at hl 0 rfl) ?_
  refine lv_bipush (v := 16) hx hb dJ6_bitCount_0f7a4_43 (by decide) ?_
  refine lv_iushr (v := ((((((((p0 - ((((p0 : Int32).toUInt32 >>> ((1 : Int32).toUInt32 &&& Int32.toUInt32 31)).toInt32) &&& 1431655765)) &&& 858993459) + (((((p0 - ((((p0 : Int32).toUInt32 >>> ((1 : Int32).toUInt32 &&& Int32.toUInt32 31)).toInt32) &&& 1431655765)) : Int32).toUInt32 >>> ((2 : Int32).toUInt32 &&& Int32.toUInt32 31)).toInt32) &&& 858993459)) + ((((((p0 - ((((p0 : Int32).toUInt32 >>> ((1 : Int32).toUInt32 &&& Int32.toUInt32 31)).toInt32) &&& 1431655765)) &&& 858993459) + (((((p0 - ((((p0 : Int32).toUInt32 >>> ((1 : Int32).toUInt32 &&& Int32.toUInt32 31)).toInt32) &&& 1431655765)) : Int32).toUInt32 >>> ((2 : Int32).toUInt32 &&& Int32.toUInt32 31)).toInt32) &&& 858993459)) : Int32).toUInt32 >>> ((4 : Int32).toUInt32 &&& Int32.toUInt32 31)).toInt32)) &&& 252645135) + ((((((((p0 - ((((p0 : Int32).toUInt32 >>> ((1 : Int32).toUInt32 &&& Int32.toUInt32 31)).toInt32) &&& 1431655765)) &&& 858993459) + (((((p0 - ((((p0 : Int32).toUInt32 >>> ((1 : Int32).toUInt32 &&& Int32.toUInt32 31)).toInt32) &&& 1431655765)) : Int32).toUInt32 >>> ((2 : Int32).toUInt32 &&& Int32.toUInt32 31)).toInt32) &&& 858993459)) + ((((((p0 - ((((p0 : Int32).toUInt32 >>> ((1 : Int32).toUInt32 &&& Int32.toUInt32 31)).toInt32) &&& 1431655765)) &&& 858993459) + (((((p0 - ((((p0 : Int32).toUInt32 >>> ((1 : Int32).toUInt32 &&& Int32.toUInt32 31)).toInt32) &&& 1431655765)) : Int32).toUInt32 >>> ((2 : Int32).toUInt32 &&& Int32.toUInt32 31)).toInt32) &&& 858993459)) : Int32).toUInt32 >>> ((4 : Int32).toUInt32 &&& Int32.toUInt32 31)).toInt32)) &&& 252645135) : Int32).toUInt32 >>> ((8 : Int32).toUInt32 &&& Int32.toUInt32 31)).toInt32)) : Int32).toUInt32 >>> ((16 : Int32).toUInt32 &&& Int32.toUInt32 31)).toInt32) hx hb dJ6_bitCount_0f7a4_45 rfl ?_
  refine lv_iadd hx hb dJ6_bitCount_0f7a4_46 ?_
  refine lv_istore_n (lv' := [(0, .int (((((((p0 - ((((p0 : Int32).toUInt32 >>> ((1 : Int32).toUInt32 &&& Int32.toUInt32 31)).toInt32) &&& 1431655765)) &&& 858993459) + (((((p0 - ((((p0 : Int32).toUInt32 >>> ((1 : Int32).toUInt32 &&& Int32.toUInt32 31)).toInt32) &&& 1431655765)) : Int32).toUInt32 >>> ((2 : Int32).toUInt32 &&& Int32.toUInt32 31)).toInt32) &&& 858993459)) + ((((((p0 - ((((p0 : Int32).toUInt32 >>> ((1 : Int32).toUInt32 &&& Int32.toUInt32 31)).toInt32) &&& 1431655765)) &&& 858993459) + (((((p0 - ((((p0 : Int32).toUInt32 >>> ((1 : Int32).toUInt32 &&& Int32.toUInt32 31)).toInt32) &&& 1431655765)) : Int32).toUInt32 >>> ((2 : Int32).toUInt32 &&& Int32.toUInt32 31)).toInt32) &&& 858993459)) : Int32).toUInt32 >>> ((4 : Int32).toUInt32 &&& Int32.toUInt32 31)).toInt32)) &&& 252645135) + ((((((((p0 - ((((p0 : Int32).toUInt32 >>> ((1 : Int32).toUInt32 &&& Int32.toUInt32 31)).toInt32) &&& 1431655765)) &&& 858993459) + (((((p0 - ((((p0 : Int32).toUInt32 >>> ((1 : Int32).toUInt32 &&& Int32.toUInt32 31)).toInt32) &&& 1431655765)) : Int32).toUInt32 >>> ((2 : Int32).toUInt32 &&& Int32.toUInt32 31)).toInt32) &&& 858993459)) + ((((((p0 - ((((p0 : Int32).toUInt32 >>> ((1 : Int32).toUInt32 &&& Int32.toUInt32 31)).toInt32) &&& 1431655765)) &&& 858993459) + (((((p0 - ((((p0 : Int32).toUInt32 >>> ((1 : Int32).toUInt32 &&& Int32.toUInt32 31)).toInt32) &&& 1431655765)) : Int32).toUInt32 >>> ((2 : Int32).toUInt32 &&& Int32.toUInt32 31)).toInt32) &&& 858993459)) : Int32).toUInt32 >>> ((4 : Int32).toUInt32 &&& Int32.toUInt32 31)).toInt32)) &&& 252645135) : Int32).toUInt32 >>> ((8 : Int32).toUInt32 &&& Int32.toUInt32 31)).toInt32)) + (((((((((p0 - ((((p0 : Int32).toUInt32 >>> ((1 : Int32).toUInt32 &&& Int32.toUInt32 31)).toInt32) &&& 1431655765)) &&& 858993459) + (((((p0 - ((((p0 : Int32).toUInt32 >>> ((1 : Int32).toUInt32 &&& Int32.toUInt32 31)).toInt32) &&& 1431655765)) : Int32).toUInt32 >>> ((2 : Int32).toUInt32 &&& Int32.toUInt32 31)).toInt32) &&& 858993459)) + ((((((p0 - ((((p0 : Int32).toUInt32 >>> ((1 : Int32).toUInt32 &&& Int32.toUInt32 31)).toInt32) &&& 1431655765)) &&& 858993459) + (((((p0 - ((((p0 : Int32).toUInt32 >>> ((1 : Int32).toUInt32 &&& Int32.toUInt32 31)).toInt32) &&& 1431655765)) : Int32).toUInt32 >>> ((2 : Int32).toUInt32 &&& Int32.toUInt32 31)).toInt32) &&& 858993459)) : Int32).toUInt32 >>> ((4 : Int32).toUInt32 &&& Int32.toUInt32 31)).toInt32)) &&& 252645135) + ((((((((p0 - ((((p0 : Int32).toUInt32 >>> ((1 : Int32).toUInt32 &&& Int32.toUInt32 31)).toInt32) &&& 1431655765)) &&& 858993459) + (((((p0 - ((((p0 : Int32).toUInt32 >>> ((1 : Int32).toUInt32 &&& Int32.toUInt32 31)).toInt32) &&& 1431655765)) : Int32).toUInt32 >>> ((2 : Int32).toUInt32 &&& Int32.toUInt32 31)).toInt32) &&& 858993459)) + ((((((p0 - ((((p0 : Int32).toUInt32 >>> ((1 : Int32).toUInt32 &&& Int32.toUInt32 31)).toInt32) &&& 1431655765)) &&& 858993459) + (((((p0 - ((((p0 : Int32).toUInt32 >>> ((1 : Int32).toUInt32 &&& Int32.toUInt32 31)).toInt32) &&& 1431655765)) : Int32).toUInt32 >>> ((2 : Int32).toUInt32 &&& Int32.toUInt32 31)).toInt32) &&& 858993459)) : Int32).toUInt32 >>> ((4 : Int32).toUInt32 &&& Int32.toUInt32 31)).toInt32)) &&& 252645135) : Int32).toUInt32 >>> ((8 : Int32).toUInt32 &&& Int32.toUInt32 31)).toInt32)) : Int32).toUInt32 >>> ((16 : Int32).toUInt32 &&& Int32.toUInt32 31)).toInt32)))]) hx hb dJ6_bitCount_0f7a4_47 rfl hl (by decide) rfl (fun ls hl => ?_)
  refine lv_iload_n hx hb dJ6_bitCount_0f7a4_48 rfl (lv_at hl 0 rfl) ?_
  refine lv_bipush (v := 63) hx hb dJ6_bitCount_0f7a4_49 (by decide) ?_
  refine lv_iand hx hb dJ6_bitCount_0f7a4_51 ?_
  cases hf
  exact hR _ _ _ _ _ _ rfl rfl hP hD hS dJ6_bitCount_0f7a4_52
end
section
def rm_X0_hasCell : Room := { frames := 0, cells := 0, slots := 0, locals := 0 }
set_option maxRecDepth 100000 in
set_option maxHeartbeats 8000000 in
theorem K_X0_hasCell (l : Launch) (D : va_G) (cI cZ : ClassId) (ad : Nat → Nat) (sz : Nat) (size rc : Int32) (g fs st ln su rr cr : Nat → Int32) (p1 : Int32) (r : (Int32)) (hf : f_X0_hasCell size p1 = r) : Met l yX0_hasCell wsX0_hasCell rm_X0_hasCell (PC D cI cZ sz [.ref (ad 0), .int p1] (wB cI ad size rc g fs st ln su rr cr)) (QI D cI cZ sz (wB cI ad size rc g fs st ln su rr cr) r (wB cI ad size rc g fs st ln su rr cr)) 0 0 (va_A (wB cI ad size rc g fs st ln su rr cr) sz) := by
  refine mk_z (cc := cX0_hasCell) (maxL := 2) (lv0 := [(0, .ref (ad 0)), (1, .int p1)]) (by decide) rfl (Nat.le_of_ble_eq_true rfl) rfl ?_
  intro p e s m args below meth c ls A Q H hx hb hml hown hts hK hP hD hA hS hl hR
  have hinX0 : ∀ w ∈ wsX00, w ∈ wsX0_hasCell := by decide +kernel
  rw [f_X0_hasCell] at hf
  refine lv_iload_n hx hb dX0_hasCell_0 rfl (lv_at hl 1 rfl) ?_
  obtain ⟨k34, hk34, hf⟩ := jn_some hf
  have w34 : ∀ (_ : Unit), k34 () = r → ∀ (H : Heap) (locs : List Loc) (ls : Array Slot), va_P D vwCl (wB cI ad size rc g fs st ln su rr cr) H → va_D A (wB cI ad size rc g fs st ln su rr cr) → va_S A s.heap H locs → lv_has ls 2 [] → W p l e rm_X0_hasCell s m args below meth c H locs 0 0 Q (F0 m 34 ls []) := by
    intro _ hf H locs ls hP hD hS hl
    rw [hk34] at hf
    try dsimp only at hf
    refine lv_iconst (v := 0) hx hb dX0_hasCell_34 (by decide) ?_
    cases hf
    exact hR _ _ _ _ _ _ (by decide) rfl rfl hP hD hS dX0_hasCell_35
  refine lv_if_lt (tgt := 34) hx hb dX0_hasCell_1 (by decide) (fun c_1 => ?_) (fun c_1 => ?_)
  · have hf := ite_t c_1 hf
    exact w34 () hf _ _ _ hP hD hS (lv_sub hl [] rfl)
  · have hf := ite_f c_1 hf
    refine lv_iload_n hx hb dX0_hasCell_4 rfl (lv_at hl 1 rfl) ?_
    refine lv_bipush (v := 16) hx hb dX0_hasCell_5 (by decide) ?_
    refine lv_icmp_ge (tgt := 34) hx hb dX0_hasCell_7 (by decide) (fun c_7 => ?_) (fun c_7 => ?_)
    · have hf := ite_t c_7 hf
      exact w34 () hf _ _ _ hP hD hS (lv_sub hl [] rfl)
    · have hf := ite_f c_7 hf
      refine lv_iload_n hx hb dX0_hasCell_10 rfl (lv_at hl 1 rfl) ?_
      refine lv_iconst (v := 4) hx hb dX0_hasCell_11 (by decide) ?_
      refine lv_idiv hx hb dX0_hasCell_12 (by decide) ?_
      refine lv_aload_n hx hb dX0_hasCell_13 rfl (lv_at hl 0 rfl) ?_
      refine va_get (D := D) (ci := 0) (v := .int size) (C := RX0) (T := TX0) (N := 9) hx hb hts hinX0 hown hK.1 hP 0 rfl rfl 0 (by decide) (hts (.fieldLink RX0 33 "Gridpuzzle$Board" "size" "I") (by decide +kernel)) (fun _ h9 => h9) rfl dX0_hasCell_14 ?_
      refine lv_icmp_ge (tgt := 34) hx hb dX0_hasCell_17 (by decide) (fun c_17 => ?_) (fun c_17 => ?_)
      · have hf := ite_t c_17 hf
        exact w34 () hf _ _ _ hP hD hS (lv_sub hl [] rfl)
      · have hf := ite_f c_17 hf
        refine lv_iload_n hx hb dX0_hasCell_20 rfl (lv_at hl 1 rfl) ?_
        refine lv_iconst (v := 4) hx hb dX0_hasCell_21 (by decide) ?_
        refine lv_irem hx hb dX0_hasCell_22 (by decide) ?_
        refine lv_aload_n hx hb dX0_hasCell_23 rfl (lv_at hl 0 rfl) ?_
        refine va_get (D := D) (ci := 0) (v := .int size) (C := RX0) (T := TX0) (N := 9) hx hb hts hinX0 hown hK.1 hP 0 rfl rfl 0 (by decide) (hts (.fieldLink RX0 33 "Gridpuzzle$Board" "size" "I") (by decide +kernel)) (fun _ h9 => h9) rfl dX0_hasCell_24 ?_
        refine lv_icmp_ge (tgt := 34) hx hb dX0_hasCell_27 (by decide) (fun c_27 => ?_) (fun c_27 => ?_)
        · have hf := ite_t c_27 hf
          exact w34 () hf _ _ _ hP hD hS (lv_sub hl [] rfl)
        · have hf := ite_f c_27 hf
          refine lv_iconst (v := 1) hx hb dX0_hasCell_30 (by decide) ?_
          refine lv_goto (tgt := 35) hx hb dX0_hasCell_31 (by decide) ?_
          cases hf
          exact hR _ _ _ _ _ _ (by decide) rfl rfl hP hD hS dX0_hasCell_35
def rm_X0_isOpen : Room := { frames := 1, cells := 0, slots := 0, locals := 21 }
set_option maxRecDepth 100000 in
set_option maxHeartbeats 8000000 in
theorem K_X0_isOpen (l : Launch) (D : va_G) (cI cZ : ClassId) (ad : Nat → Nat) (sz : Nat) (size rc : Int32) (g fs st ln su rr cr : Nat → Int32) (p1 : Int32) (r : (Int32)) (hf : f_X0_isOpen size g p1 = r) : Met l yX0_isOpen wsX0_isOpen rm_X0_isOpen (PC D cI cZ sz [.ref (ad 0), .int p1] (wB cI ad size rc g fs st ln su rr cr)) (QI D cI cZ sz (wB cI ad size rc g fs st ln su rr cr) r (wB cI ad size rc g fs st ln su rr cr)) 0 0 (va_A (wB cI ad size rc g fs st ln su rr cr) sz) := by
  refine mk_z (cc := cX0_isOpen) (maxL := 2) (lv0 := [(0, .ref (ad 0)), (1, .int p1)]) (by decide) rfl (Nat.le_of_ble_eq_true rfl) rfl ?_
  intro p e s m args below meth c ls A Q H hx hb hml hown hts hK hP hD hA hS hl hR
  have hinX0 : ∀ w ∈ wsX00, w ∈ wsX0_isOpen := by decide +kernel
  rw [f_X0_isOpen] at hf
  refine lv_aload_n hx hb dX0_isOpen_0 rfl (lv_at hl 0 rfl) ?_
  refine lv_iload_n hx hb dX0_isOpen_1 rfl (lv_at hl 1 rfl) ?_
  refine clV_i (As := [.int p1]) (rest := []) (wB cI ad size rc g fs st ln su rr cr) ⟨hx, hb, hml, hown, hts⟩ (K_X0_hasCell l D cI cZ ad H.size size rc g fs st ln su rr cr p1 _ rfl) (cwV 1 hts gX0_isOpen_X0_hasCell rfl rfl rfl (by decide +kernel) ⟨Nat.le_of_ble_eq_true rfl, Nat.le_of_ble_eq_true rfl⟩) hK hP hD hS hA hl.1 [0, 1, 2, 3, 4, 5, 6, 7] (by decide) rfl rfl rfl 0 0 rfl rfl rfl rfl rfl (Nat.le_of_ble_eq_true rfl) dX0_isOpen_2 ⟨Nat.le_of_ble_eq_true rfl, Nat.le_of_ble_eq_true rfl⟩ (fun H locs hP hD hS => ?_)
  obtain ⟨k24, hk24, hf⟩ := jn_some hf
  have w24 : ∀ (_ : Unit), k24 () = r → ∀ (H : Heap) (locs : List Loc) (ls : Array Slot), va_P D vwCl (wB cI ad size rc g fs st ln su rr cr) H → va_D A (wB cI ad size rc g fs st ln su rr cr) → va_S A s.heap H locs → lv_has ls 2 [] → W p l e rm_X0_isOpen s m args below meth c H locs 0 0 Q (F0 m 24 ls []) := by
    intro _ hf H locs ls hP hD hS hl
    rw [hk24] at hf
    try dsimp only at hf
    refine lv_iconst (v := 0) hx hb dX0_isOpen_24 (by decide) ?_
    cases hf
    exact hR _ _ _ _ _ _ (by decide) rfl rfl hP hD hS dX0_isOpen_25
  refine lv_if_eq (tgt := 24) hx hb dX0_isOpen_5 (by decide) (fun c_5 => ?_) (fun c_5 => ?_)
  · have hf := ite_t c_5 hf
    exact w24 () hf _ _ _ hP hD hS (lv_sub hl [] rfl)
  · have hf := ite_f c_5 hf
    refine lv_aload_n hx hb dX0_isOpen_8 rfl (lv_at hl 0 rfl) ?_
    refine va_get (D := D) (ci := 0) (v := .ref (ad 1)) (C := RX0) (T := TX0) (N := 9) hx hb hts hinX0 hown hK.1 hP 0 rfl rfl 2 (by decide) (hts (.fieldLink RX0 9 "Gridpuzzle$Board" "givens" "[I") (by decide +kernel)) (fun _ h9 => h9) rfl dX0_isOpen_9 ?_
    refine lv_iload_n hx hb dX0_isOpen_12 rfl (lv_at hl 1 rfl) ?_
    refine clN_i (As := [.ref (ad 1), .int p1]) (rest := []) (wB cI ad size rc g fs st ln su rr cr) ⟨hx, hb, hml, hown, hts⟩ (K_X3_at l D cI cZ (ad 1) 16 (by decide) H.size g p1 _ rfl) ⟨va_cnB (host := RX3) 2 hts gX0_isOpen_X3_at_n50 rfl rfl rfl (hK.2 (RX0, 50, yX3_at) (by decide)) (hts (.initialized RX3) (by decide +kernel)) (by decide +kernel) ⟨Nat.le_of_ble_eq_true rfl, Nat.le_of_ble_eq_true rfl⟩, hts (.static yX3_at) (by decide +kernel), trivial⟩ hK hP hD hS hA hl.1 [1] (by decide) rfl rfl rfl rfl rfl (Nat.le_of_ble_eq_true rfl) dX0_isOpen_13 ⟨Nat.le_of_ble_eq_true rfl, Nat.le_of_ble_eq_true rfl⟩ (fun H locs hP hD hS => ?_)
    refine lv_iconst (v := (-1)) hx hb dX0_isOpen_16 (by decide) ?_
    refine lv_icmp_eq (tgt := 24) hx hb dX0_isOpen_17 (by decide) (fun c_17 => ?_) (fun c_17 => ?_)
    · have hf := ite_t c_17 hf
      exact w24 () hf _ _ _ hP hD hS (lv_sub hl [] rfl)
    · have hf := ite_f c_17 hf
      refine lv_iconst (v := 1) hx hb dX0_isOpen_20 (by decide) ?_
      refine lv_goto (tgt := 25) hx hb dX0_isOpen_21 (by decide) ?_
      cases hf
      exact hR _ _ _ _ _ _ (by decide) rfl rfl hP hD hS dX0_isOpen_25
def rm_X0_addRun : Room := { frames := 1, cells := 0, slots := 0, locals := 22 }
set_option maxRecDepth 100000 in
set_option maxHeartbeats 8000000 in
theorem K_X0_addRun (l : Launch) (D : va_G) (cI cZ : ClassId) (ad : Nat → Nat) (sz : Nat) (N : Nat) (size rc : Int32) (g fs st ln su rr cr : Nat → Int32) (p1 : Int32) (p2 : Int32) (p3 : Int32) (r : (Int32 × (Nat → Int32) × (Nat → Int32) × (Nat → Int32) × (Nat → Int32) × (Nat → Int32))) (hf : f_X0_addRun N rc fs st ln rr cr p1 p2 p3 = some r) : Met l yX0_addRun wsX0_addRun rm_X0_addRun (PC D cI cZ sz [.ref (ad 0), .int p1, .int p2, .int p3] (wB cI ad size rc g fs st ln su rr cr)) (QV D cI cZ sz (wB cI ad size rc g fs st ln su rr cr) (wB cI ad size r.1 g r.2.1 r.2.2.1 r.2.2.2.1 su r.2.2.2.2.1 r.2.2.2.2.2)) 0 0 (va_A (wB cI ad size rc g fs st ln su rr cr) sz) := by
  refine mk_v (cc := cX0_addRun) (maxL := 5) (lv0 := [(0, .ref (ad 0)), (1, .int p1), (2, .int p2), (3, .int p3)]) (by decide) rfl (Nat.le_of_ble_eq_true rfl) rfl ?_
  intro p e s m args below meth c ls A Q H hx hb hml hown hts hK hP hD hA hS hl hR
  have hinX0 : ∀ w ∈ wsX00, w ∈ wsX0_addRun := by decide +kernel
  rw [f_X0_addRun] at hf
  refine lv_iload_n hx hb dX0_addRun_0 rfl (lv_at hl 3 rfl) ?_
  refine lv_iconst (v := 2) hx hb dX0_addRun_1 (by decide) ?_
  refine lv_icmp_ge (tgt := 6) hx hb dX0_addRun_2 (by decide) (fun c_2 => ?_) (fun c_2 => ?_)
  · have hf := ite_t c_2 hf
    refine lv_aload_n hx hb dX0_addRun_6 rfl (lv_at hl 0 rfl) ?_
    refine va_get (D := D) (ci := 0) (v := .ref (ad 2)) (C := RX0) (T := TX0) (N := 9) hx hb hts hinX0 hown hK.1 hP 0 rfl rfl 3 (by decide) (hts (.fieldLink RX0 15 "Gridpuzzle$Board" "firsts" "[I") (by decide +kernel)) (fun _ h9 => h9) rfl dX0_addRun_7 ?_
    refine lv_aload_n hx hb dX0_addRun_10 rfl (lv_at hl 0 rfl) ?_
    refine va_get (D := D) (ci := 0) (v := .int rc) (C := RX0) (T := TX0) (N := 9) hx hb hts hinX0 hown hK.1 hP 0 rfl rfl 1 (by decide) (hts (.fieldLink RX0 68 "Gridpuzzle$Board" "runCount" "I") (by decide +kernel)) (fun _ h9 => h9) rfl dX0_addRun_11 ?_
    refine lv_iload_n hx hb dX0_addRun_14 rfl (lv_at hl 1 rfl) ?_
    refine clN_v (As := [.ref (ad 2), .int rc, .int p1]) (rest := []) (wB cI ad size rc g (f_X3_put 8 fs rc p1) st ln su rr cr) ⟨hx, hb, hml, hown, hts⟩ (K_X3_put l D cI cZ (ad 2) 8 (by decide) H.size fs rc p1 _ rfl) ⟨va_cnB (host := RX3) 3 hts gX0_addRun_X3_put_n54 rfl rfl rfl (hK.2 (RX0, 54, yX3_put) (by decide)) (hts (.initialized RX3) (by decide +kernel)) (by decide +kernel) ⟨Nat.le_of_ble_eq_true rfl, Nat.le_of_ble_eq_true rfl⟩, hts (.static yX3_put) (by decide +kernel), trivial⟩ hK hP hD hS hA hl.1 [2] (by decide) rfl rfl rfl rfl rfl (Nat.le_of_ble_eq_true rfl) dX0_addRun_15 ⟨Nat.le_of_ble_eq_true rfl, Nat.le_of_ble_eq_true rfl⟩ (fun H locs hP hD hS => ?_)
    refine lv_aload_n hx hb dX0_addRun_18 rfl (lv_at hl 0 rfl) ?_
    refine va_get (D := D) (ci := 0) (v := .ref (ad 3)) (C := RX0) (T := TX0) (N := 9) hx hb hts hinX0 hown hK.1 hP 0 rfl rfl 4 (by decide) (hts (.fieldLink RX0 18 "Gridpuzzle$Board" "steps" "[I") (by decide +kernel)) (fun _ h9 => h9) rfl dX0_addRun_19 ?_
    refine lv_aload_n hx hb dX0_addRun_22 rfl (lv_at hl 0 rfl) ?_
    refine va_get (D := D) (ci := 0) (v := .int rc) (C := RX0) (T := TX0) (N := 9) hx hb hts hinX0 hown hK.1 hP 0 rfl rfl 1 (by decide) (hts (.fieldLink RX0 68 "Gridpuzzle$Board" "runCount" "I") (by decide +kernel)) (fun _ h9 => h9) rfl dX0_addRun_23 ?_
    refine lv_iload_n hx hb dX0_addRun_26 rfl (lv_at hl 2 rfl) ?_
    refine clN_v (As := [.ref (ad 3), .int rc, .int p2]) (rest := []) (wB cI ad size rc g (f_X3_put 8 fs rc p1) (f_X3_put 8 st rc p2) ln su rr cr) ⟨hx, hb, hml, hown, hts⟩ (K_X3_put l D cI cZ (ad 3) 8 (by decide) H.size st rc p2 _ rfl) ⟨va_cnB (host := RX3) 3 hts gX0_addRun_X3_put_n54 rfl rfl rfl (hK.2 (RX0, 54, yX3_put) (by decide)) (hts (.initialized RX3) (by decide +kernel)) (by decide +kernel) ⟨Nat.le_of_ble_eq_true rfl, Nat.le_of_ble_eq_true rfl⟩, hts (.static yX3_put) (by decide +kernel), trivial⟩ hK hP hD hS hA hl.1 [3] (by decide) rfl rfl rfl rfl rfl (Nat.le_of_ble_eq_true rfl) dX0_addRun_27 ⟨Nat.le_of_ble_eq_true rfl, Nat.le_of_ble_eq_true rfl⟩ (fun H locs hP hD hS => ?_)
    refine lv_aload_n hx hb dX0_addRun_30 rfl (lv_at hl 0 rfl) ?_
    refine va_get (D := D) (ci := 0) (v := .ref (ad 4)) (C := RX0) (T := TX0) (N := 9) hx hb hts hinX0 hown hK.1 hP 0 rfl rfl 5 (by decide) (hts (.fieldLink RX0 21 "Gridpuzzle$Board" "lengths" "[I") (by decide +kernel)) (fun _ h9 => h9) rfl dX0_addRun_31 ?_
    refine lv_aload_n hx hb dX0_addRun_34 rfl (lv_at hl 0 rfl) ?_
    refine va_get (D := D) (ci := 0) (v := .int rc) (C := RX0) (T := TX0) (N := 9) hx hb hts hinX0 hown hK.1 hP 0 rfl rfl 1 (by decide) (hts (.fieldLink RX0 68 "Gridpuzzle$Board" "runCount" "I") (by decide +kernel)) (fun _ h9 => h9) rfl dX0_addRun_35 ?_
    refine lv_iload_n hx hb dX0_addRun_38 rfl (lv_at hl 3 rfl) ?_
    refine clN_v (As := [.ref (ad 4), .int rc, .int p3]) (rest := []) (wB cI ad size rc g (f_X3_put 8 fs rc p1) (f_X3_put 8 st rc p2) (f_X3_put 8 ln rc p3) su rr cr) ⟨hx, hb, hml, hown, hts⟩ (K_X3_put l D cI cZ (ad 4) 8 (by decide) H.size ln rc p3 _ rfl) ⟨va_cnB (host := RX3) 3 hts gX0_addRun_X3_put_n54 rfl rfl rfl (hK.2 (RX0, 54, yX3_put) (by decide)) (hts (.initialized RX3) (by decide +kernel)) (by decide +kernel) ⟨Nat.le_of_ble_eq_true rfl, Nat.le_of_ble_eq_true rfl⟩, hts (.static yX3_put) (by decide +kernel), trivial⟩ hK hP hD hS hA hl.1 [4] (by decide) rfl rfl rfl rfl rfl (Nat.le_of_ble_eq_true rfl) dX0_addRun_39 ⟨Nat.le_of_ble_eq_true rfl, Nat.le_of_ble_eq_true rfl⟩ (fun H locs hP hD hS => ?_)
    refine lv_iconst (v := 0) hx hb dX0_addRun_42 (by decide) ?_
    refine lv_istore (lv' := [(4, .int 0), (0, .ref (ad 0)), (1, .int p1), (2, .int p2), (3, .int p3)]) hx hb dX0_addRun_43 hl (by decide) rfl (fun ls hl => ?_)
    obtain ⟨k86, hk86, hf⟩ := jn_some hf
    have w86 : ∀ (rr_86 : Nat → Int32) (cr_86 : Nat → Int32), k86 rr_86 cr_86 = some r → ∀ (H : Heap) (locs : List Loc) (ls : Array Slot), va_P D vwCl (wB cI ad size rc g (f_X3_put 8 fs rc p1) (f_X3_put 8 st rc p2) (f_X3_put 8 ln rc p3) su rr_86 cr_86) H → va_D A (wB cI ad size rc g (f_X3_put 8 fs rc p1) (f_X3_put 8 st rc p2) (f_X3_put 8 ln rc p3) su rr_86 cr_86) → va_S A s.heap H locs → lv_has ls 5 [(0, .ref (ad 0))] → W p l e rm_X0_addRun s m args below meth c H locs 0 0 Q (F0 m 86 ls []) := by
      intro rr_86 cr_86 hf H locs ls hP hD hS hl
      rw [hk86] at hf
      try dsimp only at hf
      refine lv_aload_n hx hb dX0_addRun_86 rfl (lv_at hl 0 rfl) ?_
      refine lv_dup hx hb dX0_addRun_87 rfl ?_
      refine va_get (D := D) (ci := 0) (v := .int rc) (C := RX0) (T := TX0) (N := 9) hx hb hts hinX0 hown hK.1 hP 0 rfl rfl 1 (by decide) (hts (.fieldLink RX0 68 "Gridpuzzle$Board" "runCount" "I") (by decide +kernel)) (fun _ h9 => h9) rfl dX0_addRun_88 ?_
      refine lv_iconst (v := 1) hx hb dX0_addRun_91 (by decide) ?_
      refine lv_iadd hx hb dX0_addRun_92 ?_
      refine va_put (D := D) (ci := 0) (v := .int (rc + 1)) (ty := .int) (C := RX0) (T := TX0) (N := 9) hx hb hts hinX0 tyX0 tyX0_ok nmX0 hown hK.1 hP hD hS 0 rfl rfl 1 (by decide) (hts (.fieldLink RX0 68 "Gridpuzzle$Board" "runCount" "I") (by decide +kernel)) (fun _ h9 => h9) rfl (by decide +kernel) rfl rfl (Nat.le_of_ble_eq_true rfl) dX0_addRun_93 (fun H locs hP hD hS => ?_)
      have hP : va_P D vwCl (wB cI ad size (rc + 1) g (f_X3_put 8 fs rc p1) (f_X3_put 8 st rc p2) (f_X3_put 8 ln rc p3) su rr_86 cr_86) H := hP
      have hD : va_D A (wB cI ad size (rc + 1) g (f_X3_put 8 fs rc p1) (f_X3_put 8 st rc p2) (f_X3_put 8 ln rc p3) su rr_86 cr_86) := hD
      cases hf
      exact hR _ _ _ _ _ rfl hP hD hS dX0_addRun_96
    have l45 : ∀ (nn : Nat) (v4_45 : Int32) (rr_45 : Nat → Int32) (cr_45 : Nat → Int32), f_X0_addRun_L45 p1 p2 p3 rc k86 nn v4_45 rr_45 cr_45 = some r → ∀ (H : Heap) (locs : List Loc) (ls : Array Slot), va_P D vwCl (wB cI ad size rc g (f_X3_put 8 fs rc p1) (f_X3_put 8 st rc p2) (f_X3_put 8 ln rc p3) su rr_45 cr_45) H → va_D A (wB cI ad size rc g (f_X3_put 8 fs rc p1) (f_X3_put 8 st rc p2) (f_X3_put 8 ln rc p3) su rr_45 cr_45) → va_S A s.heap H locs → lv_has ls 5 [(0, .ref (ad 0)), (1, .int p1), (2, .int p2), (3, .int p3), (4, .int v4_45)] → W p l e rm_X0_addRun s m args below meth c H locs 0 0 Q (F0 m 45 ls []) := by
      intro nn
      induction nn with
      | zero => intro _ _ _ hf; exact nomatch (show (none : Option _) = some r from hf)
      | succ n45 ih45 =>
        intro v4_45 rr_45 cr_45 hf H locs ls hP hD hS hl
        rw [f_X0_addRun_L45.eq_2] at hf
        refine lv_iload hx hb dX0_addRun_45 (lv_at hl 4 rfl) ?_
        refine lv_iload_n hx hb dX0_addRun_47 rfl (lv_at hl 3 rfl) ?_
        refine lv_icmp_ge (tgt := 86) hx hb dX0_addRun_48 (by decide) (fun c_48 => ?_) (fun c_48 => ?_)
        · have hf := ite_t c_48 hf
          exact w86 rr_45 cr_45 hf _ _ _ hP hD hS (lv_sub hl [0] rfl)
        · have hf := ite_f c_48 hf
          refine lv_iload_n hx hb dX0_addRun_51 rfl (lv_at hl 2 rfl) ?_
          refine lv_iconst (v := 1) hx hb dX0_addRun_52 (by decide) ?_
          refine lv_icmp_ne (tgt := 63) hx hb dX0_addRun_53 (by decide) (fun c_53 => ?_) (fun c_53 => ?_)
          · have hf := ite_f c_53 hf
            refine lv_aload_n hx hb dX0_addRun_63 rfl (lv_at hl 0 rfl) ?_
            refine va_get (D := D) (ci := 0) (v := .ref (ad 7)) (C := RX0) (T := TX0) (N := 9) hx hb hts hinX0 hown hK.1 hP 0 rfl rfl 8 (by decide) (hts (.fieldLink RX0 30 "Gridpuzzle$Board" "columnRuns" "[I") (by decide +kernel)) (fun _ h9 => h9) rfl dX0_addRun_64 ?_
            refine lv_iload_n hx hb dX0_addRun_67 rfl (lv_at hl 1 rfl) ?_
            refine lv_iload hx hb dX0_addRun_68 (lv_at hl 4 rfl) ?_
            refine lv_iload_n hx hb dX0_addRun_70 rfl (lv_at hl 2 rfl) ?_
            refine lv_imul hx hb dX0_addRun_71 ?_
            refine lv_iadd hx hb dX0_addRun_72 ?_
            refine lv_aload_n hx hb dX0_addRun_73 rfl (lv_at hl 0 rfl) ?_
            refine va_get (D := D) (ci := 0) (v := .int rc) (C := RX0) (T := TX0) (N := 9) hx hb hts hinX0 hown hK.1 hP 0 rfl rfl 1 (by decide) (hts (.fieldLink RX0 68 "Gridpuzzle$Board" "runCount" "I") (by decide +kernel)) (fun _ h9 => h9) rfl dX0_addRun_74 ?_
            refine clN_v (As := [.ref (ad 7), .int (p1 + (v4_45 * p2)), .int rc]) (rest := []) (wB cI ad size rc g (f_X3_put 8 fs rc p1) (f_X3_put 8 st rc p2) (f_X3_put 8 ln rc p3) su rr_45 (f_X3_put 16 cr_45 (p1 + (v4_45 * p2)) rc)) ⟨hx, hb, hml, hown, hts⟩ (K_X3_put l D cI cZ (ad 7) 16 (by decide) H.size cr_45 (p1 + (v4_45 * p2)) rc _ rfl) ⟨va_cnB (host := RX3) 3 hts gX0_addRun_X3_put_n54 rfl rfl rfl (hK.2 (RX0, 54, yX3_put) (by decide)) (hts (.initialized RX3) (by decide +kernel)) (by decide +kernel) ⟨Nat.le_of_ble_eq_true rfl, Nat.le_of_ble_eq_true rfl⟩, hts (.static yX3_put) (by decide +kernel), trivial⟩ hK hP hD hS hA hl.1 [7] (by decide) rfl rfl rfl rfl rfl (Nat.le_of_ble_eq_true rfl) dX0_addRun_77 ⟨Nat.le_of_ble_eq_true rfl, Nat.le_of_ble_eq_true rfl⟩ (fun H locs hP hD hS => ?_)
            refine lv_iinc (v := (v4_45 + 1)) (lv' := [(4, .int (v4_45 + 1)), (0, .ref (ad 0)), (1, .int p1), (2, .int p2), (3, .int p3)]) hx hb dX0_addRun_80 hl (k := 4) rfl rfl (by decide) rfl (fun ls hl => ?_)
            refine lv_goto (tgt := 45) hx hb dX0_addRun_83 (by decide) ?_
            exact ih45 (v4_45 + 1) rr_45 (f_X3_put 16 cr_45 (p1 + (v4_45 * p2)) rc) hf _ _ _ hP hD hS (lv_sub hl [1, 2, 3, 4, 0] rfl)
          · have hf := ite_t c_53 hf
            refine lv_aload_n hx hb dX0_addRun_56 rfl (lv_at hl 0 rfl) ?_
            refine va_get (D := D) (ci := 0) (v := .ref (ad 6)) (C := RX0) (T := TX0) (N := 9) hx hb hts hinX0 hown hK.1 hP 0 rfl rfl 7 (by decide) (hts (.fieldLink RX0 27 "Gridpuzzle$Board" "rowRuns" "[I") (by decide +kernel)) (fun _ h9 => h9) rfl dX0_addRun_57 ?_
            refine lv_goto (tgt := 67) hx hb dX0_addRun_60 (by decide) ?_
            refine lv_iload_n hx hb dX0_addRun_67 rfl (lv_at hl 1 rfl) ?_
            refine lv_iload hx hb dX0_addRun_68 (lv_at hl 4 rfl) ?_
            refine lv_iload_n hx hb dX0_addRun_70 rfl (lv_at hl 2 rfl) ?_
            refine lv_imul hx hb dX0_addRun_71 ?_
            refine lv_iadd hx hb dX0_addRun_72 ?_
            refine lv_aload_n hx hb dX0_addRun_73 rfl (lv_at hl 0 rfl) ?_
            refine va_get (D := D) (ci := 0) (v := .int rc) (C := RX0) (T := TX0) (N := 9) hx hb hts hinX0 hown hK.1 hP 0 rfl rfl 1 (by decide) (hts (.fieldLink RX0 68 "Gridpuzzle$Board" "runCount" "I") (by decide +kernel)) (fun _ h9 => h9) rfl dX0_addRun_74 ?_
            refine clN_v (As := [.ref (ad 6), .int (p1 + (v4_45 * p2)), .int rc]) (rest := []) (wB cI ad size rc g (f_X3_put 8 fs rc p1) (f_X3_put 8 st rc p2) (f_X3_put 8 ln rc p3) su (f_X3_put 16 rr_45 (p1 + (v4_45 * p2)) rc) cr_45) ⟨hx, hb, hml, hown, hts⟩ (K_X3_put l D cI cZ (ad 6) 16 (by decide) H.size rr_45 (p1 + (v4_45 * p2)) rc _ rfl) ⟨va_cnB (host := RX3) 3 hts gX0_addRun_X3_put_n54 rfl rfl rfl (hK.2 (RX0, 54, yX3_put) (by decide)) (hts (.initialized RX3) (by decide +kernel)) (by decide +kernel) ⟨Nat.le_of_ble_eq_true rfl, Nat.le_of_ble_eq_true rfl⟩, hts (.static yX3_put) (by decide +kernel), trivial⟩ hK hP hD hS hA hl.1 [6] (by decide) rfl rfl rfl rfl rfl (Nat.le_of_ble_eq_true rfl) dX0_addRun_77 ⟨Nat.le_of_ble_eq_true rfl, Nat.le_of_ble_eq_true rfl⟩ (fun H locs hP hD hS => ?_)
            refine lv_iinc (v := (v4_45 + 1)) (lv' := [(4, .int (v4_45 + 1)), (0, .ref (ad 0)), (1, .int p1), (2, .int p2), (3, .int p3)]) hx hb dX0_addRun_80 hl (k := 4) rfl rfl (by decide) rfl (fun ls hl => ?_)
            refine lv_goto (tgt := 45) hx hb dX0_addRun_83 (by decide) ?_
            exact ih45 (v4_45 + 1) (f_X3_put 16 rr_45 (p1 + (v4_45 * p2)) rc) cr_45 hf _ _ _ hP hD hS (lv_sub hl [1, 2, 3, 4, 0] rfl)
    exact l45 N 0 rr cr hf _ _ _ hP hD hS (lv_sub hl [1, 2, 3, 4, 0] rfl)
  · have hf := ite_f c_2 hf
    cases hf
    exact hR _ _ _ _ _ rfl hP hD hS dX0_addRun_5
def rm_X0_findRunsOfLine : Room := { frames := 2, cells := 0, slots := 0, locals := 46 }
set_option maxRecDepth 100000 in
set_option maxHeartbeats 8000000 in
theorem K_X0_findRunsOfLine (l : Launch) (D : va_G) (cI cZ : ClassId) (ad : Nat → Nat) (sz : Nat) (N : Nat) (size rc : Int32) (g fs st ln su rr cr : Nat → Int32) (p1 : Int32) (p2 : Int32) (r : (Int32 × (Nat → Int32) × (Nat → Int32) × (Nat → Int32) × (Nat → Int32) × (Nat → Int32))) (hf : f_X0_findRunsOfLine N size rc g fs st ln rr cr p1 p2 = some r) : Met l yX0_findRunsOfLine wsX0_findRunsOfLine rm_X0_findRunsOfLine (PC D cI cZ sz [.ref (ad 0), .int p1, .int p2] (wB cI ad size rc g fs st ln su rr cr)) (QV D cI cZ sz (wB cI ad size rc g fs st ln su rr cr) (wB cI ad size r.1 g r.2.1 r.2.2.1 r.2.2.2.1 su r.2.2.2.2.1 r.2.2.2.2.2)) 0 0 (va_A (wB cI ad size rc g fs st ln su rr cr) sz) := by
  refine mk_v (cc := cX0_findRunsOfLine) (maxL := 5) (lv0 := [(0, .ref (ad 0)), (1, .int p1), (2, .int p2)]) (by decide) rfl (Nat.le_of_ble_eq_true rfl) rfl ?_
  intro p e s m args below meth c ls A Q H hx hb hml hown hts hK hP hD hA hS hl hR
  have hinX0 : ∀ w ∈ wsX00, w ∈ wsX0_findRunsOfLine := by decide +kernel
  rw [f_X0_findRunsOfLine] at hf
  refine lv_iconst (v := 0) hx hb dX0_findRunsOfLine_0 (by decide) ?_
  refine lv_istore_n (lv' := [(3, .int 0), (0, .ref (ad 0)), (1, .int p1), (2, .int p2)]) hx hb dX0_findRunsOfLine_1 rfl hl (by decide) rfl (fun ls hl => ?_)
  refine lv_iconst (v := 0) hx hb dX0_findRunsOfLine_2 (by decide) ?_
  refine lv_istore (lv' := [(4, .int 0), (3, .int 0), (0, .ref (ad 0)), (1, .int p1), (2, .int p2)]) hx hb dX0_findRunsOfLine_3 hl (by decide) rfl (fun ls hl => ?_)
  have l5 : ∀ (nn : Nat) (v3_5 : Int32) (v4_5 : Int32) (rc_5 : Int32) (fs_5 : Nat → Int32) (st_5 : Nat → Int32) (ln_5 : Nat → Int32) (rr_5 : Nat → Int32) (cr_5 : Nat → Int32), f_X0_findRunsOfLine_L5 N p1 p2 size g nn v3_5 v4_5 rc_5 fs_5 st_5 ln_5 rr_5 cr_5 = some r → ∀ (H : Heap) (locs : List Loc) (ls : Array Slot), va_P D vwCl (wB cI ad size rc_5 g fs_5 st_5 ln_5 su rr_5 cr_5) H → va_D A (wB cI ad size rc_5 g fs_5 st_5 ln_5 su rr_5 cr_5) → va_S A s.heap H locs → lv_has ls 5 [(0, .ref (ad 0)), (1, .int p1), (2, .int p2), (3, .int v3_5), (4, .int v4_5)] → W p l e rm_X0_findRunsOfLine s m args below meth c H locs 0 0 Q (F0 m 5 ls []) := by
    intro nn
    induction nn with
    | zero => intro _ _ _ _ _ _ _ _ hf; exact nomatch (show (none : Option _) = some r from hf)
    | succ n5 ih5 =>
      intro v3_5 v4_5 rc_5 fs_5 st_5 ln_5 rr_5 cr_5 hf H locs ls hP hD hS hl
      rw [f_X0_findRunsOfLine_L5.eq_2] at hf
      refine lv_iload hx hb dX0_findRunsOfLine_5 (lv_at hl 4 rfl) ?_
      refine lv_aload_n hx hb dX0_findRunsOfLine_7 rfl (lv_at hl 0 rfl) ?_
      refine va_get (D := D) (ci := 0) (v := .int size) (C := RX0) (T := TX0) (N := 9) hx hb hts hinX0 hown hK.1 hP 0 rfl rfl 0 (by decide) (hts (.fieldLink RX0 33 "Gridpuzzle$Board" "size" "I") (by decide +kernel)) (fun _ h9 => h9) rfl dX0_findRunsOfLine_8 ?_
      refine lv_icmp_gt (tgt := 64) hx hb dX0_findRunsOfLine_11 (by decide) (fun c_11 => ?_) (fun c_11 => ?_)
      · have hf := ite_t c_11 hf
        cases hf
        exact hR _ _ _ _ _ rfl hP hD hS dX0_findRunsOfLine_64
      · have hf := ite_f c_11 hf
        refine lv_iload hx hb dX0_findRunsOfLine_14 (lv_at hl 4 rfl) ?_
        refine lv_aload_n hx hb dX0_findRunsOfLine_16 rfl (lv_at hl 0 rfl) ?_
        refine va_get (D := D) (ci := 0) (v := .int size) (C := RX0) (T := TX0) (N := 9) hx hb hts hinX0 hown hK.1 hP 0 rfl rfl 0 (by decide) (hts (.fieldLink RX0 33 "Gridpuzzle$Board" "size" "I") (by decide +kernel)) (fun _ h9 => h9) rfl dX0_findRunsOfLine_17 ?_
        obtain ⟨k58, hk58, hf⟩ := jn_some hf
        have w58 : ∀ (v3_58 : Int32) (rc_58 : Int32) (fs_58 : Nat → Int32) (st_58 : Nat → Int32) (ln_58 : Nat → Int32) (rr_58 : Nat → Int32) (cr_58 : Nat → Int32), k58 v3_58 rc_58 fs_58 st_58 ln_58 rr_58 cr_58 = some r → ∀ (H : Heap) (locs : List Loc) (ls : Array Slot), va_P D vwCl (wB cI ad size rc_58 g fs_58 st_58 ln_58 su rr_58 cr_58) H → va_D A (wB cI ad size rc_58 g fs_58 st_58 ln_58 su rr_58 cr_58) → va_S A s.heap H locs → lv_has ls 5 [(0, .ref (ad 0)), (1, .int p1), (2, .int p2), (3, .int v3_58), (4, .int v4_5)] → W p l e rm_X0_findRunsOfLine s m args below meth c H locs 0 0 Q (F0 m 58 ls []) := by
          intro v3_58 rc_58 fs_58 st_58 ln_58 rr_58 cr_58 hf H locs ls hP hD hS hl
          rw [hk58] at hf
          try dsimp only at hf
          refine lv_iinc (v := (v4_5 + 1)) (lv' := [(4, .int (v4_5 + 1)), (0, .ref (ad 0)), (1, .int p1), (2, .int p2), (3, .int v3_58)]) hx hb dX0_findRunsOfLine_58 hl (k := 4) rfl rfl (by decide) rfl (fun ls hl => ?_)
          refine lv_goto (tgt := 5) hx hb dX0_findRunsOfLine_61 (by decide) ?_
          exact ih5 v3_58 (v4_5 + 1) rc_58 fs_58 st_58 ln_58 rr_58 cr_58 hf _ _ _ hP hD hS (lv_sub hl [1, 2, 3, 4, 0] rfl)
        obtain ⟨k42, hk42, hf⟩ := jn_some hf
        have w42 : ∀ (_ : Unit), k42 () = some r → ∀ (H : Heap) (locs : List Loc) (ls : Array Slot), va_P D vwCl (wB cI ad size rc_5 g fs_5 st_5 ln_5 su rr_5 cr_5) H → va_D A (wB cI ad size rc_5 g fs_5 st_5 ln_5 su rr_5 cr_5) → va_S A s.heap H locs → lv_has ls 5 [(0, .ref (ad 0)), (1, .int p1), (2, .int p2), (3, .int v3_5), (4, .int v4_5)] → W p l e rm_X0_findRunsOfLine s m args below meth c H locs 0 0 Q (F0 m 42 ls []) := by
          intro _ hf H locs ls hP hD hS hl
          rw [hk42] at hf
          try dsimp only at hf
          refine lv_aload_n hx hb dX0_findRunsOfLine_42 rfl (lv_at hl 0 rfl) ?_
          refine lv_iload_n hx hb dX0_findRunsOfLine_43 rfl (lv_at hl 1 rfl) ?_
          refine lv_iload hx hb dX0_findRunsOfLine_44 (lv_at hl 4 rfl) ?_
          refine lv_iload_n hx hb dX0_findRunsOfLine_46 rfl (lv_at hl 3 rfl) ?_
          refine lv_isub hx hb dX0_findRunsOfLine_47 ?_
          refine lv_iload_n hx hb dX0_findRunsOfLine_48 rfl (lv_at hl 2 rfl) ?_
          refine lv_imul hx hb dX0_findRunsOfLine_49 ?_
          refine lv_iadd hx hb dX0_findRunsOfLine_50 ?_
          refine lv_iload_n hx hb dX0_findRunsOfLine_51 rfl (lv_at hl 2 rfl) ?_
          refine lv_iload_n hx hb dX0_findRunsOfLine_52 rfl (lv_at hl 3 rfl) ?_
          obtain ⟨x53, hy53, hf⟩ := Option.bind_eq_some_iff.mp hf
          refine clV_v (As := [.int (p1 + ((v4_5 - v3_5) * p2)), .int p2, .int v3_5]) (rest := []) (wB cI ad size x53.1 g x53.2.1 x53.2.2.1 x53.2.2.2.1 su x53.2.2.2.2.1 x53.2.2.2.2.2) ⟨hx, hb, hml, hown, hts⟩ (K_X0_addRun l D cI cZ ad H.size N size rc_5 g fs_5 st_5 ln_5 su rr_5 cr_5 (p1 + ((v4_5 - v3_5) * p2)) p2 v3_5 _ hy53) (cwV 3 hts gX0_findRunsOfLine_X0_addRun rfl rfl rfl (by decide +kernel) ⟨Nat.le_of_ble_eq_true rfl, Nat.le_of_ble_eq_true rfl⟩) hK hP hD hS hA hl.1 [0, 1, 2, 3, 4, 5, 6, 7] (by decide) rfl rfl rfl 0 0 rfl rfl rfl rfl rfl (Nat.le_of_ble_eq_true rfl) dX0_findRunsOfLine_53 ⟨Nat.le_of_ble_eq_true rfl, Nat.le_of_ble_eq_true rfl⟩ (fun H locs hP hD hS => ?_)
          refine lv_iconst (v := 0) hx hb dX0_findRunsOfLine_56 (by decide) ?_
          refine lv_istore_n (lv' := [(3, .int 0), (0, .ref (ad 0)), (1, .int p1), (2, .int p2), (4, .int v4_5)]) hx hb dX0_findRunsOfLine_57 rfl hl (by decide) rfl (fun ls hl => ?_)
          exact w58 0 x53.1 x53.2.1 x53.2.2.1 x53.2.2.2.1 x53.2.2.2.2.1 x53.2.2.2.2.2 hf _ _ _ hP hD hS (lv_sub hl [1, 2, 3, 0, 4] rfl)
        refine lv_icmp_ge (tgt := 42) hx hb dX0_findRunsOfLine_20 (by decide) (fun c_20 => ?_) (fun c_20 => ?_)
        · have hf := ite_t c_20 hf
          exact w42 () hf _ _ _ hP hD hS (lv_sub hl [0, 1, 2, 3, 4] rfl)
        · have hf := ite_f c_20 hf
          refine lv_aload_n hx hb dX0_findRunsOfLine_23 rfl (lv_at hl 0 rfl) ?_
          refine lv_iload_n hx hb dX0_findRunsOfLine_24 rfl (lv_at hl 1 rfl) ?_
          refine lv_iload hx hb dX0_findRunsOfLine_25 (lv_at hl 4 rfl) ?_
          refine lv_iload_n hx hb dX0_findRunsOfLine_27 rfl (lv_at hl 2 rfl) ?_
          refine lv_imul hx hb dX0_findRunsOfLine_28 ?_
          refine lv_iadd hx hb dX0_findRunsOfLine_29 ?_
          refine clV_i (As := [.int (p1 + (v4_5 * p2))]) (rest := []) (wB cI ad size rc_5 g fs_5 st_5 ln_5 su rr_5 cr_5) ⟨hx, hb, hml, hown, hts⟩ (K_X0_isOpen l D cI cZ ad H.size size rc_5 g fs_5 st_5 ln_5 su rr_5 cr_5 (p1 + (v4_5 * p2)) _ rfl) (cwV 1 hts gX0_findRunsOfLine_X0_isOpen rfl rfl rfl (by decide +kernel) ⟨Nat.le_of_ble_eq_true rfl, Nat.le_of_ble_eq_true rfl⟩) hK hP hD hS hA hl.1 [0, 1, 2, 3, 4, 5, 6, 7] (by decide) rfl rfl rfl 0 0 rfl rfl rfl rfl rfl (Nat.le_of_ble_eq_true rfl) dX0_findRunsOfLine_30 ⟨Nat.le_of_ble_eq_true rfl, Nat.le_of_ble_eq_true rfl⟩ (fun H locs hP hD hS => ?_)
          refine lv_if_eq (tgt := 42) hx hb dX0_findRunsOfLine_33 (by decide) (fun c_33 => ?_) (fun c_33 => ?_)
          · have hf := ite_t c_33 hf
            exact w42 () hf _ _ _ hP hD hS (lv_sub hl [0, 1, 2, 3, 4] rfl)
          · have hf := ite_f c_33 hf
            refine lv_iinc (v := (v3_5 + 1)) (lv' := [(3, .int (v3_5 + 1)), (0, .ref (ad 0)), (1, .int p1), (2, .int p2), (4, .int v4_5)]) hx hb dX0_findRunsOfLine_36 hl (k := 3) rfl rfl (by decide) rfl (fun ls hl => ?_)
            refine lv_goto (tgt := 58) hx hb dX0_findRunsOfLine_39 (by decide) ?_
            exact w58 (v3_5 + 1) rc_5 fs_5 st_5 ln_5 rr_5 cr_5 hf _ _ _ hP hD hS (lv_sub hl [1, 2, 3, 0, 4] rfl)
  exact l5 N 0 0 rc fs st ln rr cr hf _ _ _ hP hD hS (lv_sub hl [2, 3, 4, 1, 0] rfl)
def rm_X0_findRuns : Room := { frames := 3, cells := 0, slots := 0, locals := 70 }
set_option maxRecDepth 100000 in
set_option maxHeartbeats 8000000 in
theorem K_X0_findRuns (l : Launch) (D : va_G) (cI cZ : ClassId) (ad : Nat → Nat) (sz : Nat) (N : Nat) (size rc : Int32) (g fs st ln su rr cr : Nat → Int32) (r : (Int32 × (Nat → Int32) × (Nat → Int32) × (Nat → Int32) × (Nat → Int32) × (Nat → Int32) × (Nat → Int32))) (hf : f_X0_findRuns N size rc g fs st ln su rr cr = some r) : Met l yX0_findRuns wsX0_findRuns rm_X0_findRuns (PC D cI cZ sz [.ref (ad 0)] (wB cI ad size rc g fs st ln su rr cr)) (QV D cI cZ sz (wB cI ad size rc g fs st ln su rr cr) (wB cI ad size r.1 g r.2.1 r.2.2.1 r.2.2.2.1 r.2.2.2.2.1 r.2.2.2.2.2.1 r.2.2.2.2.2.2)) 0 0 (va_A (wB cI ad size rc g fs st ln su rr cr) sz) := by
  refine mk_v (cc := cX0_findRuns) (maxL := 2) (lv0 := [(0, .ref (ad 0))]) (by decide) rfl (Nat.le_of_ble_eq_true rfl) rfl ?_
  intro p e s m args below meth c ls A Q H hx hb hml hown hts hK hP hD hA hS hl hR
  have hinX0 : ∀ w ∈ wsX00, w ∈ wsX0_findRuns := by decide +kernel
  rw [f_X0_findRuns] at hf
  refine lv_aload_n hx hb dX0_findRuns_0 rfl (lv_at hl 0 rfl) ?_
  refine lv_iconst (v := 0) hx hb dX0_findRuns_1 (by decide) ?_
  refine va_put (D := D) (ci := 0) (v := .int 0) (ty := .int) (C := RX0) (T := TX0) (N := 9) hx hb hts hinX0 tyX0 tyX0_ok nmX0 hown hK.1 hP hD hS 0 rfl rfl 1 (by decide) (hts (.fieldLink RX0 68 "Gridpuzzle$Board" "runCount" "I") (by decide +kernel)) (fun _ h9 => h9) rfl (by decide +kernel) rfl rfl (Nat.le_of_ble_eq_true rfl) dX0_findRuns_2 (fun H locs hP hD hS => ?_)
  have hP : va_P D vwCl (wB cI ad size 0 g fs st ln su rr cr) H := hP
  have hD : va_D A (wB cI ad size 0 g fs st ln su rr cr) := hD
  refine lv_aload_n hx hb dX0_findRuns_5 rfl (lv_at hl 0 rfl) ?_
  refine va_get (D := D) (ci := 0) (v := .ref (ad 5)) (C := RX0) (T := TX0) (N := 9) hx hb hts hinX0 hown hK.1 hP 0 rfl rfl 6 (by decide) (hts (.fieldLink RX0 24 "Gridpuzzle$Board" "sums" "[I") (by decide +kernel)) (fun _ h9 => h9) rfl dX0_findRuns_6 ?_
  refine lv_iconst (v := 0) hx hb dX0_findRuns_9 (by decide) ?_
  obtain ⟨x10, hy10, hf⟩ := Option.bind_eq_some_iff.mp hf
  refine clS_v (As := [.ref (ad 5), .int 0]) (rest := []) (wB cI ad size 0 g fs st ln x10 rr cr) ⟨hx, hb, hml, hown, hts⟩ (K_J7_fill_53178 l D cI cZ (ad 5) 8 (by decide) H.size N su 0 _ hy10) (va_cwS 2 hts gX0_findRuns_J7_fill_53178 rfl rfl rfl (by decide +kernel) ⟨Nat.le_of_ble_eq_true rfl, Nat.le_of_ble_eq_true rfl⟩) hK hP hD hS hA hl.1 [5] (by decide) rfl rfl rfl rfl rfl (Nat.le_of_ble_eq_true rfl) dX0_findRuns_10 ⟨Nat.le_of_ble_eq_true rfl, Nat.le_of_ble_eq_true rfl⟩ (fun H locs hP hD hS => ?_)
  refine lv_aload_n hx hb dX0_findRuns_13 rfl (lv_at hl 0 rfl) ?_
  refine va_get (D := D) (ci := 0) (v := .ref (ad 6)) (C := RX0) (T := TX0) (N := 9) hx hb hts hinX0 hown hK.1 hP 0 rfl rfl 7 (by decide) (hts (.fieldLink RX0 27 "Gridpuzzle$Board" "rowRuns" "[I") (by decide +kernel)) (fun _ h9 => h9) rfl dX0_findRuns_14 ?_
  refine lv_iconst (v := (-1)) hx hb dX0_findRuns_17 (by decide) ?_
  obtain ⟨x18, hy18, hf⟩ := Option.bind_eq_some_iff.mp hf
  refine clS_v (As := [.ref (ad 6), .int (-1)]) (rest := []) (wB cI ad size 0 g fs st ln x10 x18 cr) ⟨hx, hb, hml, hown, hts⟩ (K_J7_fill_53178 l D cI cZ (ad 6) 16 (by decide) H.size N rr (-1) _ hy18) (va_cwS 2 hts gX0_findRuns_J7_fill_53178 rfl rfl rfl (by decide +kernel) ⟨Nat.le_of_ble_eq_true rfl, Nat.le_of_ble_eq_true rfl⟩) hK hP hD hS hA hl.1 [6] (by decide) rfl rfl rfl rfl rfl (Nat.le_of_ble_eq_true rfl) dX0_findRuns_18 ⟨Nat.le_of_ble_eq_true rfl, Nat.le_of_ble_eq_true rfl⟩ (fun H locs hP hD hS => ?_)
  refine lv_aload_n hx hb dX0_findRuns_21 rfl (lv_at hl 0 rfl) ?_
  refine va_get (D := D) (ci := 0) (v := .ref (ad 7)) (C := RX0) (T := TX0) (N := 9) hx hb hts hinX0 hown hK.1 hP 0 rfl rfl 8 (by decide) (hts (.fieldLink RX0 30 "Gridpuzzle$Board" "columnRuns" "[I") (by decide +kernel)) (fun _ h9 => h9) rfl dX0_findRuns_22 ?_
  refine lv_iconst (v := (-1)) hx hb dX0_findRuns_25 (by decide) ?_
  obtain ⟨x26, hy26, hf⟩ := Option.bind_eq_some_iff.mp hf
  refine clS_v (As := [.ref (ad 7), .int (-1)]) (rest := []) (wB cI ad size 0 g fs st ln x10 x18 x26) ⟨hx, hb, hml, hown, hts⟩ (K_J7_fill_53178 l D cI cZ (ad 7) 16 (by decide) H.size N cr (-1) _ hy26) (va_cwS 2 hts gX0_findRuns_J7_fill_53178 rfl rfl rfl (by decide +kernel) ⟨Nat.le_of_ble_eq_true rfl, Nat.le_of_ble_eq_true rfl⟩) hK hP hD hS hA hl.1 [7] (by decide) rfl rfl rfl rfl rfl (Nat.le_of_ble_eq_true rfl) dX0_findRuns_26 ⟨Nat.le_of_ble_eq_true rfl, Nat.le_of_ble_eq_true rfl⟩ (fun H locs hP hD hS => ?_)
  refine lv_iconst (v := 0) hx hb dX0_findRuns_29 (by decide) ?_
  refine lv_istore_n (lv' := [(1, .int 0), (0, .ref (ad 0))]) hx hb dX0_findRuns_30 rfl hl (by decide) rfl (fun ls hl => ?_)
  obtain ⟨k53, hk53, hf⟩ := jn_some hf
  have w53 : ∀ (rc_53 : Int32) (fs_53 : Nat → Int32) (st_53 : Nat → Int32) (ln_53 : Nat → Int32) (rr_53 : Nat → Int32) (cr_53 : Nat → Int32), k53 rc_53 fs_53 st_53 ln_53 rr_53 cr_53 = some r → ∀ (H : Heap) (locs : List Loc) (ls : Array Slot), va_P D vwCl (wB cI ad size rc_53 g fs_53 st_53 ln_53 x10 rr_53 cr_53) H → va_D A (wB cI ad size rc_53 g fs_53 st_53 ln_53 x10 rr_53 cr_53) → va_S A s.heap H locs → lv_has ls 2 [(0, .ref (ad 0))] → W p l e rm_X0_findRuns s m args below meth c H locs 0 0 Q (F0 m 53 ls []) := by
    intro rc_53 fs_53 st_53 ln_53 rr_53 cr_53 hf H locs ls hP hD hS hl
    rw [hk53] at hf
    try dsimp only at hf
    refine lv_iconst (v := 0) hx hb dX0_findRuns_53 (by decide) ?_
    refine lv_istore_n (lv' := [(1, .int 0), (0, .ref (ad 0))]) hx hb dX0_findRuns_54 rfl hl (by decide) rfl (fun ls hl => ?_)
    have l55 : ∀ (nn : Nat) (v1_55 : Int32) (rc_55 : Int32) (fs_55 : Nat → Int32) (st_55 : Nat → Int32) (ln_55 : Nat → Int32) (rr_55 : Nat → Int32) (cr_55 : Nat → Int32), f_X0_findRuns_L55 N size g x10 nn v1_55 rc_55 fs_55 st_55 ln_55 rr_55 cr_55 = some r → ∀ (H : Heap) (locs : List Loc) (ls : Array Slot), va_P D vwCl (wB cI ad size rc_55 g fs_55 st_55 ln_55 x10 rr_55 cr_55) H → va_D A (wB cI ad size rc_55 g fs_55 st_55 ln_55 x10 rr_55 cr_55) → va_S A s.heap H locs → lv_has ls 2 [(0, .ref (ad 0)), (1, .int v1_55)] → W p l e rm_X0_findRuns s m args below meth c H locs 0 0 Q (F0 m 55 ls []) := by
      intro nn
      induction nn with
      | zero => intro _ _ _ _ _ _ _ hf; exact nomatch (show (none : Option _) = some r from hf)
      | succ n55 ih55 =>
        intro v1_55 rc_55 fs_55 st_55 ln_55 rr_55 cr_55 hf H locs ls hP hD hS hl
        rw [f_X0_findRuns_L55.eq_2] at hf
        refine lv_iload_n hx hb dX0_findRuns_55 rfl (lv_at hl 1 rfl) ?_
        refine lv_aload_n hx hb dX0_findRuns_56 rfl (lv_at hl 0 rfl) ?_
        refine va_get (D := D) (ci := 0) (v := .int size) (C := RX0) (T := TX0) (N := 9) hx hb hts hinX0 hown hK.1 hP 0 rfl rfl 0 (by decide) (hts (.fieldLink RX0 33 "Gridpuzzle$Board" "size" "I") (by decide +kernel)) (fun _ h9 => h9) rfl dX0_findRuns_57 ?_
        refine lv_icmp_ge (tgt := 75) hx hb dX0_findRuns_60 (by decide) (fun c_60 => ?_) (fun c_60 => ?_)
        · have hf := ite_t c_60 hf
          cases hf
          exact hR _ _ _ _ _ rfl hP hD hS dX0_findRuns_75
        · have hf := ite_f c_60 hf
          refine lv_aload_n hx hb dX0_findRuns_63 rfl (lv_at hl 0 rfl) ?_
          refine lv_iload_n hx hb dX0_findRuns_64 rfl (lv_at hl 1 rfl) ?_
          refine lv_iconst (v := 4) hx hb dX0_findRuns_65 (by decide) ?_
          obtain ⟨x66, hy66, hf⟩ := Option.bind_eq_some_iff.mp hf
          refine clV_v (As := [.int v1_55, .int 4]) (rest := []) (wB cI ad size x66.1 g x66.2.1 x66.2.2.1 x66.2.2.2.1 x10 x66.2.2.2.2.1 x66.2.2.2.2.2) ⟨hx, hb, hml, hown, hts⟩ (K_X0_findRunsOfLine l D cI cZ ad H.size N size rc_55 g fs_55 st_55 ln_55 x10 rr_55 cr_55 v1_55 4 _ hy66) (cwV 2 hts gX0_findRuns_X0_findRunsOfLine rfl rfl rfl (by decide +kernel) ⟨Nat.le_of_ble_eq_true rfl, Nat.le_of_ble_eq_true rfl⟩) hK hP hD hS hA hl.1 [0, 1, 2, 3, 4, 5, 6, 7] (by decide) rfl rfl rfl 0 0 rfl rfl rfl rfl rfl (Nat.le_of_ble_eq_true rfl) dX0_findRuns_66 ⟨Nat.le_of_ble_eq_true rfl, Nat.le_of_ble_eq_true rfl⟩ (fun H locs hP hD hS => ?_)
          refine lv_iinc (v := (v1_55 + 1)) (lv' := [(1, .int (v1_55 + 1)), (0, .ref (ad 0))]) hx hb dX0_findRuns_69 hl (k := 1) rfl rfl (by decide) rfl (fun ls hl => ?_)
          refine lv_goto (tgt := 55) hx hb dX0_findRuns_72 (by decide) ?_
          exact ih55 (v1_55 + 1) x66.1 x66.2.1 x66.2.2.1 x66.2.2.2.1 x66.2.2.2.2.1 x66.2.2.2.2.2 hf _ _ _ hP hD hS (lv_sub hl [1, 0] rfl)
    exact l55 N 0 rc_53 fs_53 st_53 ln_53 rr_53 cr_53 hf _ _ _ hP hD hS (lv_sub hl [1, 0] rfl)
  have l31 : ∀ (nn : Nat) (v1_31 : Int32) (rc_31 : Int32) (fs_31 : Nat → Int32) (st_31 : Nat → Int32) (ln_31 : Nat → Int32) (rr_31 : Nat → Int32) (cr_31 : Nat → Int32), f_X0_findRuns_L31 N size g k53 nn v1_31 rc_31 fs_31 st_31 ln_31 rr_31 cr_31 = some r → ∀ (H : Heap) (locs : List Loc) (ls : Array Slot), va_P D vwCl (wB cI ad size rc_31 g fs_31 st_31 ln_31 x10 rr_31 cr_31) H → va_D A (wB cI ad size rc_31 g fs_31 st_31 ln_31 x10 rr_31 cr_31) → va_S A s.heap H locs → lv_has ls 2 [(0, .ref (ad 0)), (1, .int v1_31)] → W p l e rm_X0_findRuns s m args below meth c H locs 0 0 Q (F0 m 31 ls []) := by
    intro nn
    induction nn with
    | zero => intro _ _ _ _ _ _ _ hf; exact nomatch (show (none : Option _) = some r from hf)
    | succ n31 ih31 =>
      intro v1_31 rc_31 fs_31 st_31 ln_31 rr_31 cr_31 hf H locs ls hP hD hS hl
      rw [f_X0_findRuns_L31.eq_2] at hf
      refine lv_iload_n hx hb dX0_findRuns_31 rfl (lv_at hl 1 rfl) ?_
      refine lv_aload_n hx hb dX0_findRuns_32 rfl (lv_at hl 0 rfl) ?_
      refine va_get (D := D) (ci := 0) (v := .int size) (C := RX0) (T := TX0) (N := 9) hx hb hts hinX0 hown hK.1 hP 0 rfl rfl 0 (by decide) (hts (.fieldLink RX0 33 "Gridpuzzle$Board" "size" "I") (by decide +kernel)) (fun _ h9 => h9) rfl dX0_findRuns_33 ?_
      refine lv_icmp_ge (tgt := 53) hx hb dX0_findRuns_36 (by decide) (fun c_36 => ?_) (fun c_36 => ?_)
      · have hf := ite_t c_36 hf
        exact w53 rc_31 fs_31 st_31 ln_31 rr_31 cr_31 hf _ _ _ hP hD hS (lv_sub hl [0] rfl)
      · have hf := ite_f c_36 hf
        refine lv_aload_n hx hb dX0_findRuns_39 rfl (lv_at hl 0 rfl) ?_
        refine lv_iload_n hx hb dX0_findRuns_40 rfl (lv_at hl 1 rfl) ?_
        refine lv_iconst (v := 4) hx hb dX0_findRuns_41 (by decide) ?_
        refine lv_imul hx hb dX0_findRuns_42 ?_
        refine lv_iconst (v := 1) hx hb dX0_findRuns_43 (by decide) ?_
        obtain ⟨x44, hy44, hf⟩ := Option.bind_eq_some_iff.mp hf
        refine clV_v (As := [.int (v1_31 * 4), .int 1]) (rest := []) (wB cI ad size x44.1 g x44.2.1 x44.2.2.1 x44.2.2.2.1 x10 x44.2.2.2.2.1 x44.2.2.2.2.2) ⟨hx, hb, hml, hown, hts⟩ (K_X0_findRunsOfLine l D cI cZ ad H.size N size rc_31 g fs_31 st_31 ln_31 x10 rr_31 cr_31 (v1_31 * 4) 1 _ hy44) (cwV 2 hts gX0_findRuns_X0_findRunsOfLine rfl rfl rfl (by decide +kernel) ⟨Nat.le_of_ble_eq_true rfl, Nat.le_of_ble_eq_true rfl⟩) hK hP hD hS hA hl.1 [0, 1, 2, 3, 4, 5, 6, 7] (by decide) rfl rfl rfl 0 0 rfl rfl rfl rfl rfl (Nat.le_of_ble_eq_true rfl) dX0_findRuns_44 ⟨Nat.le_of_ble_eq_true rfl, Nat.le_of_ble_eq_true rfl⟩ (fun H locs hP hD hS => ?_)
        refine lv_iinc (v := (v1_31 + 1)) (lv' := [(1, .int (v1_31 + 1)), (0, .ref (ad 0))]) hx hb dX0_findRuns_47 hl (k := 1) rfl rfl (by decide) rfl (fun ls hl => ?_)
        refine lv_goto (tgt := 31) hx hb dX0_findRuns_50 (by decide) ?_
        exact ih31 (v1_31 + 1) x44.1 x44.2.1 x44.2.2.1 x44.2.2.2.1 x44.2.2.2.2.1 x44.2.2.2.2.2 hf _ _ _ hP hD hS (lv_sub hl [1, 0] rfl)
  exact l31 N 0 0 fs st ln x18 x26 hf _ _ _ hP hD hS (lv_sub hl [1, 0] rfl)
def rm_X0_clear : Room := { frames := 4, cells := 0, slots := 0, locals := 91 }
set_option maxRecDepth 100000 in
set_option maxHeartbeats 8000000 in
theorem K_X0_clear (l : Launch) (D : va_G) (cI cZ : ClassId) (ad : Nat → Nat) (sz : Nat) (N : Nat) (size rc : Int32) (g fs st ln su rr cr : Nat → Int32) (p1 : Int32) (r : (Int32 × Int32 × (Nat → Int32) × (Nat → Int32) × (Nat → Int32) × (Nat → Int32) × (Nat → Int32) × (Nat → Int32) × (Nat → Int32))) (hf : f_X0_clear N size rc g fs st ln su rr cr p1 = some r) : Met l yX0_clear wsX0_clear rm_X0_clear (PC D cI cZ sz [.ref (ad 0), .int p1] (wB cI ad size rc g fs st ln su rr cr)) (QV D cI cZ sz (wB cI ad size rc g fs st ln su rr cr) (wB cI ad r.1 r.2.1 r.2.2.1 r.2.2.2.1 r.2.2.2.2.1 r.2.2.2.2.2.1 r.2.2.2.2.2.2.1 r.2.2.2.2.2.2.2.1 r.2.2.2.2.2.2.2.2)) 0 0 (va_A (wB cI ad size rc g fs st ln su rr cr) sz) := by
  refine mk_v (cc := cX0_clear) (maxL := 2) (lv0 := [(0, .ref (ad 0)), (1, .int p1)]) (by decide) rfl (Nat.le_of_ble_eq_true rfl) rfl ?_
  intro p e s m args below meth c ls A Q H hx hb hml hown hts hK hP hD hA hS hl hR
  have hinX0 : ∀ w ∈ wsX00, w ∈ wsX0_clear := by decide +kernel
  rw [f_X0_clear] at hf
  refine lv_aload_n hx hb dX0_clear_0 rfl (lv_at hl 0 rfl) ?_
  refine lv_iload_n hx hb dX0_clear_1 rfl (lv_at hl 1 rfl) ?_
  refine va_put (D := D) (ci := 0) (v := .int p1) (ty := .int) (C := RX0) (T := TX0) (N := 9) hx hb hts hinX0 tyX0 tyX0_ok nmX0 hown hK.1 hP hD hS 0 rfl rfl 0 (by decide) (hts (.fieldLink RX0 33 "Gridpuzzle$Board" "size" "I") (by decide +kernel)) (fun _ h9 => h9) rfl (by decide +kernel) rfl rfl (Nat.le_of_ble_eq_true rfl) dX0_clear_2 (fun H locs hP hD hS => ?_)
  have hP : va_P D vwCl (wB cI ad p1 rc g fs st ln su rr cr) H := hP
  have hD : va_D A (wB cI ad p1 rc g fs st ln su rr cr) := hD
  refine lv_aload_n hx hb dX0_clear_5 rfl (lv_at hl 0 rfl) ?_
  refine va_get (D := D) (ci := 0) (v := .ref (ad 1)) (C := RX0) (T := TX0) (N := 9) hx hb hts hinX0 hown hK.1 hP 0 rfl rfl 2 (by decide) (hts (.fieldLink RX0 9 "Gridpuzzle$Board" "givens" "[I") (by decide +kernel)) (fun _ h9 => h9) rfl dX0_clear_6 ?_
  refine lv_iconst (v := 0) hx hb dX0_clear_9 (by decide) ?_
  obtain ⟨x10, hy10, hf⟩ := Option.bind_eq_some_iff.mp hf
  refine clS_v (As := [.ref (ad 1), .int 0]) (rest := []) (wB cI ad p1 rc x10 fs st ln su rr cr) ⟨hx, hb, hml, hown, hts⟩ (K_J7_fill_53178 l D cI cZ (ad 1) 16 (by decide) H.size N g 0 _ hy10) (va_cwS 2 hts gX0_clear_J7_fill_53178 rfl rfl rfl (by decide +kernel) ⟨Nat.le_of_ble_eq_true rfl, Nat.le_of_ble_eq_true rfl⟩) hK hP hD hS hA hl.1 [1] (by decide) rfl rfl rfl rfl rfl (Nat.le_of_ble_eq_true rfl) dX0_clear_10 ⟨Nat.le_of_ble_eq_true rfl, Nat.le_of_ble_eq_true rfl⟩ (fun H locs hP hD hS => ?_)
  refine lv_aload_n hx hb dX0_clear_13 rfl (lv_at hl 0 rfl) ?_
  obtain ⟨x14, hy14, hf⟩ := Option.bind_eq_some_iff.mp hf
  refine clV_v (As := []) (rest := []) (wB cI ad p1 x14.1 x10 x14.2.1 x14.2.2.1 x14.2.2.2.1 x14.2.2.2.2.1 x14.2.2.2.2.2.1 x14.2.2.2.2.2.2) ⟨hx, hb, hml, hown, hts⟩ (K_X0_findRuns l D cI cZ ad H.size N p1 rc x10 fs st ln su rr cr _ hy14) (cwV 0 hts gX0_clear_X0_findRuns rfl rfl rfl (by decide +kernel) ⟨Nat.le_of_ble_eq_true rfl, Nat.le_of_ble_eq_true rfl⟩) hK hP hD hS hA hl.1 [0, 1, 2, 3, 4, 5, 6, 7] (by decide) rfl rfl rfl 0 0 rfl rfl rfl rfl rfl (Nat.le_of_ble_eq_true rfl) dX0_clear_14 ⟨Nat.le_of_ble_eq_true rfl, Nat.le_of_ble_eq_true rfl⟩ (fun H locs hP hD hS => ?_)
  cases hf
  exact hR _ _ _ _ _ rfl hP hD hS dX0_clear_17
def rm_X0_turn : Room := { frames := 4, cells := 0, slots := 0, locals := 91 }
set_option maxRecDepth 100000 in
set_option maxHeartbeats 8000000 in
theorem K_X0_turn (l : Launch) (D : va_G) (cI cZ : ClassId) (ad : Nat → Nat) (sz : Nat) (N : Nat) (size rc : Int32) (g fs st ln su rr cr : Nat → Int32) (p1 : Int32) (r : (Int32 × (Nat → Int32) × (Nat → Int32) × (Nat → Int32) × (Nat → Int32) × (Nat → Int32) × (Nat → Int32) × (Nat → Int32))) (hf : f_X0_turn N size rc g fs st ln su rr cr p1 = some r) : Met l yX0_turn wsX0_turn rm_X0_turn (PC D cI cZ sz [.ref (ad 0), .int p1] (wB cI ad size rc g fs st ln su rr cr)) (QV D cI cZ sz (wB cI ad size rc g fs st ln su rr cr) (wB cI ad size r.1 r.2.1 r.2.2.1 r.2.2.2.1 r.2.2.2.2.1 r.2.2.2.2.2.1 r.2.2.2.2.2.2.1 r.2.2.2.2.2.2.2)) 0 0 (va_A (wB cI ad size rc g fs st ln su rr cr) sz) := by
  refine mk_v (cc := cX0_turn) (maxL := 2) (lv0 := [(0, .ref (ad 0)), (1, .int p1)]) (by decide) rfl (Nat.le_of_ble_eq_true rfl) rfl ?_
  intro p e s m args below meth c ls A Q H hx hb hml hown hts hK hP hD hA hS hl hR
  have hinX0 : ∀ w ∈ wsX00, w ∈ wsX0_turn := by decide +kernel
  rw [f_X0_turn] at hf
  refine lv_aload_n hx hb dX0_turn_0 rfl (lv_at hl 0 rfl) ?_
  refine va_get (D := D) (ci := 0) (v := .ref (ad 1)) (C := RX0) (T := TX0) (N := 9) hx hb hts hinX0 hown hK.1 hP 0 rfl rfl 2 (by decide) (hts (.fieldLink RX0 9 "Gridpuzzle$Board" "givens" "[I") (by decide +kernel)) (fun _ h9 => h9) rfl dX0_turn_1 ?_
  refine lv_iload_n hx hb dX0_turn_4 rfl (lv_at hl 1 rfl) ?_
  refine lv_aload_n hx hb dX0_turn_5 rfl (lv_at hl 0 rfl) ?_
  refine lv_iload_n hx hb dX0_turn_6 rfl (lv_at hl 1 rfl) ?_
  refine clV_i (As := [.int p1]) (rest := [.int p1, .ref (ad 1)]) (wB cI ad size rc g fs st ln su rr cr) ⟨hx, hb, hml, hown, hts⟩ (K_X0_isOpen l D cI cZ ad H.size size rc g fs st ln su rr cr p1 _ rfl) (cwV 1 hts gX0_turn_X0_isOpen rfl rfl rfl (by decide +kernel) ⟨Nat.le_of_ble_eq_true rfl, Nat.le_of_ble_eq_true rfl⟩) hK hP hD hS hA hl.1 [0, 1, 2, 3, 4, 5, 6, 7] (by decide) rfl rfl rfl 0 0 rfl rfl rfl rfl rfl (Nat.le_of_ble_eq_true rfl) dX0_turn_7 ⟨Nat.le_of_ble_eq_true rfl, Nat.le_of_ble_eq_true rfl⟩ (fun H locs hP hD hS => ?_)
  obtain ⟨k18, hk18, hf⟩ := jn_some hf
  have w18 : ∀ (t0_18 : Int32), k18 t0_18 = some r → ∀ (H : Heap) (locs : List Loc) (ls : Array Slot), va_P D vwCl (wB cI ad size rc g fs st ln su rr cr) H → va_D A (wB cI ad size rc g fs st ln su rr cr) → va_S A s.heap H locs → lv_has ls 2 [(0, .ref (ad 0))] → W p l e rm_X0_turn s m args below meth c H locs 0 0 Q (F0 m 18 ls [.int t0_18, .int p1, .ref (ad 1)]) := by
    intro t0_18 hf H locs ls hP hD hS hl
    rw [hk18] at hf
    try dsimp only at hf
    refine clN_v (As := [.ref (ad 1), .int p1, .int t0_18]) (rest := []) (wB cI ad size rc (f_X3_put 16 g p1 t0_18) fs st ln su rr cr) ⟨hx, hb, hml, hown, hts⟩ (K_X3_put l D cI cZ (ad 1) 16 (by decide) H.size g p1 t0_18 _ rfl) ⟨va_cnB (host := RX3) 3 hts gX0_turn_X3_put_n54 rfl rfl rfl (hK.2 (RX0, 54, yX3_put) (by decide)) (hts (.initialized RX3) (by decide +kernel)) (by decide +kernel) ⟨Nat.le_of_ble_eq_true rfl, Nat.le_of_ble_eq_true rfl⟩, hts (.static yX3_put) (by decide +kernel), trivial⟩ hK hP hD hS hA hl.1 [1] (by decide) rfl rfl rfl rfl rfl (Nat.le_of_ble_eq_true rfl) dX0_turn_18 ⟨Nat.le_of_ble_eq_true rfl, Nat.le_of_ble_eq_true rfl⟩ (fun H locs hP hD hS => ?_)
    refine lv_aload_n hx hb dX0_turn_21 rfl (lv_at hl 0 rfl) ?_
    obtain ⟨x22, hy22, hf⟩ := Option.bind_eq_some_iff.mp hf
    refine clV_v (As := []) (rest := []) (wB cI ad size x22.1 (f_X3_put 16 g p1 t0_18) x22.2.1 x22.2.2.1 x22.2.2.2.1 x22.2.2.2.2.1 x22.2.2.2.2.2.1 x22.2.2.2.2.2.2) ⟨hx, hb, hml, hown, hts⟩ (K_X0_findRuns l D cI cZ ad H.size N size rc (f_X3_put 16 g p1 t0_18) fs st ln su rr cr _ hy22) (cwV 0 hts gX0_turn_X0_findRuns rfl rfl rfl (by decide +kernel) ⟨Nat.le_of_ble_eq_true rfl, Nat.le_of_ble_eq_true rfl⟩) hK hP hD hS hA hl.1 [0, 1, 2, 3, 4, 5, 6, 7] (by decide) rfl rfl rfl 0 0 rfl rfl rfl rfl rfl (Nat.le_of_ble_eq_true rfl) dX0_turn_22 ⟨Nat.le_of_ble_eq_true rfl, Nat.le_of_ble_eq_true rfl⟩ (fun H locs hP hD hS => ?_)
    cases hf
    exact hR _ _ _ _ _ rfl hP hD hS dX0_turn_25
  refine lv_if_eq (tgt := 17) hx hb dX0_turn_10 (by decide) (fun c_10 => ?_) (fun c_10 => ?_)
  · have hf := ite_t c_10 hf
    refine lv_iconst (v := 0) hx hb dX0_turn_17 (by decide) ?_
    exact w18 0 hf _ _ _ hP hD hS (lv_sub hl [0] rfl)
  · have hf := ite_f c_10 hf
    refine lv_iconst (v := (-1)) hx hb dX0_turn_13 (by decide) ?_
    refine lv_goto (tgt := 18) hx hb dX0_turn_14 (by decide) ?_
    exact w18 (-1) hf _ _ _ hP hD hS (lv_sub hl [0] rfl)
def rm_X0_oppositeOf : Room := { frames := 0, cells := 0, slots := 0, locals := 0 }
set_option maxRecDepth 100000 in
set_option maxHeartbeats 8000000 in
theorem K_X0_oppositeOf (l : Launch) (D : va_G) (cI cZ : ClassId) (ad : Nat → Nat) (sz : Nat) (size rc : Int32) (g fs st ln su rr cr : Nat → Int32) (p1 : Int32) (r : (Int32)) (hf : f_X0_oppositeOf size p1 = r) : Met l yX0_oppositeOf wsX0_oppositeOf rm_X0_oppositeOf (PC D cI cZ sz [.ref (ad 0), .int p1] (wB cI ad size rc g fs st ln su rr cr)) (QI D cI cZ sz (wB cI ad size rc g fs st ln su rr cr) r (wB cI ad size rc g fs st ln su rr cr)) 0 0 (va_A (wB cI ad size rc g fs st ln su rr cr) sz) := by
  refine mk_i (cc := cX0_oppositeOf) (maxL := 4) (lv0 := [(0, .ref (ad 0)), (1, .int p1)]) (by decide) rfl (Nat.le_of_ble_eq_true rfl) rfl ?_
  intro p e s m args below meth c ls A Q H hx hb hml hown hts hK hP hD hA hS hl hR
  have hinX0 : ∀ w ∈ wsX00, w ∈ wsX0_oppositeOf := by decide +kernel
  rw [f_X0_oppositeOf] at hf
  refine lv_aload_n hx hb dX0_oppositeOf_0 rfl (lv_at hl 0 rfl) ?_
  refine va_get (D := D) (ci := 0) (v := .int size) (C := RX0) (T := TX0) (N := 9) hx hb hts hinX0 hown hK.1 hP 0 rfl rfl 0 (by decide) (hts (.fieldLink RX0 33 "Gridpuzzle$Board" "size" "I") (by decide +kernel)) (fun _ h9 => h9) rfl dX0_oppositeOf_1 ?_
  refine lv_iconst (v := 1) hx hb dX0_oppositeOf_4 (by decide) ?_
  refine lv_isub hx hb dX0_oppositeOf_5 ?_
  refine lv_iload_n hx hb dX0_oppositeOf_6 rfl (lv_at hl 1 rfl) ?_
  refine lv_iconst (v := 4) hx hb dX0_oppositeOf_7 (by decide) ?_
  refine lv_idiv hx hb dX0_oppositeOf_8 (by decide) ?_
  refine lv_isub hx hb dX0_oppositeOf_9 ?_
  refine lv_istore_n (lv' := [(2, .int ((size - 1) - (p1 / 4))), (0, .ref (ad 0)), (1, .int p1)]) hx hb dX0_oppositeOf_10 rfl hl (by decide) rfl (fun ls hl => ?_)
  refine lv_aload_n hx hb dX0_oppositeOf_11 rfl (lv_at hl 1 rfl) ?_
  refine va_get (D := D) (ci := 0) (v := .int size) (C := RX0) (T := TX0) (N := 9) hx hb hts hinX0 hown hK.1 hP 0 rfl rfl 0 (by decide) (hts (.fieldLink RX0 33 "Gridpuzzle$Board" "size" "I") (by decide +kernel)) (fun _ h9 => h9) rfl dX0_oppositeOf_12 ?_
  refine lv_iconst (v := 1) hx hb dX0_oppositeOf_15 (by decide) ?_
  refine lv_isub hx hb dX0_oppositeOf_16 ?_
  refine lv_iload_n hx hb dX0_oppositeOf_17 rfl (lv_at hl 2 rfl) ?_
  refine lv_iconst (v := 4) hx hb dX0_oppositeOf_18 (by decide) ?_
  refine lv_irem hx hb dX0_oppositeOf_19 (by decide) ?_
  refine lv_isub hx hb dX0_oppositeOf_20 ?_
  refine lv_istore_n (lv' := [(3, .int ((size - 1) - (p1 - p1 / 4 * 4))), (2, .int ((size - 1) - (p1 / 4))), (0, .ref (ad 0)), (1, .int p1)]) hx hb dX0_oppositeOf_21 rfl hl (by decide) rfl (fun ls hl => ?_)
  refine lv_iload_n hx hb dX0_oppositeOf_22 rfl (lv_at hl 1 rfl) ?_
  refine lv_iconst (v := 4) hx hb dX0_oppositeOf_23 (by decide) ?_
  refine lv_imul hx hb dX0_oppositeOf_24 ?_
  refine lv_iload_n hx hb dX0_oppositeOf_25 rfl (lv_at hl 0 rfl) ?_
  refine lv_iadd hx hb dX0_oppositeOf_26 ?_
  cases hf
  exact hR _ _ _ _ _ _ rfl rfl hP hD hS dX0_oppositeOf_27
def rm_X0_countOpen : Room := { frames := 2, cells := 0, slots := 0, locals := 42 }
set_option maxRecDepth 100000 in
set_option maxHeartbeats 8000000 in
theorem K_X0_countOpen (l : Launch) (D : va_G) (cI cZ : ClassId) (ad : Nat → Nat) (sz : Nat) (N : Nat) (size rc : Int32) (g fs st ln su rr cr : Nat → Int32) (r : (Int32)) (hf : f_X0_countOpen N size g = some r) : Met l yX0_countOpen wsX0_countOpen rm_X0_countOpen (PC D cI cZ sz [.ref (ad 0)] (wB cI ad size rc g fs st ln su rr cr)) (QI D cI cZ sz (wB cI ad size rc g fs st ln su rr cr) r (wB cI ad size rc g fs st ln su rr cr)) 0 0 (va_A (wB cI ad size rc g fs st ln su rr cr) sz) := by
  refine mk_i (cc := cX0_countOpen) (maxL := 3) (lv0 := [(0, .ref (ad 0))]) (by decide) rfl (Nat.le_of_ble_eq_true rfl) rfl ?_
  intro p e s m args below meth c ls A Q H hx hb hml hown hts hK hP hD hA hS hl hR
  rw [f_X0_countOpen] at hf
  refine lv_iconst (v := 0) hx hb dX0_countOpen_0 (by decide) ?_
  refine lv_istore_n (lv' := [(1, .int 0), (0, .ref (ad 0))]) hx hb dX0_countOpen_1 rfl hl (by decide) rfl (fun ls hl => ?_)
  refine lv_iconst (v := 0) hx hb dX0_countOpen_2 (by decide) ?_
  refine lv_istore_n (lv' := [(2, .int 0), (1, .int 0), (0, .ref (ad 0))]) hx hb dX0_countOpen_3 rfl hl (by decide) rfl (fun ls hl => ?_)
  have l4 : ∀ (nn : Nat) (v1_4 : Int32) (v2_4 : Int32), f_X0_countOpen_L4 size g nn v1_4 v2_4 = some r → ∀ (H : Heap) (locs : List Loc) (ls : Array Slot), va_P D vwCl (wB cI ad size rc g fs st ln su rr cr) H → va_D A (wB cI ad size rc g fs st ln su rr cr) → va_S A s.heap H locs → lv_has ls 3 [(0, .ref (ad 0)), (1, .int v1_4), (2, .int v2_4)] → W p l e rm_X0_countOpen s m args below meth c H locs 0 0 Q (F0 m 4 ls []) := by
    intro nn
    induction nn with
    | zero => intro _ _ hf; exact nomatch (show (none : Option _) = some r from hf)
    | succ n4 ih4 =>
      intro v1_4 v2_4 hf H locs ls hP hD hS hl
      rw [f_X0_countOpen_L4.eq_2] at hf
      refine lv_iload_n hx hb dX0_countOpen_4 rfl (lv_at hl 2 rfl) ?_
      refine lv_bipush (v := 16) hx hb dX0_countOpen_5 (by decide) ?_
      refine lv_icmp_ge (tgt := 27) hx hb dX0_countOpen_7 (by decide) (fun c_7 => ?_) (fun c_7 => ?_)
      · have hf := ite_t c_7 hf
        refine lv_iload_n hx hb dX0_countOpen_27 rfl (lv_at hl 1 rfl) ?_
        cases hf
        exact hR _ _ _ _ _ _ rfl rfl hP hD hS dX0_countOpen_28
      · have hf := ite_f c_7 hf
        refine lv_aload_n hx hb dX0_countOpen_10 rfl (lv_at hl 0 rfl) ?_
        refine lv_iload_n hx hb dX0_countOpen_11 rfl (lv_at hl 2 rfl) ?_
        refine clV_i (As := [.int v2_4]) (rest := []) (wB cI ad size rc g fs st ln su rr cr) ⟨hx, hb, hml, hown, hts⟩ (K_X0_isOpen l D cI cZ ad H.size size rc g fs st ln su rr cr v2_4 _ rfl) (cwV 1 hts gX0_countOpen_X0_isOpen rfl rfl rfl (by decide +kernel) ⟨Nat.le_of_ble_eq_true rfl, Nat.le_of_ble_eq_true rfl⟩) hK hP hD hS hA hl.1 [0, 1, 2, 3, 4, 5, 6, 7] (by decide) rfl rfl rfl 0 0 rfl rfl rfl rfl rfl (Nat.le_of_ble_eq_true rfl) dX0_countOpen_12 ⟨Nat.le_of_ble_eq_true rfl, Nat.le_of_ble_eq_true rfl⟩ (fun H locs hP hD hS => ?_)
        obtain ⟨k21, hk21, hf⟩ := jn_some hf
        have w21 : ∀ (v1_21 : Int32), k21 v1_21 = some r → ∀ (H : Heap) (locs : List Loc) (ls : Array Slot), va_P D vwCl (wB cI ad size rc g fs st ln su rr cr) H → va_D A (wB cI ad size rc g fs st ln su rr cr) → va_S A s.heap H locs → lv_has ls 3 [(0, .ref (ad 0)), (1, .int v1_21), (2, .int v2_4)] → W p l e rm_X0_countOpen s m args below meth c H locs 0 0 Q (F0 m 21 ls []) := by
          intro v1_21 hf H locs ls hP hD hS hl
          rw [hk21] at hf
          try dsimp only at hf
          refine lv_iinc (v := (v2_4 + 1)) (lv' := [(2, .int (v2_4 + 1)), (0, .ref (ad 0)), (1, .int v1_21)]) hx hb dX0_countOpen_21 hl (k := 2) rfl rfl (by decide) rfl (fun ls hl => ?_)
          refine lv_goto (tgt := 4) hx hb dX0_countOpen_24 (by decide) ?_
          exact ih4 v1_21 (v2_4 + 1) hf _ _ _ hP hD hS (lv_sub hl [1, 2, 0] rfl)
        refine lv_if_eq (tgt := 21) hx hb dX0_countOpen_15 (by decide) (fun c_15 => ?_) (fun c_15 => ?_)
        · have hf := ite_t c_15 hf
          exact w21 v1_4 hf _ _ _ hP hD hS (lv_sub hl [0, 1, 2] rfl)
        · have hf := ite_f c_15 hf
          refine lv_iinc (v := (v1_4 + 1)) (lv' := [(1, .int (v1_4 + 1)), (0, .ref (ad 0)), (2, .int v2_4)]) hx hb dX0_countOpen_18 hl (k := 1) rfl rfl (by decide) rfl (fun ls hl => ?_)
          exact w21 (v1_4 + 1) hf _ _ _ hP hD hS (lv_sub hl [1, 0, 2] rfl)
  exact l4 N 0 0 hf _ _ _ hP hD hS (lv_sub hl [2, 1, 0] rfl)
def rm_X0_countBarred : Room := { frames := 3, cells := 0, slots := 0, locals := 64 }
set_option maxRecDepth 100000 in
set_option maxHeartbeats 8000000 in
theorem K_X0_countBarred (l : Launch) (D : va_G) (cI cZ : ClassId) (ad : Nat → Nat) (sz : Nat) (N : Nat) (size rc : Int32) (g fs st ln su rr cr : Nat → Int32) (r : (Int32)) (hf : f_X0_countBarred N size g = some r) : Met l yX0_countBarred wsX0_countBarred rm_X0_countBarred (PC D cI cZ sz [.ref (ad 0)] (wB cI ad size rc g fs st ln su rr cr)) (QI D cI cZ sz (wB cI ad size rc g fs st ln su rr cr) r (wB cI ad size rc g fs st ln su rr cr)) 0 0 (va_A (wB cI ad size rc g fs st ln su rr cr) sz) := by
  refine mk_i (cc := cX0_countBarred) (maxL := 1) (lv0 := [(0, .ref (ad 0))]) (by decide) rfl (Nat.le_of_ble_eq_true rfl) rfl ?_
  intro p e s m args below meth c ls A Q H hx hb hml hown hts hK hP hD hA hS hl hR
  have hinX0 : ∀ w ∈ wsX00, w ∈ wsX0_countBarred := by decide +kernel
  rw [f_X0_countBarred] at hf
  refine lv_aload_n hx hb dX0_countBarred_0 rfl (lv_at hl 0 rfl) ?_
  refine va_get (D := D) (ci := 0) (v := .int size) (C := RX0) (T := TX0) (N := 9) hx hb hts hinX0 hown hK.1 hP 0 rfl rfl 0 (by decide) (hts (.fieldLink RX0 33 "Gridpuzzle$Board" "size" "I") (by decide +kernel)) (fun _ h9 => h9) rfl dX0_countBarred_1 ?_
  refine lv_aload_n hx hb dX0_countBarred_4 rfl (lv_at hl 0 rfl) ?_
  refine va_get (D := D) (ci := 0) (v := .int size) (C := RX0) (T := TX0) (N := 9) hx hb hts hinX0 hown hK.1 hP 0 rfl rfl 0 (by decide) (hts (.fieldLink RX0 33 "Gridpuzzle$Board" "size" "I") (by decide +kernel)) (fun _ h9 => h9) rfl dX0_countBarred_5 ?_
  refine lv_imul hx hb dX0_countBarred_8 ?_
  refine lv_aload_n hx hb dX0_countBarred_9 rfl (lv_at hl 0 rfl) ?_
  obtain ⟨x10, hy10, hf⟩ := Option.bind_eq_some_iff.mp hf
  refine clV_i (As := []) (rest := [.int (size * size)]) (wB cI ad size rc g fs st ln su rr cr) ⟨hx, hb, hml, hown, hts⟩ (K_X0_countOpen l D cI cZ ad H.size N size rc g fs st ln su rr cr _ hy10) (cwV 0 hts gX0_countBarred_X0_countOpen rfl rfl rfl (by decide +kernel) ⟨Nat.le_of_ble_eq_true rfl, Nat.le_of_ble_eq_true rfl⟩) hK hP hD hS hA hl.1 [0, 1, 2, 3, 4, 5, 6, 7] (by decide) rfl rfl rfl 0 0 rfl rfl rfl rfl rfl (Nat.le_of_ble_eq_true rfl) dX0_countBarred_10 ⟨Nat.le_of_ble_eq_true rfl, Nat.le_of_ble_eq_true rfl⟩ (fun H locs hP hD hS => ?_)
  refine lv_isub hx hb dX0_countBarred_13 ?_
  cases hf
  exact hR _ _ _ _ _ _ rfl rfl hP hD hS dX0_countBarred_14
def rm_X0_givenAt : Room := { frames := 1, cells := 0, slots := 0, locals := 21 }
set_option maxRecDepth 100000 in
set_option maxHeartbeats 8000000 in
theorem K_X0_givenAt (l : Launch) (D : va_G) (cI cZ : ClassId) (ad : Nat → Nat) (sz : Nat) (size rc : Int32) (g fs st ln su rr cr : Nat → Int32) (p1 : Int32) (r : (Int32)) (hf : f_X0_givenAt g p1 = r) : Met l yX0_givenAt wsX0_givenAt rm_X0_givenAt (PC D cI cZ sz [.ref (ad 0), .int p1] (wB cI ad size rc g fs st ln su rr cr)) (QI D cI cZ sz (wB cI ad size rc g fs st ln su rr cr) r (wB cI ad size rc g fs st ln su rr cr)) 0 0 (va_A (wB cI ad size rc g fs st ln su rr cr) sz) := by
  refine mk_i (cc := cX0_givenAt) (maxL := 2) (lv0 := [(0, .ref (ad 0)), (1, .int p1)]) (by decide) rfl (Nat.le_of_ble_eq_true rfl) rfl ?_
  intro p e s m args below meth c ls A Q H hx hb hml hown hts hK hP hD hA hS hl hR
  have hinX0 : ∀ w ∈ wsX00, w ∈ wsX0_givenAt := by decide +kernel
  rw [f_X0_givenAt] at hf
  refine lv_aload_n hx hb dX0_givenAt_0 rfl (lv_at hl 0 rfl) ?_
  refine va_get (D := D) (ci := 0) (v := .ref (ad 1)) (C := RX0) (T := TX0) (N := 9) hx hb hts hinX0 hown hK.1 hP 0 rfl rfl 2 (by decide) (hts (.fieldLink RX0 9 "Gridpuzzle$Board" "givens" "[I") (by decide +kernel)) (fun _ h9 => h9) rfl dX0_givenAt_1 ?_
  refine lv_iload_n hx hb dX0_givenAt_4 rfl (lv_at hl 1 rfl) ?_
  refine clN_i (As := [.ref (ad 1), .int p1]) (rest := []) (wB cI ad size rc g fs st ln su rr cr) ⟨hx, hb, hml, hown, hts⟩ (K_X3_at l D cI cZ (ad 1) 16 (by decide) H.size g p1 _ rfl) ⟨va_cnB (host := RX3) 2 hts gX0_givenAt_X3_at_n50 rfl rfl rfl (hK.2 (RX0, 50, yX3_at) (by decide)) (hts (.initialized RX3) (by decide +kernel)) (by decide +kernel) ⟨Nat.le_of_ble_eq_true rfl, Nat.le_of_ble_eq_true rfl⟩, hts (.static yX3_at) (by decide +kernel), trivial⟩ hK hP hD hS hA hl.1 [1] (by decide) rfl rfl rfl rfl rfl (Nat.le_of_ble_eq_true rfl) dX0_givenAt_5 ⟨Nat.le_of_ble_eq_true rfl, Nat.le_of_ble_eq_true rfl⟩ (fun H locs hP hD hS => ?_)
  cases hf
  exact hR _ _ _ _ _ _ rfl rfl hP hD hS dX0_givenAt_8
def rm_X0_putGiven : Room := { frames := 1, cells := 0, slots := 0, locals := 22 }
set_option maxRecDepth 100000 in
set_option maxHeartbeats 8000000 in
theorem K_X0_putGiven (l : Launch) (D : va_G) (cI cZ : ClassId) (ad : Nat → Nat) (sz : Nat) (size rc : Int32) (g fs st ln su rr cr : Nat → Int32) (p1 : Int32) (p2 : Int32) (r : ((Nat → Int32))) (hf : f_X0_putGiven g p1 p2 = r) : Met l yX0_putGiven wsX0_putGiven rm_X0_putGiven (PC D cI cZ sz [.ref (ad 0), .int p1, .int p2] (wB cI ad size rc g fs st ln su rr cr)) (QV D cI cZ sz (wB cI ad size rc g fs st ln su rr cr) (wB cI ad size rc r fs st ln su rr cr)) 0 0 (va_A (wB cI ad size rc g fs st ln su rr cr) sz) := by
  refine mk_v (cc := cX0_putGiven) (maxL := 3) (lv0 := [(0, .ref (ad 0)), (1, .int p1), (2, .int p2)]) (by decide) rfl (Nat.le_of_ble_eq_true rfl) rfl ?_
  intro p e s m args below meth c ls A Q H hx hb hml hown hts hK hP hD hA hS hl hR
  have hinX0 : ∀ w ∈ wsX00, w ∈ wsX0_putGiven := by decide +kernel
  rw [f_X0_putGiven] at hf
  refine lv_aload_n hx hb dX0_putGiven_0 rfl (lv_at hl 0 rfl) ?_
  refine va_get (D := D) (ci := 0) (v := .ref (ad 1)) (C := RX0) (T := TX0) (N := 9) hx hb hts hinX0 hown hK.1 hP 0 rfl rfl 2 (by decide) (hts (.fieldLink RX0 9 "Gridpuzzle$Board" "givens" "[I") (by decide +kernel)) (fun _ h9 => h9) rfl dX0_putGiven_1 ?_
  refine lv_iload_n hx hb dX0_putGiven_4 rfl (lv_at hl 1 rfl) ?_
  refine lv_iload_n hx hb dX0_putGiven_5 rfl (lv_at hl 2 rfl) ?_
  refine clN_v (As := [.ref (ad 1), .int p1, .int p2]) (rest := []) (wB cI ad size rc (f_X3_put 16 g p1 p2) fs st ln su rr cr) ⟨hx, hb, hml, hown, hts⟩ (K_X3_put l D cI cZ (ad 1) 16 (by decide) H.size g p1 p2 _ rfl) ⟨va_cnB (host := RX3) 3 hts gX0_putGiven_X3_put_n54 rfl rfl rfl (hK.2 (RX0, 54, yX3_put) (by decide)) (hts (.initialized RX3) (by decide +kernel)) (by decide +kernel) ⟨Nat.le_of_ble_eq_true rfl, Nat.le_of_ble_eq_true rfl⟩, hts (.static yX3_put) (by decide +kernel), trivial⟩ hK hP hD hS hA hl.1 [1] (by decide) rfl rfl rfl rfl rfl (Nat.le_of_ble_eq_true rfl) dX0_putGiven_6 ⟨Nat.le_of_ble_eq_true rfl, Nat.le_of_ble_eq_true rfl⟩ (fun H locs hP hD hS => ?_)
  cases hf
  exact hR _ _ _ _ _ rfl hP hD hS dX0_putGiven_9
def rm_X0_hasRun : Room := { frames := 0, cells := 0, slots := 0, locals := 0 }
set_option maxRecDepth 100000 in
set_option maxHeartbeats 8000000 in
theorem K_X0_hasRun (l : Launch) (D : va_G) (cI cZ : ClassId) (ad : Nat → Nat) (sz : Nat) (size rc : Int32) (g fs st ln su rr cr : Nat → Int32) (p1 : Int32) (r : (Int32)) (hf : f_X0_hasRun rc p1 = r) : Met l yX0_hasRun wsX0_hasRun rm_X0_hasRun (PC D cI cZ sz [.ref (ad 0), .int p1] (wB cI ad size rc g fs st ln su rr cr)) (QI D cI cZ sz (wB cI ad size rc g fs st ln su rr cr) r (wB cI ad size rc g fs st ln su rr cr)) 0 0 (va_A (wB cI ad size rc g fs st ln su rr cr) sz) := by
  refine mk_z (cc := cX0_hasRun) (maxL := 2) (lv0 := [(0, .ref (ad 0)), (1, .int p1)]) (by decide) rfl (Nat.le_of_ble_eq_true rfl) rfl ?_
  intro p e s m args below meth c ls A Q H hx hb hml hown hts hK hP hD hA hS hl hR
  have hinX0 : ∀ w ∈ wsX00, w ∈ wsX0_hasRun := by decide +kernel
  rw [f_X0_hasRun] at hf
  refine lv_iload_n hx hb dX0_hasRun_0 rfl (lv_at hl 1 rfl) ?_
  obtain ⟨k16, hk16, hf⟩ := jn_some hf
  have w16 : ∀ (_ : Unit), k16 () = r → ∀ (H : Heap) (locs : List Loc) (ls : Array Slot), va_P D vwCl (wB cI ad size rc g fs st ln su rr cr) H → va_D A (wB cI ad size rc g fs st ln su rr cr) → va_S A s.heap H locs → lv_has ls 2 [] → W p l e rm_X0_hasRun s m args below meth c H locs 0 0 Q (F0 m 16 ls []) := by
    intro _ hf H locs ls hP hD hS hl
    rw [hk16] at hf
    try dsimp only at hf
    refine lv_iconst (v := 0) hx hb dX0_hasRun_16 (by decide) ?_
    cases hf
    exact hR _ _ _ _ _ _ (by decide) rfl rfl hP hD hS dX0_hasRun_17
  refine lv_if_lt (tgt := 16) hx hb dX0_hasRun_1 (by decide) (fun c_1 => ?_) (fun c_1 => ?_)
  · have hf := ite_t c_1 hf
    exact w16 () hf _ _ _ hP hD hS (lv_sub hl [] rfl)
  · have hf := ite_f c_1 hf
    refine lv_iload_n hx hb dX0_hasRun_4 rfl (lv_at hl 1 rfl) ?_
    refine lv_aload_n hx hb dX0_hasRun_5 rfl (lv_at hl 0 rfl) ?_
    refine va_get (D := D) (ci := 0) (v := .int rc) (C := RX0) (T := TX0) (N := 9) hx hb hts hinX0 hown hK.1 hP 0 rfl rfl 1 (by decide) (hts (.fieldLink RX0 68 "Gridpuzzle$Board" "runCount" "I") (by decide +kernel)) (fun _ h9 => h9) rfl dX0_hasRun_6 ?_
    refine lv_icmp_ge (tgt := 16) hx hb dX0_hasRun_9 (by decide) (fun c_9 => ?_) (fun c_9 => ?_)
    · have hf := ite_t c_9 hf
      exact w16 () hf _ _ _ hP hD hS (lv_sub hl [] rfl)
    · have hf := ite_f c_9 hf
      refine lv_iconst (v := 1) hx hb dX0_hasRun_12 (by decide) ?_
      refine lv_goto (tgt := 17) hx hb dX0_hasRun_13 (by decide) ?_
      cases hf
      exact hR _ _ _ _ _ _ (by decide) rfl rfl hP hD hS dX0_hasRun_17
def rm_X0_sumAt : Room := { frames := 1, cells := 0, slots := 0, locals := 21 }
set_option maxRecDepth 100000 in
set_option maxHeartbeats 8000000 in
theorem K_X0_sumAt (l : Launch) (D : va_G) (cI cZ : ClassId) (ad : Nat → Nat) (sz : Nat) (size rc : Int32) (g fs st ln su rr cr : Nat → Int32) (p1 : Int32) (r : (Int32)) (hf : f_X0_sumAt su p1 = r) : Met l yX0_sumAt wsX0_sumAt rm_X0_sumAt (PC D cI cZ sz [.ref (ad 0), .int p1] (wB cI ad size rc g fs st ln su rr cr)) (QI D cI cZ sz (wB cI ad size rc g fs st ln su rr cr) r (wB cI ad size rc g fs st ln su rr cr)) 0 0 (va_A (wB cI ad size rc g fs st ln su rr cr) sz) := by
  refine mk_i (cc := cX0_sumAt) (maxL := 2) (lv0 := [(0, .ref (ad 0)), (1, .int p1)]) (by decide) rfl (Nat.le_of_ble_eq_true rfl) rfl ?_
  intro p e s m args below meth c ls A Q H hx hb hml hown hts hK hP hD hA hS hl hR
  have hinX0 : ∀ w ∈ wsX00, w ∈ wsX0_sumAt := by decide +kernel
  rw [f_X0_sumAt] at hf
  refine lv_aload_n hx hb dX0_sumAt_0 rfl (lv_at hl 0 rfl) ?_
  refine va_get (D := D) (ci := 0) (v := .ref (ad 5)) (C := RX0) (T := TX0) (N := 9) hx hb hts hinX0 hown hK.1 hP 0 rfl rfl 6 (by decide) (hts (.fieldLink RX0 24 "Gridpuzzle$Board" "sums" "[I") (by decide +kernel)) (fun _ h9 => h9) rfl dX0_sumAt_1 ?_
  refine lv_iload_n hx hb dX0_sumAt_4 rfl (lv_at hl 1 rfl) ?_
  refine clN_i (As := [.ref (ad 5), .int p1]) (rest := []) (wB cI ad size rc g fs st ln su rr cr) ⟨hx, hb, hml, hown, hts⟩ (K_X3_at l D cI cZ (ad 5) 8 (by decide) H.size su p1 _ rfl) ⟨va_cnB (host := RX3) 2 hts gX0_sumAt_X3_at_n50 rfl rfl rfl (hK.2 (RX0, 50, yX3_at) (by decide)) (hts (.initialized RX3) (by decide +kernel)) (by decide +kernel) ⟨Nat.le_of_ble_eq_true rfl, Nat.le_of_ble_eq_true rfl⟩, hts (.static yX3_at) (by decide +kernel), trivial⟩ hK hP hD hS hA hl.1 [5] (by decide) rfl rfl rfl rfl rfl (Nat.le_of_ble_eq_true rfl) dX0_sumAt_5 ⟨Nat.le_of_ble_eq_true rfl, Nat.le_of_ble_eq_true rfl⟩ (fun H locs hP hD hS => ?_)
  cases hf
  exact hR _ _ _ _ _ _ rfl rfl hP hD hS dX0_sumAt_8
def rm_X0_putSum : Room := { frames := 1, cells := 0, slots := 0, locals := 22 }
set_option maxRecDepth 100000 in
set_option maxHeartbeats 8000000 in
theorem K_X0_putSum (l : Launch) (D : va_G) (cI cZ : ClassId) (ad : Nat → Nat) (sz : Nat) (size rc : Int32) (g fs st ln su rr cr : Nat → Int32) (p1 : Int32) (p2 : Int32) (r : ((Nat → Int32))) (hf : f_X0_putSum su p1 p2 = r) : Met l yX0_putSum wsX0_putSum rm_X0_putSum (PC D cI cZ sz [.ref (ad 0), .int p1, .int p2] (wB cI ad size rc g fs st ln su rr cr)) (QV D cI cZ sz (wB cI ad size rc g fs st ln su rr cr) (wB cI ad size rc g fs st ln r rr cr)) 0 0 (va_A (wB cI ad size rc g fs st ln su rr cr) sz) := by
  refine mk_v (cc := cX0_putSum) (maxL := 3) (lv0 := [(0, .ref (ad 0)), (1, .int p1), (2, .int p2)]) (by decide) rfl (Nat.le_of_ble_eq_true rfl) rfl ?_
  intro p e s m args below meth c ls A Q H hx hb hml hown hts hK hP hD hA hS hl hR
  have hinX0 : ∀ w ∈ wsX00, w ∈ wsX0_putSum := by decide +kernel
  rw [f_X0_putSum] at hf
  refine lv_aload_n hx hb dX0_putSum_0 rfl (lv_at hl 0 rfl) ?_
  refine va_get (D := D) (ci := 0) (v := .ref (ad 5)) (C := RX0) (T := TX0) (N := 9) hx hb hts hinX0 hown hK.1 hP 0 rfl rfl 6 (by decide) (hts (.fieldLink RX0 24 "Gridpuzzle$Board" "sums" "[I") (by decide +kernel)) (fun _ h9 => h9) rfl dX0_putSum_1 ?_
  refine lv_iload_n hx hb dX0_putSum_4 rfl (lv_at hl 1 rfl) ?_
  refine lv_iload_n hx hb dX0_putSum_5 rfl (lv_at hl 2 rfl) ?_
  refine clN_v (As := [.ref (ad 5), .int p1, .int p2]) (rest := []) (wB cI ad size rc g fs st ln (f_X3_put 8 su p1 p2) rr cr) ⟨hx, hb, hml, hown, hts⟩ (K_X3_put l D cI cZ (ad 5) 8 (by decide) H.size su p1 p2 _ rfl) ⟨va_cnB (host := RX3) 3 hts gX0_putSum_X3_put_n54 rfl rfl rfl (hK.2 (RX0, 54, yX3_put) (by decide)) (hts (.initialized RX3) (by decide +kernel)) (by decide +kernel) ⟨Nat.le_of_ble_eq_true rfl, Nat.le_of_ble_eq_true rfl⟩, hts (.static yX3_put) (by decide +kernel), trivial⟩ hK hP hD hS hA hl.1 [5] (by decide) rfl rfl rfl rfl rfl (Nat.le_of_ble_eq_true rfl) dX0_putSum_6 ⟨Nat.le_of_ble_eq_true rfl, Nat.le_of_ble_eq_true rfl⟩ (fun H locs hP hD hS => ?_)
  cases hf
  exact hR _ _ _ _ _ rfl hP hD hS dX0_putSum_9
def rm_X0_isBlank : Room := { frames := 1, cells := 0, slots := 0, locals := 21 }
set_option maxRecDepth 100000 in
set_option maxHeartbeats 8000000 in
theorem K_X0_isBlank (l : Launch) (D : va_G) (cI cZ : ClassId) (ad : Nat → Nat) (sz : Nat) (size rc : Int32) (g fs st ln su rr cr : Nat → Int32) (p1 : Int32) (r : (Int32)) (hf : f_X0_isBlank size g p1 = r) : Met l yX0_isBlank wsX0_isBlank rm_X0_isBlank (PC D cI cZ sz [.ref (ad 0), .int p1] (wB cI ad size rc g fs st ln su rr cr)) (QI D cI cZ sz (wB cI ad size rc g fs st ln su rr cr) r (wB cI ad size rc g fs st ln su rr cr)) 0 0 (va_A (wB cI ad size rc g fs st ln su rr cr) sz) := by
  refine mk_z (cc := cX0_isBlank) (maxL := 2) (lv0 := [(0, .ref (ad 0)), (1, .int p1)]) (by decide) rfl (Nat.le_of_ble_eq_true rfl) rfl ?_
  intro p e s m args below meth c ls A Q H hx hb hml hown hts hK hP hD hA hS hl hR
  have hinX0 : ∀ w ∈ wsX00, w ∈ wsX0_isBlank := by decide +kernel
  rw [f_X0_isBlank] at hf
  refine lv_aload_n hx hb dX0_isBlank_0 rfl (lv_at hl 0 rfl) ?_
  refine lv_iload_n hx hb dX0_isBlank_1 rfl (lv_at hl 1 rfl) ?_
  refine clV_i (As := [.int p1]) (rest := []) (wB cI ad size rc g fs st ln su rr cr) ⟨hx, hb, hml, hown, hts⟩ (K_X0_hasCell l D cI cZ ad H.size size rc g fs st ln su rr cr p1 _ rfl) (cwV 1 hts gX0_isBlank_X0_hasCell rfl rfl rfl (by decide +kernel) ⟨Nat.le_of_ble_eq_true rfl, Nat.le_of_ble_eq_true rfl⟩) hK hP hD hS hA hl.1 [0, 1, 2, 3, 4, 5, 6, 7] (by decide) rfl rfl rfl 0 0 rfl rfl rfl rfl rfl (Nat.le_of_ble_eq_true rfl) dX0_isBlank_2 ⟨Nat.le_of_ble_eq_true rfl, Nat.le_of_ble_eq_true rfl⟩ (fun H locs hP hD hS => ?_)
  obtain ⟨k23, hk23, hf⟩ := jn_some hf
  have w23 : ∀ (_ : Unit), k23 () = r → ∀ (H : Heap) (locs : List Loc) (ls : Array Slot), va_P D vwCl (wB cI ad size rc g fs st ln su rr cr) H → va_D A (wB cI ad size rc g fs st ln su rr cr) → va_S A s.heap H locs → lv_has ls 2 [] → W p l e rm_X0_isBlank s m args below meth c H locs 0 0 Q (F0 m 23 ls []) := by
    intro _ hf H locs ls hP hD hS hl
    rw [hk23] at hf
    try dsimp only at hf
    refine lv_iconst (v := 0) hx hb dX0_isBlank_23 (by decide) ?_
    cases hf
    exact hR _ _ _ _ _ _ (by decide) rfl rfl hP hD hS dX0_isBlank_24
  refine lv_if_eq (tgt := 23) hx hb dX0_isBlank_5 (by decide) (fun c_5 => ?_) (fun c_5 => ?_)
  · have hf := ite_t c_5 hf
    exact w23 () hf _ _ _ hP hD hS (lv_sub hl [] rfl)
  · have hf := ite_f c_5 hf
    refine lv_aload_n hx hb dX0_isBlank_8 rfl (lv_at hl 0 rfl) ?_
    refine va_get (D := D) (ci := 0) (v := .ref (ad 1)) (C := RX0) (T := TX0) (N := 9) hx hb hts hinX0 hown hK.1 hP 0 rfl rfl 2 (by decide) (hts (.fieldLink RX0 9 "Gridpuzzle$Board" "givens" "[I") (by decide +kernel)) (fun _ h9 => h9) rfl dX0_isBlank_9 ?_
    refine lv_iload_n hx hb dX0_isBlank_12 rfl (lv_at hl 1 rfl) ?_
    refine clN_i (As := [.ref (ad 1), .int p1]) (rest := []) (wB cI ad size rc g fs st ln su rr cr) ⟨hx, hb, hml, hown, hts⟩ (K_X3_at l D cI cZ (ad 1) 16 (by decide) H.size g p1 _ rfl) ⟨va_cnB (host := RX3) 2 hts gX0_isBlank_X3_at_n50 rfl rfl rfl (hK.2 (RX0, 50, yX3_at) (by decide)) (hts (.initialized RX3) (by decide +kernel)) (by decide +kernel) ⟨Nat.le_of_ble_eq_true rfl, Nat.le_of_ble_eq_true rfl⟩, hts (.static yX3_at) (by decide +kernel), trivial⟩ hK hP hD hS hA hl.1 [1] (by decide) rfl rfl rfl rfl rfl (Nat.le_of_ble_eq_true rfl) dX0_isBlank_13 ⟨Nat.le_of_ble_eq_true rfl, Nat.le_of_ble_eq_true rfl⟩ (fun H locs hP hD hS => ?_)
    refine lv_if_ne (tgt := 23) hx hb dX0_isBlank_16 (by decide) (fun c_16 => ?_) (fun c_16 => ?_)
    · have hf := ite_f c_16 hf
      exact w23 () hf _ _ _ hP hD hS (lv_sub hl [] rfl)
    · have hf := ite_t c_16 hf
      refine lv_iconst (v := 1) hx hb dX0_isBlank_19 (by decide) ?_
      refine lv_goto (tgt := 24) hx hb dX0_isBlank_20 (by decide) ?_
      cases hf
      exact hR _ _ _ _ _ _ (by decide) rfl rfl hP hD hS dX0_isBlank_24
def rm_X0_countBlanks : Room := { frames := 2, cells := 0, slots := 0, locals := 42 }
set_option maxRecDepth 100000 in
set_option maxHeartbeats 8000000 in
theorem K_X0_countBlanks (l : Launch) (D : va_G) (cI cZ : ClassId) (ad : Nat → Nat) (sz : Nat) (N : Nat) (size rc : Int32) (g fs st ln su rr cr : Nat → Int32) (r : (Int32)) (hf : f_X0_countBlanks N size g = some r) : Met l yX0_countBlanks wsX0_countBlanks rm_X0_countBlanks (PC D cI cZ sz [.ref (ad 0)] (wB cI ad size rc g fs st ln su rr cr)) (QI D cI cZ sz (wB cI ad size rc g fs st ln su rr cr) r (wB cI ad size rc g fs st ln su rr cr)) 0 0 (va_A (wB cI ad size rc g fs st ln su rr cr) sz) := by
  refine mk_i (cc := cX0_countBlanks) (maxL := 3) (lv0 := [(0, .ref (ad 0))]) (by decide) rfl (Nat.le_of_ble_eq_true rfl) rfl ?_
  intro p e s m args below meth c ls A Q H hx hb hml hown hts hK hP hD hA hS hl hR
  rw [f_X0_countBlanks] at hf
  refine lv_iconst (v := 0) hx hb dX0_countBlanks_0 (by decide) ?_
  refine lv_istore_n (lv' := [(1, .int 0), (0, .ref (ad 0))]) hx hb dX0_countBlanks_1 rfl hl (by decide) rfl (fun ls hl => ?_)
  refine lv_iconst (v := 0) hx hb dX0_countBlanks_2 (by decide) ?_
  refine lv_istore_n (lv' := [(2, .int 0), (1, .int 0), (0, .ref (ad 0))]) hx hb dX0_countBlanks_3 rfl hl (by decide) rfl (fun ls hl => ?_)
  have l4 : ∀ (nn : Nat) (v1_4 : Int32) (v2_4 : Int32), f_X0_countBlanks_L4 size g nn v1_4 v2_4 = some r → ∀ (H : Heap) (locs : List Loc) (ls : Array Slot), va_P D vwCl (wB cI ad size rc g fs st ln su rr cr) H → va_D A (wB cI ad size rc g fs st ln su rr cr) → va_S A s.heap H locs → lv_has ls 3 [(0, .ref (ad 0)), (1, .int v1_4), (2, .int v2_4)] → W p l e rm_X0_countBlanks s m args below meth c H locs 0 0 Q (F0 m 4 ls []) := by
    intro nn
    induction nn with
    | zero => intro _ _ hf; exact nomatch (show (none : Option _) = some r from hf)
    | succ n4 ih4 =>
      intro v1_4 v2_4 hf H locs ls hP hD hS hl
      rw [f_X0_countBlanks_L4.eq_2] at hf
      refine lv_iload_n hx hb dX0_countBlanks_4 rfl (lv_at hl 2 rfl) ?_
      refine lv_bipush (v := 16) hx hb dX0_countBlanks_5 (by decide) ?_
      refine lv_icmp_ge (tgt := 27) hx hb dX0_countBlanks_7 (by decide) (fun c_7 => ?_) (fun c_7 => ?_)
      · have hf := ite_t c_7 hf
        refine lv_iload_n hx hb dX0_countBlanks_27 rfl (lv_at hl 1 rfl) ?_
        cases hf
        exact hR _ _ _ _ _ _ rfl rfl hP hD hS dX0_countBlanks_28
      · have hf := ite_f c_7 hf
        refine lv_aload_n hx hb dX0_countBlanks_10 rfl (lv_at hl 0 rfl) ?_
        refine lv_iload_n hx hb dX0_countBlanks_11 rfl (lv_at hl 2 rfl) ?_
        refine clV_i (As := [.int v2_4]) (rest := []) (wB cI ad size rc g fs st ln su rr cr) ⟨hx, hb, hml, hown, hts⟩ (K_X0_isBlank l D cI cZ ad H.size size rc g fs st ln su rr cr v2_4 _ rfl) (cwV 1 hts gX0_countBlanks_X0_isBlank rfl rfl rfl (by decide +kernel) ⟨Nat.le_of_ble_eq_true rfl, Nat.le_of_ble_eq_true rfl⟩) hK hP hD hS hA hl.1 [0, 1, 2, 3, 4, 5, 6, 7] (by decide) rfl rfl rfl 0 0 rfl rfl rfl rfl rfl (Nat.le_of_ble_eq_true rfl) dX0_countBlanks_12 ⟨Nat.le_of_ble_eq_true rfl, Nat.le_of_ble_eq_true rfl⟩ (fun H locs hP hD hS => ?_)
        obtain ⟨k21, hk21, hf⟩ := jn_some hf
        have w21 : ∀ (v1_21 : Int32), k21 v1_21 = some r → ∀ (H : Heap) (locs : List Loc) (ls : Array Slot), va_P D vwCl (wB cI ad size rc g fs st ln su rr cr) H → va_D A (wB cI ad size rc g fs st ln su rr cr) → va_S A s.heap H locs → lv_has ls 3 [(0, .ref (ad 0)), (1, .int v1_21), (2, .int v2_4)] → W p l e rm_X0_countBlanks s m args below meth c H locs 0 0 Q (F0 m 21 ls []) := by
          intro v1_21 hf H locs ls hP hD hS hl
          rw [hk21] at hf
          try dsimp only at hf
          refine lv_iinc (v := (v2_4 + 1)) (lv' := [(2, .int (v2_4 + 1)), (0, .ref (ad 0)), (1, .int v1_21)]) hx hb dX0_countBlanks_21 hl (k := 2) rfl rfl (by decide) rfl (fun ls hl => ?_)
          refine lv_goto (tgt := 4) hx hb dX0_countBlanks_24 (by decide) ?_
          exact ih4 v1_21 (v2_4 + 1) hf _ _ _ hP hD hS (lv_sub hl [1, 2, 0] rfl)
        refine lv_if_eq (tgt := 21) hx hb dX0_countBlanks_15 (by decide) (fun c_15 => ?_) (fun c_15 => ?_)
        · have hf := ite_t c_15 hf
          exact w21 v1_4 hf _ _ _ hP hD hS (lv_sub hl [0, 1, 2] rfl)
        · have hf := ite_f c_15 hf
          refine lv_iinc (v := (v1_4 + 1)) (lv' := [(1, .int (v1_4 + 1)), (0, .ref (ad 0)), (2, .int v2_4)]) hx hb dX0_countBlanks_18 hl (k := 1) rfl rfl (by decide) rfl (fun ls hl => ?_)
          exact w21 (v1_4 + 1) hf _ _ _ hP hD hS (lv_sub hl [1, 0, 2] rfl)
  exact l4 N 0 0 hf _ _ _ hP hD hS (lv_sub hl [2, 1, 0] rfl)
def rm_X0_isFilled : Room := { frames := 3, cells := 0, slots := 0, locals := 64 }
set_option maxRecDepth 100000 in
set_option maxHeartbeats 8000000 in
theorem K_X0_isFilled (l : Launch) (D : va_G) (cI cZ : ClassId) (ad : Nat → Nat) (sz : Nat) (N : Nat) (size rc : Int32) (g fs st ln su rr cr : Nat → Int32) (r : (Int32)) (hf : f_X0_isFilled N size g = some r) : Met l yX0_isFilled wsX0_isFilled rm_X0_isFilled (PC D cI cZ sz [.ref (ad 0)] (wB cI ad size rc g fs st ln su rr cr)) (QI D cI cZ sz (wB cI ad size rc g fs st ln su rr cr) r (wB cI ad size rc g fs st ln su rr cr)) 0 0 (va_A (wB cI ad size rc g fs st ln su rr cr) sz) := by
  refine mk_z (cc := cX0_isFilled) (maxL := 1) (lv0 := [(0, .ref (ad 0))]) (by decide) rfl (Nat.le_of_ble_eq_true rfl) rfl ?_
  intro p e s m args below meth c ls A Q H hx hb hml hown hts hK hP hD hA hS hl hR
  rw [f_X0_isFilled] at hf
  refine lv_aload_n hx hb dX0_isFilled_0 rfl (lv_at hl 0 rfl) ?_
  obtain ⟨x1, hy1, hf⟩ := Option.bind_eq_some_iff.mp hf
  refine clV_i (As := []) (rest := []) (wB cI ad size rc g fs st ln su rr cr) ⟨hx, hb, hml, hown, hts⟩ (K_X0_countBlanks l D cI cZ ad H.size N size rc g fs st ln su rr cr _ hy1) (cwV 0 hts gX0_isFilled_X0_countBlanks rfl rfl rfl (by decide +kernel) ⟨Nat.le_of_ble_eq_true rfl, Nat.le_of_ble_eq_true rfl⟩) hK hP hD hS hA hl.1 [0, 1, 2, 3, 4, 5, 6, 7] (by decide) rfl rfl rfl 0 0 rfl rfl rfl rfl rfl (Nat.le_of_ble_eq_true rfl) dX0_isFilled_1 ⟨Nat.le_of_ble_eq_true rfl, Nat.le_of_ble_eq_true rfl⟩ (fun H locs hP hD hS => ?_)
  refine lv_if_ne (tgt := 11) hx hb dX0_isFilled_4 (by decide) (fun c_4 => ?_) (fun c_4 => ?_)
  · have hf := ite_f c_4 hf
    refine lv_iconst (v := 0) hx hb dX0_isFilled_11 (by decide) ?_
    cases hf
    exact hR _ _ _ _ _ _ (by decide) rfl rfl hP hD hS dX0_isFilled_12
  · have hf := ite_t c_4 hf
    refine lv_iconst (v := 1) hx hb dX0_isFilled_7 (by decide) ?_
    refine lv_goto (tgt := 12) hx hb dX0_isFilled_8 (by decide) ?_
    cases hf
    exact hR _ _ _ _ _ _ (by decide) rfl rfl hP hD hS dX0_isFilled_12
def rm_X0_lengthAt : Room := { frames := 1, cells := 0, slots := 0, locals := 21 }
set_option maxRecDepth 100000 in
set_option maxHeartbeats 8000000 in
theorem K_X0_lengthAt (l : Launch) (D : va_G) (cI cZ : ClassId) (ad : Nat → Nat) (sz : Nat) (size rc : Int32) (g fs st ln su rr cr : Nat → Int32) (p1 : Int32) (r : (Int32)) (hf : f_X0_lengthAt ln p1 = r) : Met l yX0_lengthAt wsX0_lengthAt rm_X0_lengthAt (PC D cI cZ sz [.ref (ad 0), .int p1] (wB cI ad size rc g fs st ln su rr cr)) (QI D cI cZ sz (wB cI ad size rc g fs st ln su rr cr) r (wB cI ad size rc g fs st ln su rr cr)) 0 0 (va_A (wB cI ad size rc g fs st ln su rr cr) sz) := by
  refine mk_i (cc := cX0_lengthAt) (maxL := 2) (lv0 := [(0, .ref (ad 0)), (1, .int p1)]) (by decide) rfl (Nat.le_of_ble_eq_true rfl) rfl ?_
  intro p e s m args below meth c ls A Q H hx hb hml hown hts hK hP hD hA hS hl hR
  have hinX0 : ∀ w ∈ wsX00, w ∈ wsX0_lengthAt := by decide +kernel
  rw [f_X0_lengthAt] at hf
  refine lv_aload_n hx hb dX0_lengthAt_0 rfl (lv_at hl 0 rfl) ?_
  refine va_get (D := D) (ci := 0) (v := .ref (ad 4)) (C := RX0) (T := TX0) (N := 9) hx hb hts hinX0 hown hK.1 hP 0 rfl rfl 5 (by decide) (hts (.fieldLink RX0 21 "Gridpuzzle$Board" "lengths" "[I") (by decide +kernel)) (fun _ h9 => h9) rfl dX0_lengthAt_1 ?_
  refine lv_iload_n hx hb dX0_lengthAt_4 rfl (lv_at hl 1 rfl) ?_
  refine clN_i (As := [.ref (ad 4), .int p1]) (rest := []) (wB cI ad size rc g fs st ln su rr cr) ⟨hx, hb, hml, hown, hts⟩ (K_X3_at l D cI cZ (ad 4) 8 (by decide) H.size ln p1 _ rfl) ⟨va_cnB (host := RX3) 2 hts gX0_lengthAt_X3_at_n50 rfl rfl rfl (hK.2 (RX0, 50, yX3_at) (by decide)) (hts (.initialized RX3) (by decide +kernel)) (by decide +kernel) ⟨Nat.le_of_ble_eq_true rfl, Nat.le_of_ble_eq_true rfl⟩, hts (.static yX3_at) (by decide +kernel), trivial⟩ hK hP hD hS hA hl.1 [4] (by decide) rfl rfl rfl rfl rfl (Nat.le_of_ble_eq_true rfl) dX0_lengthAt_5 ⟨Nat.le_of_ble_eq_true rfl, Nat.le_of_ble_eq_true rfl⟩ (fun H locs hP hD hS => ?_)
  cases hf
  exact hR _ _ _ _ _ _ rfl rfl hP hD hS dX0_lengthAt_8
def rm_X0_cellAt : Room := { frames := 1, cells := 0, slots := 0, locals := 21 }
set_option maxRecDepth 100000 in
set_option maxHeartbeats 8000000 in
theorem K_X0_cellAt (l : Launch) (D : va_G) (cI cZ : ClassId) (ad : Nat → Nat) (sz : Nat) (size rc : Int32) (g fs st ln su rr cr : Nat → Int32) (p1 : Int32) (p2 : Int32) (r : (Int32)) (hf : f_X0_cellAt fs st p1 p2 = r) : Met l yX0_cellAt wsX0_cellAt rm_X0_cellAt (PC D cI cZ sz [.ref (ad 0), .int p1, .int p2] (wB cI ad size rc g fs st ln su rr cr)) (QI D cI cZ sz (wB cI ad size rc g fs st ln su rr cr) r (wB cI ad size rc g fs st ln su rr cr)) 0 0 (va_A (wB cI ad size rc g fs st ln su rr cr) sz) := by
  refine mk_i (cc := cX0_cellAt) (maxL := 3) (lv0 := [(0, .ref (ad 0)), (1, .int p1), (2, .int p2)]) (by decide) rfl (Nat.le_of_ble_eq_true rfl) rfl ?_
  intro p e s m args below meth c ls A Q H hx hb hml hown hts hK hP hD hA hS hl hR
  have hinX0 : ∀ w ∈ wsX00, w ∈ wsX0_cellAt := by decide +kernel
  rw [f_X0_cellAt] at hf
  refine lv_aload_n hx hb dX0_cellAt_0 rfl (lv_at hl 0 rfl) ?_
  refine va_get (D := D) (ci := 0) (v := .ref (ad 2)) (C := RX0) (T := TX0) (N := 9) hx hb hts hinX0 hown hK.1 hP 0 rfl rfl 3 (by decide) (hts (.fieldLink RX0 15 "Gridpuzzle$Board" "firsts" "[I") (by decide +kernel)) (fun _ h9 => h9) rfl dX0_cellAt_1 ?_
  refine lv_iload_n hx hb dX0_cellAt_4 rfl (lv_at hl 1 rfl) ?_
  refine clN_i (As := [.ref (ad 2), .int p1]) (rest := []) (wB cI ad size rc g fs st ln su rr cr) ⟨hx, hb, hml, hown, hts⟩ (K_X3_at l D cI cZ (ad 2) 8 (by decide) H.size fs p1 _ rfl) ⟨va_cnB (host := RX3) 2 hts gX0_cellAt_X3_at_n50 rfl rfl rfl (hK.2 (RX0, 50, yX3_at) (by decide)) (hts (.initialized RX3) (by decide +kernel)) (by decide +kernel) ⟨Nat.le_of_ble_eq_true rfl, Nat.le_of_ble_eq_true rfl⟩, hts (.static yX3_at) (by decide +kernel), trivial⟩ hK hP hD hS hA hl.1 [2] (by decide) rfl rfl rfl rfl rfl (Nat.le_of_ble_eq_true rfl) dX0_cellAt_5 ⟨Nat.le_of_ble_eq_true rfl, Nat.le_of_ble_eq_true rfl⟩ (fun H locs hP hD hS => ?_)
  refine lv_iload_n hx hb dX0_cellAt_8 rfl (lv_at hl 2 rfl) ?_
  refine lv_aload_n hx hb dX0_cellAt_9 rfl (lv_at hl 0 rfl) ?_
  refine va_get (D := D) (ci := 0) (v := .ref (ad 3)) (C := RX0) (T := TX0) (N := 9) hx hb hts hinX0 hown hK.1 hP 0 rfl rfl 4 (by decide) (hts (.fieldLink RX0 18 "Gridpuzzle$Board" "steps" "[I") (by decide +kernel)) (fun _ h9 => h9) rfl dX0_cellAt_10 ?_
  refine lv_iload_n hx hb dX0_cellAt_13 rfl (lv_at hl 1 rfl) ?_
  refine clN_i (As := [.ref (ad 3), .int p1]) (rest := [.int p2, .int (f_X3_at 8 fs p1)]) (wB cI ad size rc g fs st ln su rr cr) ⟨hx, hb, hml, hown, hts⟩ (K_X3_at l D cI cZ (ad 3) 8 (by decide) H.size st p1 _ rfl) ⟨va_cnB (host := RX3) 2 hts gX0_cellAt_X3_at_n50 rfl rfl rfl (hK.2 (RX0, 50, yX3_at) (by decide)) (hts (.initialized RX3) (by decide +kernel)) (by decide +kernel) ⟨Nat.le_of_ble_eq_true rfl, Nat.le_of_ble_eq_true rfl⟩, hts (.static yX3_at) (by decide +kernel), trivial⟩ hK hP hD hS hA hl.1 [3] (by decide) rfl rfl rfl rfl rfl (Nat.le_of_ble_eq_true rfl) dX0_cellAt_14 ⟨Nat.le_of_ble_eq_true rfl, Nat.le_of_ble_eq_true rfl⟩ (fun H locs hP hD hS => ?_)
  refine lv_imul hx hb dX0_cellAt_17 ?_
  refine lv_iadd hx hb dX0_cellAt_18 ?_
  cases hf
  exact hR _ _ _ _ _ _ rfl rfl hP hD hS dX0_cellAt_19
def rm_X0_hasTwice_f : Room := { frames := 2, cells := 0, slots := 0, locals := 43 }
set_option maxRecDepth 100000 in
set_option maxHeartbeats 8000000 in
theorem K_X0_hasTwice_f (l : Launch) (D : va_G) (cI cZ : ClassId) (ad : Nat → Nat) (xa : Nat) (sz : Nat) (N : Nat) (size rc : Int32) (g fs st ln su rr cr xf : Nat → Int32) (p1 : Int32) (r : (Int32)) (hf : f_X0_hasTwice N fs st ln xf p1 = some r) : Met l yX0_hasTwice wsX0_hasTwice rm_X0_hasTwice_f (PC D cI cZ sz [.ref (ad 0), .int p1, .ref xa] (wBX cI ad xa size rc g fs st ln su rr cr xf)) (QI D cI cZ sz (wBX cI ad xa size rc g fs st ln su rr cr xf) r (wBX cI ad xa size rc g fs st ln su rr cr xf)) 0 0 (va_A (wBX cI ad xa size rc g fs st ln su rr cr xf) sz) := by
  refine mk_z (cc := cX0_hasTwice) (maxL := 7) (lv0 := [(0, .ref (ad 0)), (1, .int p1), (2, .ref xa)]) (by decide) rfl (Nat.le_of_ble_eq_true rfl) rfl ?_
  intro p e s m args below meth c ls A Q H hx hb hml hown hts hK hP hD hA hS hl hR
  rw [f_X0_hasTwice] at hf
  refine lv_iconst (v := 0) hx hb dX0_hasTwice_0 (by decide) ?_
  refine lv_istore_n (lv' := [(3, .int 0), (0, .ref (ad 0)), (1, .int p1), (2, .ref xa)]) hx hb dX0_hasTwice_1 rfl hl (by decide) rfl (fun ls hl => ?_)
  refine lv_aload_n hx hb dX0_hasTwice_2 rfl (lv_at hl 1 rfl) ?_
  refine lv_iload_n hx hb dX0_hasTwice_3 rfl (lv_at hl 2 rfl) ?_
  refine clV_i (As := [.int p1]) (rest := []) (wBX cI ad xa size rc g fs st ln su rr cr xf) ⟨hx, hb, hml, hown, hts⟩ (K_X0_lengthAt l D cI cZ ad H.size size rc g fs st ln su rr cr p1 _ rfl) (cwV 1 hts gX0_hasTwice_X0_lengthAt rfl rfl rfl (by decide +kernel) ⟨Nat.le_of_ble_eq_true rfl, Nat.le_of_ble_eq_true rfl⟩) hK hP hD hS hA hl.1 [0, 1, 2, 3, 4, 5, 6, 7] (by decide) rfl rfl rfl 0 0 rfl rfl rfl rfl rfl (Nat.le_of_ble_eq_true rfl) dX0_hasTwice_4 ⟨Nat.le_of_ble_eq_true rfl, Nat.le_of_ble_eq_true rfl⟩ (fun H locs hP hD hS => ?_)
  refine lv_istore (lv' := [(4, .int (f_X0_lengthAt ln p1)), (3, .int 0), (0, .ref (ad 0)), (1, .int p1), (2, .ref xa)]) hx hb dX0_hasTwice_7 hl (by decide) rfl (fun ls hl => ?_)
  refine lv_iconst (v := 0) hx hb dX0_hasTwice_9 (by decide) ?_
  refine lv_istore (lv' := [(5, .int 0), (4, .int (f_X0_lengthAt ln p1)), (3, .int 0), (0, .ref (ad 0)), (1, .int p1), (2, .ref xa)]) hx hb dX0_hasTwice_10 hl (by decide) rfl (fun ls hl => ?_)
  have l12 : ∀ (nn : Nat) (v3_12 : Int32) (v5_12 : Int32), f_X0_hasTwice_L12 p1 (f_X0_lengthAt ln p1) fs st xf nn v3_12 v5_12 = some r → ∀ (H : Heap) (locs : List Loc) (ls : Array Slot), va_P D vwCl (wBX cI ad xa size rc g fs st ln su rr cr xf) H → va_D A (wBX cI ad xa size rc g fs st ln su rr cr xf) → va_S A s.heap H locs → lv_has ls 7 [(0, .ref (ad 0)), (1, .int p1), (2, .ref xa), (3, .int v3_12), (4, .int (f_X0_lengthAt ln p1)), (5, .int v5_12)] → W p l e rm_X0_hasTwice_f s m args below meth c H locs 0 0 Q (F0 m 12 ls []) := by
    intro nn
    induction nn with
    | zero => intro _ _ hf; exact nomatch (show (none : Option _) = some r from hf)
    | succ n12 ih12 =>
      intro v3_12 v5_12 hf H locs ls hP hD hS hl
      rw [f_X0_hasTwice_L12.eq_2] at hf
      refine lv_iload hx hb dX0_hasTwice_12 (lv_at hl 5 rfl) ?_
      refine lv_iload hx hb dX0_hasTwice_14 (lv_at hl 4 rfl) ?_
      refine lv_icmp_ge (tgt := 54) hx hb dX0_hasTwice_16 (by decide) (fun c_16 => ?_) (fun c_16 => ?_)
      · have hf := ite_t c_16 hf
        refine lv_iconst (v := 0) hx hb dX0_hasTwice_54 (by decide) ?_
        cases hf
        exact hR _ _ _ _ _ _ (by decide) rfl rfl hP hD hS dX0_hasTwice_55
      · have hf := ite_f c_16 hf
        refine lv_iconst (v := 1) hx hb dX0_hasTwice_19 (by decide) ?_
        refine lv_aload_n hx hb dX0_hasTwice_20 rfl (lv_at hl 2 rfl) ?_
        refine lv_aload_n hx hb dX0_hasTwice_21 rfl (lv_at hl 0 rfl) ?_
        refine lv_iload_n hx hb dX0_hasTwice_22 rfl (lv_at hl 1 rfl) ?_
        refine lv_iload hx hb dX0_hasTwice_23 (lv_at hl 5 rfl) ?_
        refine clV_i (As := [.int p1, .int v5_12]) (rest := [.ref xa, .int 1]) (wBX cI ad xa size rc g fs st ln su rr cr xf) ⟨hx, hb, hml, hown, hts⟩ (K_X0_cellAt l D cI cZ ad H.size size rc g fs st ln su rr cr p1 v5_12 _ rfl) (cwV 2 hts gX0_hasTwice_X0_cellAt rfl rfl rfl (by decide +kernel) ⟨Nat.le_of_ble_eq_true rfl, Nat.le_of_ble_eq_true rfl⟩) hK hP hD hS hA hl.1 [0, 1, 2, 3, 4, 5, 6, 7] (by decide) rfl rfl rfl 0 0 rfl rfl rfl rfl rfl (Nat.le_of_ble_eq_true rfl) dX0_hasTwice_25 ⟨Nat.le_of_ble_eq_true rfl, Nat.le_of_ble_eq_true rfl⟩ (fun H locs hP hD hS => ?_)
        refine clN_i (As := [.ref xa, .int (f_X0_cellAt fs st p1 v5_12)]) (rest := [.int 1]) (wBX cI ad xa size rc g fs st ln su rr cr xf) ⟨hx, hb, hml, hown, hts⟩ (K_X3_at l D cI cZ xa 16 (by decide) H.size xf (f_X0_cellAt fs st p1 v5_12) _ rfl) ⟨va_cnB (host := RX3) 2 hts gX0_hasTwice_X3_at_n50 rfl rfl rfl (hK.2 (RX0, 50, yX3_at) (by decide)) (hts (.initialized RX3) (by decide +kernel)) (by decide +kernel) ⟨Nat.le_of_ble_eq_true rfl, Nat.le_of_ble_eq_true rfl⟩, hts (.static yX3_at) (by decide +kernel), trivial⟩ hK hP hD hS hA hl.1 [8] (by decide) rfl rfl rfl rfl rfl (Nat.le_of_ble_eq_true rfl) dX0_hasTwice_28 ⟨Nat.le_of_ble_eq_true rfl, Nat.le_of_ble_eq_true rfl⟩ (fun H locs hP hD hS => ?_)
        refine lv_ishl hx hb dX0_hasTwice_31 ?_
        refine lv_istore (lv' := [(6, .int (1 <<< ((f_X3_at 16 xf (f_X0_cellAt fs st p1 v5_12)) &&& 31))), (0, .ref (ad 0)), (1, .int p1), (2, .ref xa), (3, .int v3_12), (4, .int (f_X0_lengthAt ln p1)), (5, .int v5_12)]) hx hb dX0_hasTwice_32 hl (by decide) rfl (fun ls hl => ?_)
        refine lv_iload_n hx hb dX0_hasTwice_34 rfl (lv_at hl 4 rfl) ?_
        refine lv_iload hx hb dX0_hasTwice_35 (lv_at hl 0 rfl) ?_
        refine lv_iand hx hb dX0_hasTwice_37 ?_
        refine lv_if_eq (tgt := 43) hx hb dX0_hasTwice_38 (by decide) (fun c_38 => ?_) (fun c_38 => ?_)
        · have hf := ite_t c_38 hf
          refine lv_iload_n hx hb dX0_hasTwice_43 rfl (lv_at hl 4 rfl) ?_
          refine lv_iload hx hb dX0_hasTwice_44 (lv_at hl 0 rfl) ?_
          refine lv_ior hx hb dX0_hasTwice_46 ?_
          refine lv_istore_n (lv' := [(3, .int (v3_12 ||| (1 <<< ((f_X3_at 16 xf (f_X0_cellAt fs st p1 v5_12)) &&& 31)))), (6, .int (1 <<< ((f_X3_at 16 xf (f_X0_cellAt fs st p1 v5_12)) &&& 31))), (0, .ref (ad 0)), (1, .int p1), (2, .ref xa), (4, .int (f_X0_lengthAt ln p1)), (5, .int v5_12)]) hx hb dX0_hasTwice_47 rfl hl (by decide) rfl (fun ls hl => ?_)
          refine lv_iinc (v := (v5_12 + 1)) (lv' := [(5, .int (v5_12 + 1)), (3, .int (v3_12 ||| (1 <<< ((f_X3_at 16 xf (f_X0_cellAt fs st p1 v5_12)) &&& 31)))), (6, .int (1 <<< ((f_X3_at 16 xf (f_X0_cellAt fs st p1 v5_12)) &&& 31))), (0, .ref (ad 0)), (1, .int p1), (2, .ref xa), (4, .int (f_X0_lengthAt ln p1))]) hx hb dX0_hasTwice_48 hl (k := 6) rfl rfl (by decide) rfl (fun ls hl => ?_)
          refine lv_goto (tgt := 12) hx hb dX0_hasTwice_51 (by decide) ?_
          exact ih12 (v3_12 ||| (1 <<< ((f_X3_at 16 xf (f_X0_cellAt fs st p1 v5_12)) &&& 31))) (v5_12 + 1) hf _ _ _ hP hD hS (lv_sub hl [3, 4, 5, 1, 6, 0] rfl)
        · have hf := ite_f c_38 hf
          refine lv_iconst (v := 1) hx hb dX0_hasTwice_41 (by decide) ?_
          cases hf
          exact hR _ _ _ _ _ _ (by decide) rfl rfl hP hD hS dX0_hasTwice_42
  exact l12 N 0 0 hf _ _ _ hP hD hS (lv_sub hl [3, 4, 5, 2, 1, 0] rfl)
def rm_X0_hasTwice_g : Room := { frames := 2, cells := 0, slots := 0, locals := 43 }
set_option maxRecDepth 100000 in
set_option maxHeartbeats 8000000 in
theorem K_X0_hasTwice_g (l : Launch) (D : va_G) (cI cZ : ClassId) (ad : Nat → Nat) (sz : Nat) (N : Nat) (size rc : Int32) (g fs st ln su rr cr : Nat → Int32) (p1 : Int32) (r : (Int32)) (hf : f_X0_hasTwice N fs st ln g p1 = some r) : Met l yX0_hasTwice wsX0_hasTwice rm_X0_hasTwice_g (PC D cI cZ sz [.ref (ad 0), .int p1, .ref (ad 1)] (wB cI ad size rc g fs st ln su rr cr)) (QI D cI cZ sz (wB cI ad size rc g fs st ln su rr cr) r (wB cI ad size rc g fs st ln su rr cr)) 0 0 (va_A (wB cI ad size rc g fs st ln su rr cr) sz) := by
  refine mk_z (cc := cX0_hasTwice) (maxL := 7) (lv0 := [(0, .ref (ad 0)), (1, .int p1), (2, .ref (ad 1))]) (by decide) rfl (Nat.le_of_ble_eq_true rfl) rfl ?_
  intro p e s m args below meth c ls A Q H hx hb hml hown hts hK hP hD hA hS hl hR
  rw [f_X0_hasTwice] at hf
  refine lv_iconst (v := 0) hx hb dX0_hasTwice_0 (by decide) ?_
  refine lv_istore_n (lv' := [(3, .int 0), (0, .ref (ad 0)), (1, .int p1), (2, .ref (ad 1))]) hx hb dX0_hasTwice_1 rfl hl (by decide) rfl (fun ls hl => ?_)
  refine lv_aload_n hx hb dX0_hasTwice_2 rfl (lv_at hl 1 rfl) ?_
  refine lv_iload_n hx hb dX0_hasTwice_3 rfl (lv_at hl 2 rfl) ?_
  refine clV_i (As := [.int p1]) (rest := []) (wB cI ad size rc g fs st ln su rr cr) ⟨hx, hb, hml, hown, hts⟩ (K_X0_lengthAt l D cI cZ ad H.size size rc g fs st ln su rr cr p1 _ rfl) (cwV 1 hts gX0_hasTwice_X0_lengthAt rfl rfl rfl (by decide +kernel) ⟨Nat.le_of_ble_eq_true rfl, Nat.le_of_ble_eq_true rfl⟩) hK hP hD hS hA hl.1 [0, 1, 2, 3, 4, 5, 6, 7] (by decide) rfl rfl rfl 0 0 rfl rfl rfl rfl rfl (Nat.le_of_ble_eq_true rfl) dX0_hasTwice_4 ⟨Nat.le_of_ble_eq_true rfl, Nat.le_of_ble_eq_true rfl⟩ (fun H locs hP hD hS => ?_)
  refine lv_istore (lv' := [(4, .int (f_X0_lengthAt ln p1)), (3, .int 0), (0, .ref (ad 0)), (1, .int p1), (2, .ref (ad 1))]) hx hb dX0_hasTwice_7 hl (by decide) rfl (fun ls hl => ?_)
  refine lv_iconst (v := 0) hx hb dX0_hasTwice_9 (by decide) ?_
  refine lv_istore (lv' := [(5, .int 0), (4, .int (f_X0_lengthAt ln p1)), (3, .int 0), (0, .ref (ad 0)), (1, .int p1), (2, .ref (ad 1))]) hx hb dX0_hasTwice_10 hl (by decide) rfl (fun ls hl => ?_)
  have l12 : ∀ (nn : Nat) (v3_12 : Int32) (v5_12 : Int32), f_X0_hasTwice_L12 p1 (f_X0_lengthAt ln p1) fs st g nn v3_12 v5_12 = some r → ∀ (H : Heap) (locs : List Loc) (ls : Array Slot), va_P D vwCl (wB cI ad size rc g fs st ln su rr cr) H → va_D A (wB cI ad size rc g fs st ln su rr cr) → va_S A s.heap H locs → lv_has ls 7 [(0, .ref (ad 0)), (1, .int p1), (2, .ref (ad 1)), (3, .int v3_12), (4, .int (f_X0_lengthAt ln p1)), (5, .int v5_12)] → W p l e rm_X0_hasTwice_g s m args below meth c H locs 0 0 Q (F0 m 12 ls []) := by
    intro nn
    induction nn with
    | zero => intro _ _ hf; exact nomatch (show (none : Option _) = some r from hf)
    | succ n12 ih12 =>
      intro v3_12 v5_12 hf H locs ls hP hD hS hl
      rw [f_X0_hasTwice_L12.eq_2] at hf
      refine lv_iload hx hb dX0_hasTwice_12 (lv_at hl 5 rfl) ?_
      refine lv_iload hx hb dX0_hasTwice_14 (lv_at hl 4 rfl) ?_
      refine lv_icmp_ge (tgt := 54) hx hb dX0_hasTwice_16 (by decide) (fun c_16 => ?_) (fun c_16 => ?_)
      · have hf := ite_t c_16 hf
        refine lv_iconst (v := 0) hx hb dX0_hasTwice_54 (by decide) ?_
        cases hf
        exact hR _ _ _ _ _ _ (by decide) rfl rfl hP hD hS dX0_hasTwice_55
      · have hf := ite_f c_16 hf
        refine lv_iconst (v := 1) hx hb dX0_hasTwice_19 (by decide) ?_
        refine lv_aload_n hx hb dX0_hasTwice_20 rfl (lv_at hl 2 rfl) ?_
        refine lv_aload_n hx hb dX0_hasTwice_21 rfl (lv_at hl 0 rfl) ?_
        refine lv_iload_n hx hb dX0_hasTwice_22 rfl (lv_at hl 1 rfl) ?_
        refine lv_iload hx hb dX0_hasTwice_23 (lv_at hl 5 rfl) ?_
        refine clV_i (As := [.int p1, .int v5_12]) (rest := [.ref (ad 1), .int 1]) (wB cI ad size rc g fs st ln su rr cr) ⟨hx, hb, hml, hown, hts⟩ (K_X0_cellAt l D cI cZ ad H.size size rc g fs st ln su rr cr p1 v5_12 _ rfl) (cwV 2 hts gX0_hasTwice_X0_cellAt rfl rfl rfl (by decide +kernel) ⟨Nat.le_of_ble_eq_true rfl, Nat.le_of_ble_eq_true rfl⟩) hK hP hD hS hA hl.1 [0, 1, 2, 3, 4, 5, 6, 7] (by decide) rfl rfl rfl 0 0 rfl rfl rfl rfl rfl (Nat.le_of_ble_eq_true rfl) dX0_hasTwice_25 ⟨Nat.le_of_ble_eq_true rfl, Nat.le_of_ble_eq_true rfl⟩ (fun H locs hP hD hS => ?_)
        refine clN_i (As := [.ref (ad 1), .int (f_X0_cellAt fs st p1 v5_12)]) (rest := [.int 1]) (wB cI ad size rc g fs st ln su rr cr) ⟨hx, hb, hml, hown, hts⟩ (K_X3_at l D cI cZ (ad 1) 16 (by decide) H.size g (f_X0_cellAt fs st p1 v5_12) _ rfl) ⟨va_cnB (host := RX3) 2 hts gX0_hasTwice_X3_at_n50 rfl rfl rfl (hK.2 (RX0, 50, yX3_at) (by decide)) (hts (.initialized RX3) (by decide +kernel)) (by decide +kernel) ⟨Nat.le_of_ble_eq_true rfl, Nat.le_of_ble_eq_true rfl⟩, hts (.static yX3_at) (by decide +kernel), trivial⟩ hK hP hD hS hA hl.1 [1] (by decide) rfl rfl rfl rfl rfl (Nat.le_of_ble_eq_true rfl) dX0_hasTwice_28 ⟨Nat.le_of_ble_eq_true rfl, Nat.le_of_ble_eq_true rfl⟩ (fun H locs hP hD hS => ?_)
        refine lv_ishl hx hb dX0_hasTwice_31 ?_
        refine lv_istore (lv' := [(6, .int (1 <<< ((f_X3_at 16 g (f_X0_cellAt fs st p1 v5_12)) &&& 31))), (0, .ref (ad 0)), (1, .int p1), (2, .ref (ad 1)), (3, .int v3_12), (4, .int (f_X0_lengthAt ln p1)), (5, .int v5_12)]) hx hb dX0_hasTwice_32 hl (by decide) rfl (fun ls hl => ?_)
        refine lv_iload_n hx hb dX0_hasTwice_34 rfl (lv_at hl 4 rfl) ?_
        refine lv_iload hx hb dX0_hasTwice_35 (lv_at hl 0 rfl) ?_
        refine lv_iand hx hb dX0_hasTwice_37 ?_
        refine lv_if_eq (tgt := 43) hx hb dX0_hasTwice_38 (by decide) (fun c_38 => ?_) (fun c_38 => ?_)
        · have hf := ite_t c_38 hf
          refine lv_iload_n hx hb dX0_hasTwice_43 rfl (lv_at hl 4 rfl) ?_
          refine lv_iload hx hb dX0_hasTwice_44 (lv_at hl 0 rfl) ?_
          refine lv_ior hx hb dX0_hasTwice_46 ?_
          refine lv_istore_n (lv' := [(3, .int (v3_12 ||| (1 <<< ((f_X3_at 16 g (f_X0_cellAt fs st p1 v5_12)) &&& 31)))), (6, .int (1 <<< ((f_X3_at 16 g (f_X0_cellAt fs st p1 v5_12)) &&& 31))), (0, .ref (ad 0)), (1, .int p1), (2, .ref (ad 1)), (4, .int (f_X0_lengthAt ln p1)), (5, .int v5_12)]) hx hb dX0_hasTwice_47 rfl hl (by decide) rfl (fun ls hl => ?_)
          refine lv_iinc (v := (v5_12 + 1)) (lv' := [(5, .int (v5_12 + 1)), (3, .int (v3_12 ||| (1 <<< ((f_X3_at 16 g (f_X0_cellAt fs st p1 v5_12)) &&& 31)))), (6, .int (1 <<< ((f_X3_at 16 g (f_X0_cellAt fs st p1 v5_12)) &&& 31))), (0, .ref (ad 0)), (1, .int p1), (2, .ref (ad 1)), (4, .int (f_X0_lengthAt ln p1))]) hx hb dX0_hasTwice_48 hl (k := 6) rfl rfl (by decide) rfl (fun ls hl => ?_)
          refine lv_goto (tgt := 12) hx hb dX0_hasTwice_51 (by decide) ?_
          exact ih12 (v3_12 ||| (1 <<< ((f_X3_at 16 g (f_X0_cellAt fs st p1 v5_12)) &&& 31))) (v5_12 + 1) hf _ _ _ hP hD hS (lv_sub hl [3, 4, 5, 1, 6, 0] rfl)
        · have hf := ite_f c_38 hf
          refine lv_iconst (v := 1) hx hb dX0_hasTwice_41 (by decide) ?_
          cases hf
          exact hR _ _ _ _ _ _ (by decide) rfl rfl hP hD hS dX0_hasTwice_42
  exact l12 N 0 0 hf _ _ _ hP hD hS (lv_sub hl [3, 4, 5, 2, 1, 0] rfl)
def rm_X0_givesTwice : Room := { frames := 3, cells := 0, slots := 0, locals := 69 }
set_option maxRecDepth 100000 in
set_option maxHeartbeats 8000000 in
theorem K_X0_givesTwice (l : Launch) (D : va_G) (cI cZ : ClassId) (ad : Nat → Nat) (sz : Nat) (N : Nat) (size rc : Int32) (g fs st ln su rr cr : Nat → Int32) (r : (Int32)) (hf : f_X0_givesTwice N rc g fs st ln = some r) : Met l yX0_givesTwice wsX0_givesTwice rm_X0_givesTwice (PC D cI cZ sz [.ref (ad 0)] (wB cI ad size rc g fs st ln su rr cr)) (QI D cI cZ sz (wB cI ad size rc g fs st ln su rr cr) r (wB cI ad size rc g fs st ln su rr cr)) 0 0 (va_A (wB cI ad size rc g fs st ln su rr cr) sz) := by
  refine mk_z (cc := cX0_givesTwice) (maxL := 2) (lv0 := [(0, .ref (ad 0))]) (by decide) rfl (Nat.le_of_ble_eq_true rfl) rfl ?_
  intro p e s m args below meth c ls A Q H hx hb hml hown hts hK hP hD hA hS hl hR
  have hinX0 : ∀ w ∈ wsX00, w ∈ wsX0_givesTwice := by decide +kernel
  rw [f_X0_givesTwice] at hf
  refine lv_iconst (v := 0) hx hb dX0_givesTwice_0 (by decide) ?_
  refine lv_istore_n (lv' := [(1, .int 0), (0, .ref (ad 0))]) hx hb dX0_givesTwice_1 rfl hl (by decide) rfl (fun ls hl => ?_)
  have l2 : ∀ (nn : Nat) (v1_2 : Int32), f_X0_givesTwice_L2 N rc g fs st ln nn v1_2 = some r → ∀ (H : Heap) (locs : List Loc) (ls : Array Slot), va_P D vwCl (wB cI ad size rc g fs st ln su rr cr) H → va_D A (wB cI ad size rc g fs st ln su rr cr) → va_S A s.heap H locs → lv_has ls 2 [(0, .ref (ad 0)), (1, .int v1_2)] → W p l e rm_X0_givesTwice s m args below meth c H locs 0 0 Q (F0 m 2 ls []) := by
    intro nn
    induction nn with
    | zero => intro _ hf; exact nomatch (show (none : Option _) = some r from hf)
    | succ n2 ih2 =>
      intro v1_2 hf H locs ls hP hD hS hl
      rw [f_X0_givesTwice_L2.eq_2] at hf
      refine lv_iload_n hx hb dX0_givesTwice_2 rfl (lv_at hl 1 rfl) ?_
      refine lv_aload_n hx hb dX0_givesTwice_3 rfl (lv_at hl 0 rfl) ?_
      refine va_get (D := D) (ci := 0) (v := .int rc) (C := RX0) (T := TX0) (N := 9) hx hb hts hinX0 hown hK.1 hP 0 rfl rfl 1 (by decide) (hts (.fieldLink RX0 68 "Gridpuzzle$Board" "runCount" "I") (by decide +kernel)) (fun _ h9 => h9) rfl dX0_givesTwice_4 ?_
      refine lv_icmp_ge (tgt := 30) hx hb dX0_givesTwice_7 (by decide) (fun c_7 => ?_) (fun c_7 => ?_)
      · have hf := ite_t c_7 hf
        refine lv_iconst (v := 0) hx hb dX0_givesTwice_30 (by decide) ?_
        cases hf
        exact hR _ _ _ _ _ _ (by decide) rfl rfl hP hD hS dX0_givesTwice_31
      · have hf := ite_f c_7 hf
        refine lv_aload_n hx hb dX0_givesTwice_10 rfl (lv_at hl 0 rfl) ?_
        refine lv_iload_n hx hb dX0_givesTwice_11 rfl (lv_at hl 1 rfl) ?_
        refine lv_aload_n hx hb dX0_givesTwice_12 rfl (lv_at hl 0 rfl) ?_
        refine va_get (D := D) (ci := 0) (v := .ref (ad 1)) (C := RX0) (T := TX0) (N := 9) hx hb hts hinX0 hown hK.1 hP 0 rfl rfl 2 (by decide) (hts (.fieldLink RX0 9 "Gridpuzzle$Board" "givens" "[I") (by decide +kernel)) (fun _ h9 => h9) rfl dX0_givesTwice_13 ?_
        obtain ⟨x16, hy16, hf⟩ := Option.bind_eq_some_iff.mp hf
        refine clV_i (As := [.int v1_2, .ref (ad 1)]) (rest := []) (wB cI ad size rc g fs st ln su rr cr) ⟨hx, hb, hml, hown, hts⟩ (K_X0_hasTwice_g l D cI cZ ad H.size N size rc g fs st ln su rr cr v1_2 _ hy16) (cwV 2 hts gX0_givesTwice_X0_hasTwice rfl rfl rfl (by decide +kernel) ⟨Nat.le_of_ble_eq_true rfl, Nat.le_of_ble_eq_true rfl⟩) hK hP hD hS hA hl.1 [0, 1, 2, 3, 4, 5, 6, 7] (by decide) rfl rfl rfl 0 0 rfl rfl rfl rfl rfl (Nat.le_of_ble_eq_true rfl) dX0_givesTwice_16 ⟨Nat.le_of_ble_eq_true rfl, Nat.le_of_ble_eq_true rfl⟩ (fun H locs hP hD hS => ?_)
        refine lv_if_eq (tgt := 24) hx hb dX0_givesTwice_19 (by decide) (fun c_19 => ?_) (fun c_19 => ?_)
        · have hf := ite_t c_19 hf
          refine lv_iinc (v := (v1_2 + 1)) (lv' := [(1, .int (v1_2 + 1)), (0, .ref (ad 0))]) hx hb dX0_givesTwice_24 hl (k := 1) rfl rfl (by decide) rfl (fun ls hl => ?_)
          refine lv_goto (tgt := 2) hx hb dX0_givesTwice_27 (by decide) ?_
          exact ih2 (v1_2 + 1) hf _ _ _ hP hD hS (lv_sub hl [1, 0] rfl)
        · have hf := ite_f c_19 hf
          refine lv_iconst (v := 1) hx hb dX0_givesTwice_22 (by decide) ?_
          cases hf
          exact hR _ _ _ _ _ _ (by decide) rfl rfl hP hD hS dX0_givesTwice_23
  exact l2 N 0 hf _ _ _ hP hD hS (lv_sub hl [1, 0] rfl)
def rm_X0_totalOf_f : Room := { frames := 2, cells := 0, slots := 0, locals := 43 }
set_option maxRecDepth 100000 in
set_option maxHeartbeats 8000000 in
theorem K_X0_totalOf_f (l : Launch) (D : va_G) (cI cZ : ClassId) (ad : Nat → Nat) (xa : Nat) (sz : Nat) (N : Nat) (size rc : Int32) (g fs st ln su rr cr xf : Nat → Int32) (p1 : Int32) (r : (Int32)) (hf : f_X0_totalOf N fs st ln xf p1 = some r) : Met l yX0_totalOf wsX0_totalOf rm_X0_totalOf_f (PC D cI cZ sz [.ref (ad 0), .int p1, .ref xa] (wBX cI ad xa size rc g fs st ln su rr cr xf)) (QI D cI cZ sz (wBX cI ad xa size rc g fs st ln su rr cr xf) r (wBX cI ad xa size rc g fs st ln su rr cr xf)) 0 0 (va_A (wBX cI ad xa size rc g fs st ln su rr cr xf) sz) := by
  refine mk_i (cc := cX0_totalOf) (maxL := 6) (lv0 := [(0, .ref (ad 0)), (1, .int p1), (2, .ref xa)]) (by decide) rfl (Nat.le_of_ble_eq_true rfl) rfl ?_
  intro p e s m args below meth c ls A Q H hx hb hml hown hts hK hP hD hA hS hl hR
  rw [f_X0_totalOf] at hf
  refine lv_iconst (v := 0) hx hb dX0_totalOf_0 (by decide) ?_
  refine lv_istore_n (lv' := [(3, .int 0), (0, .ref (ad 0)), (1, .int p1), (2, .ref xa)]) hx hb dX0_totalOf_1 rfl hl (by decide) rfl (fun ls hl => ?_)
  refine lv_aload_n hx hb dX0_totalOf_2 rfl (lv_at hl 1 rfl) ?_
  refine lv_iload_n hx hb dX0_totalOf_3 rfl (lv_at hl 2 rfl) ?_
  refine clV_i (As := [.int p1]) (rest := []) (wBX cI ad xa size rc g fs st ln su rr cr xf) ⟨hx, hb, hml, hown, hts⟩ (K_X0_lengthAt l D cI cZ ad H.size size rc g fs st ln su rr cr p1 _ rfl) (cwV 1 hts gX0_totalOf_X0_lengthAt rfl rfl rfl (by decide +kernel) ⟨Nat.le_of_ble_eq_true rfl, Nat.le_of_ble_eq_true rfl⟩) hK hP hD hS hA hl.1 [0, 1, 2, 3, 4, 5, 6, 7] (by decide) rfl rfl rfl 0 0 rfl rfl rfl rfl rfl (Nat.le_of_ble_eq_true rfl) dX0_totalOf_4 ⟨Nat.le_of_ble_eq_true rfl, Nat.le_of_ble_eq_true rfl⟩ (fun H locs hP hD hS => ?_)
  refine lv_istore (lv' := [(4, .int (f_X0_lengthAt ln p1)), (3, .int 0), (0, .ref (ad 0)), (1, .int p1), (2, .ref xa)]) hx hb dX0_totalOf_7 hl (by decide) rfl (fun ls hl => ?_)
  refine lv_iconst (v := 0) hx hb dX0_totalOf_9 (by decide) ?_
  refine lv_istore (lv' := [(5, .int 0), (4, .int (f_X0_lengthAt ln p1)), (3, .int 0), (0, .ref (ad 0)), (1, .int p1), (2, .ref xa)]) hx hb dX0_totalOf_10 hl (by decide) rfl (fun ls hl => ?_)
  have l12 : ∀ (nn : Nat) (v3_12 : Int32) (v5_12 : Int32), f_X0_totalOf_L12 p1 (f_X0_lengthAt ln p1) fs st xf nn v3_12 v5_12 = some r → ∀ (H : Heap) (locs : List Loc) (ls : Array Slot), va_P D vwCl (wBX cI ad xa size rc g fs st ln su rr cr xf) H → va_D A (wBX cI ad xa size rc g fs st ln su rr cr xf) → va_S A s.heap H locs → lv_has ls 6 [(0, .ref (ad 0)), (1, .int p1), (2, .ref xa), (3, .int v3_12), (4, .int (f_X0_lengthAt ln p1)), (5, .int v5_12)] → W p l e rm_X0_totalOf_f s m args below meth c H locs 0 0 Q (F0 m 12 ls []) := by
    intro nn
    induction nn with
    | zero => intro _ _ hf; exact nomatch (show (none : Option _) = some r from hf)
    | succ n12 ih12 =>
      intro v3_12 v5_12 hf H locs ls hP hD hS hl
      rw [f_X0_totalOf_L12.eq_2] at hf
      refine lv_iload hx hb dX0_totalOf_12 (lv_at hl 5 rfl) ?_
      refine lv_iload hx hb dX0_totalOf_14 (lv_at hl 4 rfl) ?_
      refine lv_icmp_ge (tgt := 39) hx hb dX0_totalOf_16 (by decide) (fun c_16 => ?_) (fun c_16 => ?_)
      · have hf := ite_t c_16 hf
        refine lv_iload_n hx hb dX0_totalOf_39 rfl (lv_at hl 3 rfl) ?_
        cases hf
        exact hR _ _ _ _ _ _ rfl rfl hP hD hS dX0_totalOf_40
      · have hf := ite_f c_16 hf
        refine lv_iload_n hx hb dX0_totalOf_19 rfl (lv_at hl 3 rfl) ?_
        refine lv_aload_n hx hb dX0_totalOf_20 rfl (lv_at hl 2 rfl) ?_
        refine lv_aload_n hx hb dX0_totalOf_21 rfl (lv_at hl 0 rfl) ?_
        refine lv_iload_n hx hb dX0_totalOf_22 rfl (lv_at hl 1 rfl) ?_
        refine lv_iload hx hb dX0_totalOf_23 (lv_at hl 5 rfl) ?_
        refine clV_i (As := [.int p1, .int v5_12]) (rest := [.ref xa, .int v3_12]) (wBX cI ad xa size rc g fs st ln su rr cr xf) ⟨hx, hb, hml, hown, hts⟩ (K_X0_cellAt l D cI cZ ad H.size size rc g fs st ln su rr cr p1 v5_12 _ rfl) (cwV 2 hts gX0_totalOf_X0_cellAt rfl rfl rfl (by decide +kernel) ⟨Nat.le_of_ble_eq_true rfl, Nat.le_of_ble_eq_true rfl⟩) hK hP hD hS hA hl.1 [0, 1, 2, 3, 4, 5, 6, 7] (by decide) rfl rfl rfl 0 0 rfl rfl rfl rfl rfl (Nat.le_of_ble_eq_true rfl) dX0_totalOf_25 ⟨Nat.le_of_ble_eq_true rfl, Nat.le_of_ble_eq_true rfl⟩ (fun H locs hP hD hS => ?_)
        refine clN_i (As := [.ref xa, .int (f_X0_cellAt fs st p1 v5_12)]) (rest := [.int v3_12]) (wBX cI ad xa size rc g fs st ln su rr cr xf) ⟨hx, hb, hml, hown, hts⟩ (K_X3_at l D cI cZ xa 16 (by decide) H.size xf (f_X0_cellAt fs st p1 v5_12) _ rfl) ⟨va_cnB (host := RX3) 2 hts gX0_totalOf_X3_at_n50 rfl rfl rfl (hK.2 (RX0, 50, yX3_at) (by decide)) (hts (.initialized RX3) (by decide +kernel)) (by decide +kernel) ⟨Nat.le_of_ble_eq_true rfl, Nat.le_of_ble_eq_true rfl⟩, hts (.static yX3_at) (by decide +kernel), trivial⟩ hK hP hD hS hA hl.1 [8] (by decide) rfl rfl rfl rfl rfl (Nat.le_of_ble_eq_true rfl) dX0_totalOf_28 ⟨Nat.le_of_ble_eq_true rfl, Nat.le_of_ble_eq_true rfl⟩ (fun H locs hP hD hS => ?_)
        refine lv_iadd hx hb dX0_totalOf_31 ?_
        refine lv_istore_n (lv' := [(3, .int (v3_12 + (f_X3_at 16 xf (f_X0_cellAt fs st p1 v5_12)))), (0, .ref (ad 0)), (1, .int p1), (2, .ref xa), (4, .int (f_X0_lengthAt ln p1)), (5, .int v5_12)]) hx hb dX0_totalOf_32 rfl hl (by decide) rfl (fun ls hl => ?_)
        refine lv_iinc (v := (v5_12 + 1)) (lv' := [(5, .int (v5_12 + 1)), (3, .int (v3_12 + (f_X3_at 16 xf (f_X0_cellAt fs st p1 v5_12)))), (0, .ref (ad 0)), (1, .int p1), (2, .ref xa), (4, .int (f_X0_lengthAt ln p1))]) hx hb dX0_totalOf_33 hl (k := 5) rfl rfl (by decide) rfl (fun ls hl => ?_)
        refine lv_goto (tgt := 12) hx hb dX0_totalOf_36 (by decide) ?_
        exact ih12 (v3_12 + (f_X3_at 16 xf (f_X0_cellAt fs st p1 v5_12))) (v5_12 + 1) hf _ _ _ hP hD hS (lv_sub hl [2, 3, 4, 1, 5, 0] rfl)
  exact l12 N 0 0 hf _ _ _ hP hD hS (lv_sub hl [3, 4, 5, 2, 1, 0] rfl)
def rm_X0_totalOf_g : Room := { frames := 2, cells := 0, slots := 0, locals := 43 }
set_option maxRecDepth 100000 in
set_option maxHeartbeats 8000000 in
theorem K_X0_totalOf_g (l : Launch) (D : va_G) (cI cZ : ClassId) (ad : Nat → Nat) (sz : Nat) (N : Nat) (size rc : Int32) (g fs st ln su rr cr : Nat → Int32) (p1 : Int32) (r : (Int32)) (hf : f_X0_totalOf N fs st ln g p1 = some r) : Met l yX0_totalOf wsX0_totalOf rm_X0_totalOf_g (PC D cI cZ sz [.ref (ad 0), .int p1, .ref (ad 1)] (wB cI ad size rc g fs st ln su rr cr)) (QI D cI cZ sz (wB cI ad size rc g fs st ln su rr cr) r (wB cI ad size rc g fs st ln su rr cr)) 0 0 (va_A (wB cI ad size rc g fs st ln su rr cr) sz) := by
  refine mk_i (cc := cX0_totalOf) (maxL := 6) (lv0 := [(0, .ref (ad 0)), (1, .int p1), (2, .ref (ad 1))]) (by decide) rfl (Nat.le_of_ble_eq_true rfl) rfl ?_
  intro p e s m args below meth c ls A Q H hx hb hml hown hts hK hP hD hA hS hl hR
  rw [f_X0_totalOf] at hf
  refine lv_iconst (v := 0) hx hb dX0_totalOf_0 (by decide) ?_
  refine lv_istore_n (lv' := [(3, .int 0), (0, .ref (ad 0)), (1, .int p1), (2, .ref (ad 1))]) hx hb dX0_totalOf_1 rfl hl (by decide) rfl (fun ls hl => ?_)
  refine lv_aload_n hx hb dX0_totalOf_2 rfl (lv_at hl 1 rfl) ?_
  refine lv_iload_n hx hb dX0_totalOf_3 rfl (lv_at hl 2 rfl) ?_
  refine clV_i (As := [.int p1]) (rest := []) (wB cI ad size rc g fs st ln su rr cr) ⟨hx, hb, hml, hown, hts⟩ (K_X0_lengthAt l D cI cZ ad H.size size rc g fs st ln su rr cr p1 _ rfl) (cwV 1 hts gX0_totalOf_X0_lengthAt rfl rfl rfl (by decide +kernel) ⟨Nat.le_of_ble_eq_true rfl, Nat.le_of_ble_eq_true rfl⟩) hK hP hD hS hA hl.1 [0, 1, 2, 3, 4, 5, 6, 7] (by decide) rfl rfl rfl 0 0 rfl rfl rfl rfl rfl (Nat.le_of_ble_eq_true rfl) dX0_totalOf_4 ⟨Nat.le_of_ble_eq_true rfl, Nat.le_of_ble_eq_true rfl⟩ (fun H locs hP hD hS => ?_)
  refine lv_istore (lv' := [(4, .int (f_X0_lengthAt ln p1)), (3, .int 0), (0, .ref (ad 0)), (1, .int p1), (2, .ref (ad 1))]) hx hb dX0_totalOf_7 hl (by decide) rfl (fun ls hl => ?_)
  refine lv_iconst (v := 0) hx hb dX0_totalOf_9 (by decide) ?_
  refine lv_istore (lv' := [(5, .int 0), (4, .int (f_X0_lengthAt ln p1)), (3, .int 0), (0, .ref (ad 0)), (1, .int p1), (2, .ref (ad 1))]) hx hb dX0_totalOf_10 hl (by decide) rfl (fun ls hl => ?_)
  have l12 : ∀ (nn : Nat) (v3_12 : Int32) (v5_12 : Int32), f_X0_totalOf_L12 p1 (f_X0_lengthAt ln p1) fs st g nn v3_12 v5_12 = some r → ∀ (H : Heap) (locs : List Loc) (ls : Array Slot), va_P D vwCl (wB cI ad size rc g fs st ln su rr cr) H → va_D A (wB cI ad size rc g fs st ln su rr cr) → va_S A s.heap H locs → lv_has ls 6 [(0, .ref (ad 0)), (1, .int p1), (2, .ref (ad 1)), (3, .int v3_12), (4, .int (f_X0_lengthAt ln p1)), (5, .int v5_12)] → W p l e rm_X0_totalOf_g s m args below meth c H locs 0 0 Q (F0 m 12 ls []) := by
    intro nn
    induction nn with
    | zero => intro _ _ hf; exact nomatch (show (none : Option _) = some r from hf)
    | succ n12 ih12 =>
      intro v3_12 v5_12 hf H locs ls hP hD hS hl
      rw [f_X0_totalOf_L12.eq_2] at hf
      refine lv_iload hx hb dX0_totalOf_12 (lv_at hl 5 rfl) ?_
      refine lv_iload hx hb dX0_totalOf_14 (lv_at hl 4 rfl) ?_
      refine lv_icmp_ge (tgt := 39) hx hb dX0_totalOf_16 (by decide) (fun c_16 => ?_) (fun c_16 => ?_)
      · have hf := ite_t c_16 hf
        refine lv_iload_n hx hb dX0_totalOf_39 rfl (lv_at hl 3 rfl) ?_
        cases hf
        exact hR _ _ _ _ _ _ rfl rfl hP hD hS dX0_totalOf_40
      · have hf := ite_f c_16 hf
        refine lv_iload_n hx hb dX0_totalOf_19 rfl (lv_at hl 3 rfl) ?_
        refine lv_aload_n hx hb dX0_totalOf_20 rfl (lv_at hl 2 rfl) ?_
        refine lv_aload_n hx hb dX0_totalOf_21 rfl (lv_at hl 0 rfl) ?_
        refine lv_iload_n hx hb dX0_totalOf_22 rfl (lv_at hl 1 rfl) ?_
        refine lv_iload hx hb dX0_totalOf_23 (lv_at hl 5 rfl) ?_
        refine clV_i (As := [.int p1, .int v5_12]) (rest := [.ref (ad 1), .int v3_12]) (wB cI ad size rc g fs st ln su rr cr) ⟨hx, hb, hml, hown, hts⟩ (K_X0_cellAt l D cI cZ ad H.size size rc g fs st ln su rr cr p1 v5_12 _ rfl) (cwV 2 hts gX0_totalOf_X0_cellAt rfl rfl rfl (by decide +kernel) ⟨Nat.le_of_ble_eq_true rfl, Nat.le_of_ble_eq_true rfl⟩) hK hP hD hS hA hl.1 [0, 1, 2, 3, 4, 5, 6, 7] (by decide) rfl rfl rfl 0 0 rfl rfl rfl rfl rfl (Nat.le_of_ble_eq_true rfl) dX0_totalOf_25 ⟨Nat.le_of_ble_eq_true rfl, Nat.le_of_ble_eq_true rfl⟩ (fun H locs hP hD hS => ?_)
        refine clN_i (As := [.ref (ad 1), .int (f_X0_cellAt fs st p1 v5_12)]) (rest := [.int v3_12]) (wB cI ad size rc g fs st ln su rr cr) ⟨hx, hb, hml, hown, hts⟩ (K_X3_at l D cI cZ (ad 1) 16 (by decide) H.size g (f_X0_cellAt fs st p1 v5_12) _ rfl) ⟨va_cnB (host := RX3) 2 hts gX0_totalOf_X3_at_n50 rfl rfl rfl (hK.2 (RX0, 50, yX3_at) (by decide)) (hts (.initialized RX3) (by decide +kernel)) (by decide +kernel) ⟨Nat.le_of_ble_eq_true rfl, Nat.le_of_ble_eq_true rfl⟩, hts (.static yX3_at) (by decide +kernel), trivial⟩ hK hP hD hS hA hl.1 [1] (by decide) rfl rfl rfl rfl rfl (Nat.le_of_ble_eq_true rfl) dX0_totalOf_28 ⟨Nat.le_of_ble_eq_true rfl, Nat.le_of_ble_eq_true rfl⟩ (fun H locs hP hD hS => ?_)
        refine lv_iadd hx hb dX0_totalOf_31 ?_
        refine lv_istore_n (lv' := [(3, .int (v3_12 + (f_X3_at 16 g (f_X0_cellAt fs st p1 v5_12)))), (0, .ref (ad 0)), (1, .int p1), (2, .ref (ad 1)), (4, .int (f_X0_lengthAt ln p1)), (5, .int v5_12)]) hx hb dX0_totalOf_32 rfl hl (by decide) rfl (fun ls hl => ?_)
        refine lv_iinc (v := (v5_12 + 1)) (lv' := [(5, .int (v5_12 + 1)), (3, .int (v3_12 + (f_X3_at 16 g (f_X0_cellAt fs st p1 v5_12)))), (0, .ref (ad 0)), (1, .int p1), (2, .ref (ad 1)), (4, .int (f_X0_lengthAt ln p1))]) hx hb dX0_totalOf_33 hl (k := 5) rfl rfl (by decide) rfl (fun ls hl => ?_)
        refine lv_goto (tgt := 12) hx hb dX0_totalOf_36 (by decide) ?_
        exact ih12 (v3_12 + (f_X3_at 16 g (f_X0_cellAt fs st p1 v5_12))) (v5_12 + 1) hf _ _ _ hP hD hS (lv_sub hl [2, 3, 4, 1, 5, 0] rfl)
  exact l12 N 0 0 hf _ _ _ hP hD hS (lv_sub hl [3, 4, 5, 2, 1, 0] rfl)
def rm_X0_sumAndEmpty : Room := { frames := 3, cells := 0, slots := 0, locals := 68 }
set_option maxRecDepth 100000 in
set_option maxHeartbeats 8000000 in
theorem K_X0_sumAndEmpty (l : Launch) (D : va_G) (cI cZ : ClassId) (ad : Nat → Nat) (sz : Nat) (N : Nat) (size rc : Int32) (g fs st ln su rr cr : Nat → Int32) (r : ((Nat → Int32) × (Nat → Int32))) (hf : f_X0_sumAndEmpty N size rc g fs st ln su = some r) : Met l yX0_sumAndEmpty wsX0_sumAndEmpty rm_X0_sumAndEmpty (PC D cI cZ sz [.ref (ad 0)] (wB cI ad size rc g fs st ln su rr cr)) (QV D cI cZ sz (wB cI ad size rc g fs st ln su rr cr) (wB cI ad size rc r.1 fs st ln r.2 rr cr)) 0 0 (va_A (wB cI ad size rc g fs st ln su rr cr) sz) := by
  refine mk_v (cc := cX0_sumAndEmpty) (maxL := 2) (lv0 := [(0, .ref (ad 0))]) (by decide) rfl (Nat.le_of_ble_eq_true rfl) rfl ?_
  intro p e s m args below meth c ls A Q H hx hb hml hown hts hK hP hD hA hS hl hR
  have hinX0 : ∀ w ∈ wsX00, w ∈ wsX0_sumAndEmpty := by decide +kernel
  rw [f_X0_sumAndEmpty] at hf
  refine lv_iconst (v := 0) hx hb dX0_sumAndEmpty_0 (by decide) ?_
  refine lv_istore_n (lv' := [(1, .int 0), (0, .ref (ad 0))]) hx hb dX0_sumAndEmpty_1 rfl hl (by decide) rfl (fun ls hl => ?_)
  obtain ⟨k33, hk33, hf⟩ := jn_some hf
  have w33 : ∀ (su_33 : Nat → Int32), k33 su_33 = some r → ∀ (H : Heap) (locs : List Loc) (ls : Array Slot), va_P D vwCl (wB cI ad size rc g fs st ln su_33 rr cr) H → va_D A (wB cI ad size rc g fs st ln su_33 rr cr) → va_S A s.heap H locs → lv_has ls 2 [(0, .ref (ad 0))] → W p l e rm_X0_sumAndEmpty s m args below meth c H locs 0 0 Q (F0 m 33 ls []) := by
    intro su_33 hf H locs ls hP hD hS hl
    rw [hk33] at hf
    try dsimp only at hf
    refine lv_iconst (v := 0) hx hb dX0_sumAndEmpty_33 (by decide) ?_
    refine lv_istore_n (lv' := [(1, .int 0), (0, .ref (ad 0))]) hx hb dX0_sumAndEmpty_34 rfl hl (by decide) rfl (fun ls hl => ?_)
    have l35 : ∀ (nn : Nat) (v1_35 : Int32) (g_35 : Nat → Int32), f_X0_sumAndEmpty_L35 size su_33 nn v1_35 g_35 = some r → ∀ (H : Heap) (locs : List Loc) (ls : Array Slot), va_P D vwCl (wB cI ad size rc g_35 fs st ln su_33 rr cr) H → va_D A (wB cI ad size rc g_35 fs st ln su_33 rr cr) → va_S A s.heap H locs → lv_has ls 2 [(0, .ref (ad 0)), (1, .int v1_35)] → W p l e rm_X0_sumAndEmpty s m args below meth c H locs 0 0 Q (F0 m 35 ls []) := by
      intro nn
      induction nn with
      | zero => intro _ _ hf; exact nomatch (show (none : Option _) = some r from hf)
      | succ n35 ih35 =>
        intro v1_35 g_35 hf H locs ls hP hD hS hl
        rw [f_X0_sumAndEmpty_L35.eq_2] at hf
        refine lv_iload_n hx hb dX0_sumAndEmpty_35 rfl (lv_at hl 1 rfl) ?_
        refine lv_bipush (v := 16) hx hb dX0_sumAndEmpty_36 (by decide) ?_
        refine lv_icmp_ge (tgt := 64) hx hb dX0_sumAndEmpty_38 (by decide) (fun c_38 => ?_) (fun c_38 => ?_)
        · have hf := ite_t c_38 hf
          cases hf
          exact hR _ _ _ _ _ rfl hP hD hS dX0_sumAndEmpty_64
        · have hf := ite_f c_38 hf
          refine lv_aload_n hx hb dX0_sumAndEmpty_41 rfl (lv_at hl 0 rfl) ?_
          refine lv_iload_n hx hb dX0_sumAndEmpty_42 rfl (lv_at hl 1 rfl) ?_
          refine clV_i (As := [.int v1_35]) (rest := []) (wB cI ad size rc g_35 fs st ln su_33 rr cr) ⟨hx, hb, hml, hown, hts⟩ (K_X0_isOpen l D cI cZ ad H.size size rc g_35 fs st ln su_33 rr cr v1_35 _ rfl) (cwV 1 hts gX0_sumAndEmpty_X0_isOpen rfl rfl rfl (by decide +kernel) ⟨Nat.le_of_ble_eq_true rfl, Nat.le_of_ble_eq_true rfl⟩) hK hP hD hS hA hl.1 [0, 1, 2, 3, 4, 5, 6, 7] (by decide) rfl rfl rfl 0 0 rfl rfl rfl rfl rfl (Nat.le_of_ble_eq_true rfl) dX0_sumAndEmpty_43 ⟨Nat.le_of_ble_eq_true rfl, Nat.le_of_ble_eq_true rfl⟩ (fun H locs hP hD hS => ?_)
          obtain ⟨k58, hk58, hf⟩ := jn_some hf
          have w58 : ∀ (g_58 : Nat → Int32), k58 g_58 = some r → ∀ (H : Heap) (locs : List Loc) (ls : Array Slot), va_P D vwCl (wB cI ad size rc g_58 fs st ln su_33 rr cr) H → va_D A (wB cI ad size rc g_58 fs st ln su_33 rr cr) → va_S A s.heap H locs → lv_has ls 2 [(0, .ref (ad 0)), (1, .int v1_35)] → W p l e rm_X0_sumAndEmpty s m args below meth c H locs 0 0 Q (F0 m 58 ls []) := by
            intro g_58 hf H locs ls hP hD hS hl
            rw [hk58] at hf
            try dsimp only at hf
            refine lv_iinc (v := (v1_35 + 1)) (lv' := [(1, .int (v1_35 + 1)), (0, .ref (ad 0))]) hx hb dX0_sumAndEmpty_58 hl (k := 1) rfl rfl (by decide) rfl (fun ls hl => ?_)
            refine lv_goto (tgt := 35) hx hb dX0_sumAndEmpty_61 (by decide) ?_
            exact ih35 (v1_35 + 1) g_58 hf _ _ _ hP hD hS (lv_sub hl [1, 0] rfl)
          refine lv_if_eq (tgt := 58) hx hb dX0_sumAndEmpty_46 (by decide) (fun c_46 => ?_) (fun c_46 => ?_)
          · have hf := ite_t c_46 hf
            exact w58 g_35 hf _ _ _ hP hD hS (lv_sub hl [0, 1] rfl)
          · have hf := ite_f c_46 hf
            refine lv_aload_n hx hb dX0_sumAndEmpty_49 rfl (lv_at hl 0 rfl) ?_
            refine va_get (D := D) (ci := 0) (v := .ref (ad 1)) (C := RX0) (T := TX0) (N := 9) hx hb hts hinX0 hown hK.1 hP 0 rfl rfl 2 (by decide) (hts (.fieldLink RX0 9 "Gridpuzzle$Board" "givens" "[I") (by decide +kernel)) (fun _ h9 => h9) rfl dX0_sumAndEmpty_50 ?_
            refine lv_iload_n hx hb dX0_sumAndEmpty_53 rfl (lv_at hl 1 rfl) ?_
            refine lv_iconst (v := 0) hx hb dX0_sumAndEmpty_54 (by decide) ?_
            refine clN_v (As := [.ref (ad 1), .int v1_35, .int 0]) (rest := []) (wB cI ad size rc (f_X3_put 16 g_35 v1_35 0) fs st ln su_33 rr cr) ⟨hx, hb, hml, hown, hts⟩ (K_X3_put l D cI cZ (ad 1) 16 (by decide) H.size g_35 v1_35 0 _ rfl) ⟨va_cnB (host := RX3) 3 hts gX0_sumAndEmpty_X3_put_n54 rfl rfl rfl (hK.2 (RX0, 54, yX3_put) (by decide)) (hts (.initialized RX3) (by decide +kernel)) (by decide +kernel) ⟨Nat.le_of_ble_eq_true rfl, Nat.le_of_ble_eq_true rfl⟩, hts (.static yX3_put) (by decide +kernel), trivial⟩ hK hP hD hS hA hl.1 [1] (by decide) rfl rfl rfl rfl rfl (Nat.le_of_ble_eq_true rfl) dX0_sumAndEmpty_55 ⟨Nat.le_of_ble_eq_true rfl, Nat.le_of_ble_eq_true rfl⟩ (fun H locs hP hD hS => ?_)
            exact w58 (f_X3_put 16 g_35 v1_35 0) hf _ _ _ hP hD hS (lv_sub hl [0, 1] rfl)
    exact l35 N 0 g hf _ _ _ hP hD hS (lv_sub hl [1, 0] rfl)
  have l2 : ∀ (nn : Nat) (v1_2 : Int32) (su_2 : Nat → Int32), f_X0_sumAndEmpty_L2 N rc g fs st ln k33 nn v1_2 su_2 = some r → ∀ (H : Heap) (locs : List Loc) (ls : Array Slot), va_P D vwCl (wB cI ad size rc g fs st ln su_2 rr cr) H → va_D A (wB cI ad size rc g fs st ln su_2 rr cr) → va_S A s.heap H locs → lv_has ls 2 [(0, .ref (ad 0)), (1, .int v1_2)] → W p l e rm_X0_sumAndEmpty s m args below meth c H locs 0 0 Q (F0 m 2 ls []) := by
    intro nn
    induction nn with
    | zero => intro _ _ hf; exact nomatch (show (none : Option _) = some r from hf)
    | succ n2 ih2 =>
      intro v1_2 su_2 hf H locs ls hP hD hS hl
      rw [f_X0_sumAndEmpty_L2.eq_2] at hf
      refine lv_iload_n hx hb dX0_sumAndEmpty_2 rfl (lv_at hl 1 rfl) ?_
      refine lv_aload_n hx hb dX0_sumAndEmpty_3 rfl (lv_at hl 0 rfl) ?_
      refine va_get (D := D) (ci := 0) (v := .int rc) (C := RX0) (T := TX0) (N := 9) hx hb hts hinX0 hown hK.1 hP 0 rfl rfl 1 (by decide) (hts (.fieldLink RX0 68 "Gridpuzzle$Board" "runCount" "I") (by decide +kernel)) (fun _ h9 => h9) rfl dX0_sumAndEmpty_4 ?_
      refine lv_icmp_ge (tgt := 33) hx hb dX0_sumAndEmpty_7 (by decide) (fun c_7 => ?_) (fun c_7 => ?_)
      · have hf := ite_t c_7 hf
        exact w33 su_2 hf _ _ _ hP hD hS (lv_sub hl [0] rfl)
      · have hf := ite_f c_7 hf
        refine lv_aload_n hx hb dX0_sumAndEmpty_10 rfl (lv_at hl 0 rfl) ?_
        refine va_get (D := D) (ci := 0) (v := .ref (ad 5)) (C := RX0) (T := TX0) (N := 9) hx hb hts hinX0 hown hK.1 hP 0 rfl rfl 6 (by decide) (hts (.fieldLink RX0 24 "Gridpuzzle$Board" "sums" "[I") (by decide +kernel)) (fun _ h9 => h9) rfl dX0_sumAndEmpty_11 ?_
        refine lv_iload_n hx hb dX0_sumAndEmpty_14 rfl (lv_at hl 1 rfl) ?_
        refine lv_aload_n hx hb dX0_sumAndEmpty_15 rfl (lv_at hl 0 rfl) ?_
        refine lv_iload_n hx hb dX0_sumAndEmpty_16 rfl (lv_at hl 1 rfl) ?_
        refine lv_aload_n hx hb dX0_sumAndEmpty_17 rfl (lv_at hl 0 rfl) ?_
        refine va_get (D := D) (ci := 0) (v := .ref (ad 1)) (C := RX0) (T := TX0) (N := 9) hx hb hts hinX0 hown hK.1 hP 0 rfl rfl 2 (by decide) (hts (.fieldLink RX0 9 "Gridpuzzle$Board" "givens" "[I") (by decide +kernel)) (fun _ h9 => h9) rfl dX0_sumAndEmpty_18 ?_
        obtain ⟨x21, hy21, hf⟩ := Option.bind_eq_some_iff.mp hf
        refine clV_i (As := [.int v1_2, .ref (ad 1)]) (rest := [.int v1_2, .ref (ad 5)]) (wB cI ad size rc g fs st ln su_2 rr cr) ⟨hx, hb, hml, hown, hts⟩ (K_X0_totalOf_g l D cI cZ ad H.size N size rc g fs st ln su_2 rr cr v1_2 _ hy21) (cwV 2 hts gX0_sumAndEmpty_X0_totalOf rfl rfl rfl (by decide +kernel) ⟨Nat.le_of_ble_eq_true rfl, Nat.le_of_ble_eq_true rfl⟩) hK hP hD hS hA hl.1 [0, 1, 2, 3, 4, 5, 6, 7] (by decide) rfl rfl rfl 0 0 rfl rfl rfl rfl rfl (Nat.le_of_ble_eq_true rfl) dX0_sumAndEmpty_21 ⟨Nat.le_of_ble_eq_true rfl, Nat.le_of_ble_eq_true rfl⟩ (fun H locs hP hD hS => ?_)
        refine clN_v (As := [.ref (ad 5), .int v1_2, .int x21]) (rest := []) (wB cI ad size rc g fs st ln (f_X3_put 8 su_2 v1_2 x21) rr cr) ⟨hx, hb, hml, hown, hts⟩ (K_X3_put l D cI cZ (ad 5) 8 (by decide) H.size su_2 v1_2 x21 _ rfl) ⟨va_cnB (host := RX3) 3 hts gX0_sumAndEmpty_X3_put_n54 rfl rfl rfl (hK.2 (RX0, 54, yX3_put) (by decide)) (hts (.initialized RX3) (by decide +kernel)) (by decide +kernel) ⟨Nat.le_of_ble_eq_true rfl, Nat.le_of_ble_eq_true rfl⟩, hts (.static yX3_put) (by decide +kernel), trivial⟩ hK hP hD hS hA hl.1 [5] (by decide) rfl rfl rfl rfl rfl (Nat.le_of_ble_eq_true rfl) dX0_sumAndEmpty_24 ⟨Nat.le_of_ble_eq_true rfl, Nat.le_of_ble_eq_true rfl⟩ (fun H locs hP hD hS => ?_)
        refine lv_iinc (v := (v1_2 + 1)) (lv' := [(1, .int (v1_2 + 1)), (0, .ref (ad 0))]) hx hb dX0_sumAndEmpty_27 hl (k := 1) rfl rfl (by decide) rfl (fun ls hl => ?_)
        refine lv_goto (tgt := 2) hx hb dX0_sumAndEmpty_30 (by decide) ?_
        exact ih2 (v1_2 + 1) (f_X3_put 8 su_2 v1_2 x21) hf _ _ _ hP hD hS (lv_sub hl [1, 0] rfl)
  exact l2 N 0 su hf _ _ _ hP hD hS (lv_sub hl [1, 0] rfl)
def rm_X0_countRuns : Room := { frames := 0, cells := 0, slots := 0, locals := 0 }
set_option maxRecDepth 100000 in
set_option maxHeartbeats 8000000 in
theorem K_X0_countRuns (l : Launch) (D : va_G) (cI cZ : ClassId) (ad : Nat → Nat) (sz : Nat) (size rc : Int32) (g fs st ln su rr cr : Nat → Int32) (r : (Int32)) (hf : f_X0_countRuns rc = r) : Met l yX0_countRuns wsX0_countRuns rm_X0_countRuns (PC D cI cZ sz [.ref (ad 0)] (wB cI ad size rc g fs st ln su rr cr)) (QI D cI cZ sz (wB cI ad size rc g fs st ln su rr cr) r (wB cI ad size rc g fs st ln su rr cr)) 0 0 (va_A (wB cI ad size rc g fs st ln su rr cr) sz) := by
  refine mk_i (cc := cX0_countRuns) (maxL := 1) (lv0 := [(0, .ref (ad 0))]) (by decide) rfl (Nat.le_of_ble_eq_true rfl) rfl ?_
  intro p e s m args below meth c ls A Q H hx hb hml hown hts hK hP hD hA hS hl hR
  have hinX0 : ∀ w ∈ wsX00, w ∈ wsX0_countRuns := by decide +kernel
  rw [f_X0_countRuns] at hf
  refine lv_aload_n hx hb dX0_countRuns_0 rfl (lv_at hl 0 rfl) ?_
  refine va_get (D := D) (ci := 0) (v := .int rc) (C := RX0) (T := TX0) (N := 9) hx hb hts hinX0 hown hK.1 hP 0 rfl rfl 1 (by decide) (hts (.fieldLink RX0 68 "Gridpuzzle$Board" "runCount" "I") (by decide +kernel)) (fun _ h9 => h9) rfl dX0_countRuns_1 ?_
  cases hf
  exact hR _ _ _ _ _ _ rfl rfl hP hD hS dX0_countRuns_4
def rm_X0_firstAt : Room := { frames := 1, cells := 0, slots := 0, locals := 21 }
set_option maxRecDepth 100000 in
set_option maxHeartbeats 8000000 in
theorem K_X0_firstAt (l : Launch) (D : va_G) (cI cZ : ClassId) (ad : Nat → Nat) (sz : Nat) (size rc : Int32) (g fs st ln su rr cr : Nat → Int32) (p1 : Int32) (r : (Int32)) (hf : f_X0_firstAt fs p1 = r) : Met l yX0_firstAt wsX0_firstAt rm_X0_firstAt (PC D cI cZ sz [.ref (ad 0), .int p1] (wB cI ad size rc g fs st ln su rr cr)) (QI D cI cZ sz (wB cI ad size rc g fs st ln su rr cr) r (wB cI ad size rc g fs st ln su rr cr)) 0 0 (va_A (wB cI ad size rc g fs st ln su rr cr) sz) := by
  refine mk_i (cc := cX0_firstAt) (maxL := 2) (lv0 := [(0, .ref (ad 0)), (1, .int p1)]) (by decide) rfl (Nat.le_of_ble_eq_true rfl) rfl ?_
  intro p e s m args below meth c ls A Q H hx hb hml hown hts hK hP hD hA hS hl hR
  have hinX0 : ∀ w ∈ wsX00, w ∈ wsX0_firstAt := by decide +kernel
  rw [f_X0_firstAt] at hf
  refine lv_aload_n hx hb dX0_firstAt_0 rfl (lv_at hl 0 rfl) ?_
  refine va_get (D := D) (ci := 0) (v := .ref (ad 2)) (C := RX0) (T := TX0) (N := 9) hx hb hts hinX0 hown hK.1 hP 0 rfl rfl 3 (by decide) (hts (.fieldLink RX0 15 "Gridpuzzle$Board" "firsts" "[I") (by decide +kernel)) (fun _ h9 => h9) rfl dX0_firstAt_1 ?_
  refine lv_iload_n hx hb dX0_firstAt_4 rfl (lv_at hl 1 rfl) ?_
  refine clN_i (As := [.ref (ad 2), .int p1]) (rest := []) (wB cI ad size rc g fs st ln su rr cr) ⟨hx, hb, hml, hown, hts⟩ (K_X3_at l D cI cZ (ad 2) 8 (by decide) H.size fs p1 _ rfl) ⟨va_cnB (host := RX3) 2 hts gX0_firstAt_X3_at_n50 rfl rfl rfl (hK.2 (RX0, 50, yX3_at) (by decide)) (hts (.initialized RX3) (by decide +kernel)) (by decide +kernel) ⟨Nat.le_of_ble_eq_true rfl, Nat.le_of_ble_eq_true rfl⟩, hts (.static yX3_at) (by decide +kernel), trivial⟩ hK hP hD hS hA hl.1 [2] (by decide) rfl rfl rfl rfl rfl (Nat.le_of_ble_eq_true rfl) dX0_firstAt_5 ⟨Nat.le_of_ble_eq_true rfl, Nat.le_of_ble_eq_true rfl⟩ (fun H locs hP hD hS => ?_)
  cases hf
  exact hR _ _ _ _ _ _ rfl rfl hP hD hS dX0_firstAt_8
def rm_X0_isAnswer : Room := { frames := 3, cells := 0, slots := 0, locals := 69 }
set_option maxRecDepth 100000 in
set_option maxHeartbeats 8000000 in
theorem K_X0_isAnswer (l : Launch) (D : va_G) (cI cZ : ClassId) (ad : Nat → Nat) (xa : Nat) (sz : Nat) (N : Nat) (size rc : Int32) (g fs st ln su rr cr xf : Nat → Int32) (r : (Int32)) (hf : f_X0_isAnswer N rc fs st ln su xf = some r) : Met l yX0_isAnswer wsX0_isAnswer rm_X0_isAnswer (PC D cI cZ sz [.ref (ad 0), .ref xa] (wBX cI ad xa size rc g fs st ln su rr cr xf)) (QI D cI cZ sz (wBX cI ad xa size rc g fs st ln su rr cr xf) r (wBX cI ad xa size rc g fs st ln su rr cr xf)) 0 0 (va_A (wBX cI ad xa size rc g fs st ln su rr cr xf) sz) := by
  refine mk_z (cc := cX0_isAnswer) (maxL := 4) (lv0 := [(0, .ref (ad 0)), (1, .ref xa)]) (by decide) rfl (Nat.le_of_ble_eq_true rfl) rfl ?_
  intro p e s m args below meth c ls A Q H hx hb hml hown hts hK hP hD hA hS hl hR
  have hinX0 : ∀ w ∈ wsX00, w ∈ wsX0_isAnswer := by decide +kernel
  rw [f_X0_isAnswer] at hf
  refine lv_iconst (v := 0) hx hb dX0_isAnswer_0 (by decide) ?_
  refine lv_istore_n (lv' := [(2, .int 0), (0, .ref (ad 0)), (1, .ref xa)]) hx hb dX0_isAnswer_1 rfl hl (by decide) rfl (fun ls hl => ?_)
  have l2 : ∀ (nn : Nat) (v2_2 : Int32), f_X0_isAnswer_L2 N rc fs st ln su xf nn v2_2 = some r → ∀ (H : Heap) (locs : List Loc) (ls : Array Slot), va_P D vwCl (wBX cI ad xa size rc g fs st ln su rr cr xf) H → va_D A (wBX cI ad xa size rc g fs st ln su rr cr xf) → va_S A s.heap H locs → lv_has ls 4 [(0, .ref (ad 0)), (1, .ref xa), (2, .int v2_2)] → W p l e rm_X0_isAnswer s m args below meth c H locs 0 0 Q (F0 m 2 ls []) := by
    intro nn
    induction nn with
    | zero => intro _ hf; exact nomatch (show (none : Option _) = some r from hf)
    | succ n2 ih2 =>
      intro v2_2 hf H locs ls hP hD hS hl
      rw [f_X0_isAnswer_L2.eq_2] at hf
      refine lv_iload_n hx hb dX0_isAnswer_2 rfl (lv_at hl 2 rfl) ?_
      refine lv_aload_n hx hb dX0_isAnswer_3 rfl (lv_at hl 0 rfl) ?_
      refine va_get (D := D) (ci := 0) (v := .int rc) (C := RX0) (T := TX0) (N := 9) hx hb hts hinX0 hown hK.1 hP 0 rfl rfl 1 (by decide) (hts (.fieldLink RX0 68 "Gridpuzzle$Board" "runCount" "I") (by decide +kernel)) (fun _ h9 => h9) rfl dX0_isAnswer_4 ?_
      refine lv_icmp_ge (tgt := 47) hx hb dX0_isAnswer_7 (by decide) (fun c_7 => ?_) (fun c_7 => ?_)
      · have hf := ite_t c_7 hf
        refine lv_iconst (v := 1) hx hb dX0_isAnswer_47 (by decide) ?_
        cases hf
        exact hR _ _ _ _ _ _ (by decide) rfl rfl hP hD hS dX0_isAnswer_48
      · have hf := ite_f c_7 hf
        refine lv_aload_n hx hb dX0_isAnswer_10 rfl (lv_at hl 0 rfl) ?_
        refine lv_iload_n hx hb dX0_isAnswer_11 rfl (lv_at hl 2 rfl) ?_
        refine clV_i (As := [.int v2_2]) (rest := []) (wBX cI ad xa size rc g fs st ln su rr cr xf) ⟨hx, hb, hml, hown, hts⟩ (K_X0_sumAt l D cI cZ ad H.size size rc g fs st ln su rr cr v2_2 _ rfl) (cwV 1 hts gX0_isAnswer_X0_sumAt rfl rfl rfl (by decide +kernel) ⟨Nat.le_of_ble_eq_true rfl, Nat.le_of_ble_eq_true rfl⟩) hK hP hD hS hA hl.1 [0, 1, 2, 3, 4, 5, 6, 7] (by decide) rfl rfl rfl 0 0 rfl rfl rfl rfl rfl (Nat.le_of_ble_eq_true rfl) dX0_isAnswer_12 ⟨Nat.le_of_ble_eq_true rfl, Nat.le_of_ble_eq_true rfl⟩ (fun H locs hP hD hS => ?_)
        refine lv_istore_n (lv' := [(3, .int (f_X0_sumAt su v2_2)), (0, .ref (ad 0)), (1, .ref xa), (2, .int v2_2)]) hx hb dX0_isAnswer_15 rfl hl (by decide) rfl (fun ls hl => ?_)
        refine lv_aload_n hx hb dX0_isAnswer_16 rfl (lv_at hl 1 rfl) ?_
        refine lv_iload_n hx hb dX0_isAnswer_17 rfl (lv_at hl 3 rfl) ?_
        refine lv_aload_n hx hb dX0_isAnswer_18 rfl (lv_at hl 2 rfl) ?_
        obtain ⟨x19, hy19, hf⟩ := Option.bind_eq_some_iff.mp hf
        refine clV_i (As := [.int v2_2, .ref xa]) (rest := []) (wBX cI ad xa size rc g fs st ln su rr cr xf) ⟨hx, hb, hml, hown, hts⟩ (K_X0_hasTwice_f l D cI cZ ad xa H.size N size rc g fs st ln su rr cr xf v2_2 _ hy19) (cwV 2 hts gX0_isAnswer_X0_hasTwice rfl rfl rfl (by decide +kernel) ⟨Nat.le_of_ble_eq_true rfl, Nat.le_of_ble_eq_true rfl⟩) hK hP hD hS hA hl.1 [0, 1, 2, 3, 4, 5, 6, 7, 8] (by decide) rfl rfl rfl 0 0 rfl rfl rfl rfl rfl (Nat.le_of_ble_eq_true rfl) dX0_isAnswer_19 ⟨Nat.le_of_ble_eq_true rfl, Nat.le_of_ble_eq_true rfl⟩ (fun H locs hP hD hS => ?_)
        refine lv_if_ne (tgt := 39) hx hb dX0_isAnswer_22 (by decide) (fun c_22 => ?_) (fun c_22 => ?_)
        · have hf := ite_f c_22 hf
          refine lv_iconst (v := 0) hx hb dX0_isAnswer_39 (by decide) ?_
          cases hf
          exact hR _ _ _ _ _ _ (by decide) rfl rfl hP hD hS dX0_isAnswer_40
        · have hf := ite_t c_22 hf
          refine lv_iload_n hx hb dX0_isAnswer_25 rfl (lv_at hl 0 rfl) ?_
          obtain ⟨k41, hk41, hf⟩ := jn_some hf
          have w41 : ∀ (_ : Unit), k41 () = some r → ∀ (H : Heap) (locs : List Loc) (ls : Array Slot), va_P D vwCl (wBX cI ad xa size rc g fs st ln su rr cr xf) H → va_D A (wBX cI ad xa size rc g fs st ln su rr cr xf) → va_S A s.heap H locs → lv_has ls 4 [(0, .ref (ad 0)), (1, .ref xa), (2, .int v2_2)] → W p l e rm_X0_isAnswer s m args below meth c H locs 0 0 Q (F0 m 41 ls []) := by
            intro _ hf H locs ls hP hD hS hl
            rw [hk41] at hf
            try dsimp only at hf
            refine lv_iinc (v := (v2_2 + 1)) (lv' := [(2, .int (v2_2 + 1)), (0, .ref (ad 0)), (1, .ref xa)]) hx hb dX0_isAnswer_41 hl (k := 2) rfl rfl (by decide) rfl (fun ls hl => ?_)
            refine lv_goto (tgt := 2) hx hb dX0_isAnswer_44 (by decide) ?_
            exact ih2 (v2_2 + 1) hf _ _ _ hP hD hS (lv_sub hl [1, 2, 0] rfl)
          refine lv_if_eq (tgt := 41) hx hb dX0_isAnswer_26 (by decide) (fun c_26 => ?_) (fun c_26 => ?_)
          · have hf := ite_t c_26 hf
            exact w41 () hf _ _ _ hP hD hS (lv_sub hl [1, 2, 3] rfl)
          · have hf := ite_f c_26 hf
            refine lv_aload_n hx hb dX0_isAnswer_29 rfl (lv_at hl 1 rfl) ?_
            refine lv_iload_n hx hb dX0_isAnswer_30 rfl (lv_at hl 3 rfl) ?_
            refine lv_aload_n hx hb dX0_isAnswer_31 rfl (lv_at hl 2 rfl) ?_
            obtain ⟨x32, hy32, hf⟩ := Option.bind_eq_some_iff.mp hf
            refine clV_i (As := [.int v2_2, .ref xa]) (rest := []) (wBX cI ad xa size rc g fs st ln su rr cr xf) ⟨hx, hb, hml, hown, hts⟩ (K_X0_totalOf_f l D cI cZ ad xa H.size N size rc g fs st ln su rr cr xf v2_2 _ hy32) (cwV 2 hts gX0_isAnswer_X0_totalOf rfl rfl rfl (by decide +kernel) ⟨Nat.le_of_ble_eq_true rfl, Nat.le_of_ble_eq_true rfl⟩) hK hP hD hS hA hl.1 [0, 1, 2, 3, 4, 5, 6, 7, 8] (by decide) rfl rfl rfl 0 0 rfl rfl rfl rfl rfl (Nat.le_of_ble_eq_true rfl) dX0_isAnswer_32 ⟨Nat.le_of_ble_eq_true rfl, Nat.le_of_ble_eq_true rfl⟩ (fun H locs hP hD hS => ?_)
            refine lv_iload_n hx hb dX0_isAnswer_35 rfl (lv_at hl 0 rfl) ?_
            refine lv_icmp_eq (tgt := 41) hx hb dX0_isAnswer_36 (by decide) (fun c_36 => ?_) (fun c_36 => ?_)
            · have hf := ite_t c_36 hf
              exact w41 () hf _ _ _ hP hD hS (lv_sub hl [1, 2, 3] rfl)
            · have hf := ite_f c_36 hf
              refine lv_iconst (v := 0) hx hb dX0_isAnswer_39 (by decide) ?_
              cases hf
              exact hR _ _ _ _ _ _ (by decide) rfl rfl hP hD hS dX0_isAnswer_40
  exact l2 N 0 hf _ _ _ hP hD hS (lv_sub hl [1, 2, 0] rfl)
def rm_X0_rowRunOf : Room := { frames := 1, cells := 0, slots := 0, locals := 21 }
set_option maxRecDepth 100000 in
set_option maxHeartbeats 8000000 in
theorem K_X0_rowRunOf (l : Launch) (D : va_G) (cI cZ : ClassId) (ad : Nat → Nat) (sz : Nat) (size rc : Int32) (g fs st ln su rr cr : Nat → Int32) (p1 : Int32) (r : (Int32)) (hf : f_X0_rowRunOf rr p1 = r) : Met l yX0_rowRunOf wsX0_rowRunOf rm_X0_rowRunOf (PC D cI cZ sz [.ref (ad 0), .int p1] (wB cI ad size rc g fs st ln su rr cr)) (QI D cI cZ sz (wB cI ad size rc g fs st ln su rr cr) r (wB cI ad size rc g fs st ln su rr cr)) 0 0 (va_A (wB cI ad size rc g fs st ln su rr cr) sz) := by
  refine mk_i (cc := cX0_rowRunOf) (maxL := 2) (lv0 := [(0, .ref (ad 0)), (1, .int p1)]) (by decide) rfl (Nat.le_of_ble_eq_true rfl) rfl ?_
  intro p e s m args below meth c ls A Q H hx hb hml hown hts hK hP hD hA hS hl hR
  have hinX0 : ∀ w ∈ wsX00, w ∈ wsX0_rowRunOf := by decide +kernel
  rw [f_X0_rowRunOf] at hf
  refine lv_aload_n hx hb dX0_rowRunOf_0 rfl (lv_at hl 0 rfl) ?_
  refine va_get (D := D) (ci := 0) (v := .ref (ad 6)) (C := RX0) (T := TX0) (N := 9) hx hb hts hinX0 hown hK.1 hP 0 rfl rfl 7 (by decide) (hts (.fieldLink RX0 27 "Gridpuzzle$Board" "rowRuns" "[I") (by decide +kernel)) (fun _ h9 => h9) rfl dX0_rowRunOf_1 ?_
  refine lv_iload_n hx hb dX0_rowRunOf_4 rfl (lv_at hl 1 rfl) ?_
  refine clN_i (As := [.ref (ad 6), .int p1]) (rest := []) (wB cI ad size rc g fs st ln su rr cr) ⟨hx, hb, hml, hown, hts⟩ (K_X3_at l D cI cZ (ad 6) 16 (by decide) H.size rr p1 _ rfl) ⟨va_cnB (host := RX3) 2 hts gX0_rowRunOf_X3_at_n50 rfl rfl rfl (hK.2 (RX0, 50, yX3_at) (by decide)) (hts (.initialized RX3) (by decide +kernel)) (by decide +kernel) ⟨Nat.le_of_ble_eq_true rfl, Nat.le_of_ble_eq_true rfl⟩, hts (.static yX3_at) (by decide +kernel), trivial⟩ hK hP hD hS hA hl.1 [6] (by decide) rfl rfl rfl rfl rfl (Nat.le_of_ble_eq_true rfl) dX0_rowRunOf_5 ⟨Nat.le_of_ble_eq_true rfl, Nat.le_of_ble_eq_true rfl⟩ (fun H locs hP hD hS => ?_)
  cases hf
  exact hR _ _ _ _ _ _ rfl rfl hP hD hS dX0_rowRunOf_8
def rm_X0_columnRunOf : Room := { frames := 1, cells := 0, slots := 0, locals := 21 }
set_option maxRecDepth 100000 in
set_option maxHeartbeats 8000000 in
theorem K_X0_columnRunOf (l : Launch) (D : va_G) (cI cZ : ClassId) (ad : Nat → Nat) (sz : Nat) (size rc : Int32) (g fs st ln su rr cr : Nat → Int32) (p1 : Int32) (r : (Int32)) (hf : f_X0_columnRunOf cr p1 = r) : Met l yX0_columnRunOf wsX0_columnRunOf rm_X0_columnRunOf (PC D cI cZ sz [.ref (ad 0), .int p1] (wB cI ad size rc g fs st ln su rr cr)) (QI D cI cZ sz (wB cI ad size rc g fs st ln su rr cr) r (wB cI ad size rc g fs st ln su rr cr)) 0 0 (va_A (wB cI ad size rc g fs st ln su rr cr) sz) := by
  refine mk_i (cc := cX0_columnRunOf) (maxL := 2) (lv0 := [(0, .ref (ad 0)), (1, .int p1)]) (by decide) rfl (Nat.le_of_ble_eq_true rfl) rfl ?_
  intro p e s m args below meth c ls A Q H hx hb hml hown hts hK hP hD hA hS hl hR
  have hinX0 : ∀ w ∈ wsX00, w ∈ wsX0_columnRunOf := by decide +kernel
  rw [f_X0_columnRunOf] at hf
  refine lv_aload_n hx hb dX0_columnRunOf_0 rfl (lv_at hl 0 rfl) ?_
  refine va_get (D := D) (ci := 0) (v := .ref (ad 7)) (C := RX0) (T := TX0) (N := 9) hx hb hts hinX0 hown hK.1 hP 0 rfl rfl 8 (by decide) (hts (.fieldLink RX0 30 "Gridpuzzle$Board" "columnRuns" "[I") (by decide +kernel)) (fun _ h9 => h9) rfl dX0_columnRunOf_1 ?_
  refine lv_iload_n hx hb dX0_columnRunOf_4 rfl (lv_at hl 1 rfl) ?_
  refine clN_i (As := [.ref (ad 7), .int p1]) (rest := []) (wB cI ad size rc g fs st ln su rr cr) ⟨hx, hb, hml, hown, hts⟩ (K_X3_at l D cI cZ (ad 7) 16 (by decide) H.size cr p1 _ rfl) ⟨va_cnB (host := RX3) 2 hts gX0_columnRunOf_X3_at_n50 rfl rfl rfl (hK.2 (RX0, 50, yX3_at) (by decide)) (hts (.initialized RX3) (by decide +kernel)) (by decide +kernel) ⟨Nat.le_of_ble_eq_true rfl, Nat.le_of_ble_eq_true rfl⟩, hts (.static yX3_at) (by decide +kernel), trivial⟩ hK hP hD hS hA hl.1 [7] (by decide) rfl rfl rfl rfl rfl (Nat.le_of_ble_eq_true rfl) dX0_columnRunOf_5 ⟨Nat.le_of_ble_eq_true rfl, Nat.le_of_ble_eq_true rfl⟩ (fun H locs hP hD hS => ?_)
  cases hf
  exact hR _ _ _ _ _ _ rfl rfl hP hD hS dX0_columnRunOf_8
end
